theorem hd_LI_isLetter : y_LI_isLetter.cls ≠ "java/lang/invoke/MethodHandle" ∧ y_LI_isLetter.cls ≠ "java/lang/invoke/VarHandle" ∧ (parseMethodDescriptor y_LI_isLetter.desc).map (fun d => d.parameters.length) = some 1 := by decide +kernel
def f_LI_isLetter (p0 : Int32) : Option (Int32) := (if p0 < (97 : Int32) then (some 0) else (if (122 : Int32) < p0 then (some 0) else (some 1)))
set_option maxHeartbeats 4000000 in
set_option maxRecDepth 100000 in
theorem ct_LI_isLetter (l : Launch) (E : jz_E)  (sz : Nat) (p0 : Int32) (o_r : Int32)  (h : f_LI_isLetter p0 = some o_r) : CTi l E y_LI_isLetter c_LI_isLetter 1 (some .boolean) ({ frames := 0, cells := 0, slots := 0, locals := 0 }) [.int p0] [] sz o_r [] := by
  refine jw (by decide +kernel) (Nat.le_of_ble_eq_true rfl) ?_
  intro p e s m below meth c A ls J hJ hAe hsz hA hZ hP hD hl
  rw [← hAe]
  have hS : va_S A s.heap s.heap [] := va_S.rf
  have hl : lv_has ls 1 [(0, .int p0)] := hl
  unfold f_LI_isLetter at h
  refine lv_iload_n J.1 J.2.1 d_LI_isLetter_0 rfl (lv_at hl 0 rfl) ?_
  refine lv_bipush (v := 97) J.1 J.2.1 d_LI_isLetter_1 (by decide) ?_
  refine lv_icmp_lt (tgt := 16) J.1 J.2.1 d_LI_isLetter_3 (by decide) (fun c_1 => ?_) (fun c_1 => ?_)
  · replace h := g_t c_1 h
    refine lv_iconst (v := 0) J.1 J.2.1 d_LI_isLetter_16 (by decide) ?_
    have h := Option.some.inj h
    rw [← h]
    exact jr_i J hS hP hD rfl d_LI_isLetter_17
  · replace h := g_f c_1 h
    refine lv_iload_n J.1 J.2.1 d_LI_isLetter_6 rfl (lv_at hl 0 rfl) ?_
    refine lv_bipush (v := 122) J.1 J.2.1 d_LI_isLetter_7 (by decide) ?_
    refine lv_icmp_gt (tgt := 16) J.1 J.2.1 d_LI_isLetter_9 (by decide) (fun c_2 => ?_) (fun c_2 => ?_)
    · replace h := g_t c_2 h
      refine lv_iconst (v := 0) J.1 J.2.1 d_LI_isLetter_16 (by decide) ?_
      have h := Option.some.inj h
      rw [← h]
      exact jr_i J hS hP hD rfl d_LI_isLetter_17
    · replace h := g_f c_2 h
      refine lv_iconst (v := 1) J.1 J.2.1 d_LI_isLetter_12 (by decide) ?_
      refine lv_goto (tgt := 17) J.1 J.2.1 d_LI_isLetter_13 (by decide) ?_
      have h := Option.some.inj h
      rw [← h]
      exact jr_i J hS hP hD rfl d_LI_isLetter_17

theorem hd_LI_isDigit : y_LI_isDigit.cls ≠ "java/lang/invoke/MethodHandle" ∧ y_LI_isDigit.cls ≠ "java/lang/invoke/VarHandle" ∧ (parseMethodDescriptor y_LI_isDigit.desc).map (fun d => d.parameters.length) = some 1 := by decide +kernel
def f_LI_isDigit (p0 : Int32) : Option (Int32) := (if p0 < (48 : Int32) then (some 0) else (if (57 : Int32) < p0 then (some 0) else (some 1)))
set_option maxHeartbeats 4000000 in
set_option maxRecDepth 100000 in
theorem ct_LI_isDigit (l : Launch) (E : jz_E)  (sz : Nat) (p0 : Int32) (o_r : Int32)  (h : f_LI_isDigit p0 = some o_r) : CTi l E y_LI_isDigit c_LI_isDigit 1 (some .boolean) ({ frames := 0, cells := 0, slots := 0, locals := 0 }) [.int p0] [] sz o_r [] := by
  refine jw (by decide +kernel) (Nat.le_of_ble_eq_true rfl) ?_
  intro p e s m below meth c A ls J hJ hAe hsz hA hZ hP hD hl
  rw [← hAe]
  have hS : va_S A s.heap s.heap [] := va_S.rf
  have hl : lv_has ls 1 [(0, .int p0)] := hl
  unfold f_LI_isDigit at h
  refine lv_iload_n J.1 J.2.1 d_LI_isDigit_0 rfl (lv_at hl 0 rfl) ?_
  refine lv_bipush (v := 48) J.1 J.2.1 d_LI_isDigit_1 (by decide) ?_
  refine lv_icmp_lt (tgt := 16) J.1 J.2.1 d_LI_isDigit_3 (by decide) (fun c_1 => ?_) (fun c_1 => ?_)
  · replace h := g_t c_1 h
    refine lv_iconst (v := 0) J.1 J.2.1 d_LI_isDigit_16 (by decide) ?_
    have h := Option.some.inj h
    rw [← h]
    exact jr_i J hS hP hD rfl d_LI_isDigit_17
  · replace h := g_f c_1 h
    refine lv_iload_n J.1 J.2.1 d_LI_isDigit_6 rfl (lv_at hl 0 rfl) ?_
    refine lv_bipush (v := 57) J.1 J.2.1 d_LI_isDigit_7 (by decide) ?_
    refine lv_icmp_gt (tgt := 16) J.1 J.2.1 d_LI_isDigit_9 (by decide) (fun c_2 => ?_) (fun c_2 => ?_)
    · replace h := g_t c_2 h
      refine lv_iconst (v := 0) J.1 J.2.1 d_LI_isDigit_16 (by decide) ?_
      have h := Option.some.inj h
      rw [← h]
      exact jr_i J hS hP hD rfl d_LI_isDigit_17
    · replace h := g_f c_2 h
      refine lv_iconst (v := 1) J.1 J.2.1 d_LI_isDigit_12 (by decide) ?_
      refine lv_goto (tgt := 17) J.1 J.2.1 d_LI_isDigit_13 (by decide) ?_
      have h := Option.some.inj h
      rw [← h]
      exact jr_i J hS hP hD rfl d_LI_isDigit_17

theorem hd_LI_here : y_LI_here.cls ≠ "java/lang/invoke/MethodHandle" ∧ y_LI_here.cls ≠ "java/lang/invoke/VarHandle" ∧ (parseMethodDescriptor y_LI_here.desc).map (fun d => d.parameters.length) = some 0 := by decide +kernel
def f_LI_here (lat : Int32) (len : Int32) (ltx : Nat → Int32) : Option (Int32) := (if len ≤ lat then (some (-1)) else (if ck lat 3000 then (some (ltx lat.toNatClampNeg)) else none))
set_option maxHeartbeats 4000000 in
set_option maxRecDepth 100000 in
theorem ct_LI_here (l : Launch) (E : jz_E) (l0 l1 : Nat) (sz : Nat) (lat : Int32) (len : Int32) (llb : Int64) (lor : Int32) (laa : Int32) (lbb : Int32) (lnu : Int32) (lwa : Int64) (ltx : Nat → Int32) (o_r : Int32)  (h : f_LI_here lat len ltx = some o_r) : CTi l E y_LI_here c_LI_here 1 (some .int) ({ frames := 0, cells := 0, slots := 0, locals := 0 }) [.ref l0] [(l0, .inr (3, [.ref l1, .int lat, .int len, .long llb, .int lor, .int laa, .int lbb, .int lnu, .long lwa])), (l1, .inl (E.2.1 0, 3000, .inl ltx))] sz o_r [(l0, .inr (3, [.ref l1, .int lat, .int len, .long llb, .int lor, .int laa, .int lbb, .int lnu, .long lwa])), (l1, .inl (E.2.1 0, 3000, .inl ltx))] := by
  refine jw (by decide +kernel) (Nat.le_of_ble_eq_true rfl) ?_
  intro p e s m below meth c A ls J hJ hAe hsz hA hZ hP hD hl
  rw [← hAe]
  have hS : va_S A s.heap s.heap [] := va_S.rf
  have hl : lv_has ls 1 [(0, .ref l0)] := hl
  unfold f_LI_here at h
  refine lv_aload_n J.1 J.2.1 d_LI_here_0 rfl (lv_at hl 0 rfl) ?_
  refine jg J hJ hP 0 rfl rfl i_LI 1 (by decide) gf_LI_19 rfl d_LI_here_1 ?_
  refine lv_aload_n J.1 J.2.1 d_LI_here_4 rfl (lv_at hl 0 rfl) ?_
  refine jg J hJ hP 0 rfl rfl i_LI 2 (by decide) gf_LI_22 rfl d_LI_here_5 ?_
  refine lv_icmp_ge (tgt := 23) J.1 J.2.1 d_LI_here_8 (by decide) (fun c_1 => ?_) (fun c_1 => ?_)
  · replace h := g_t c_1 h
    refine lv_iconst (v := (-1)) J.1 J.2.1 d_LI_here_23 (by decide) ?_
    have h := Option.some.inj h
    rw [← h]
    exact jr_i J hS hP hD rfl d_LI_here_24
  · replace h := g_f c_1 h
    refine lv_aload_n J.1 J.2.1 d_LI_here_11 rfl (lv_at hl 0 rfl) ?_
    refine jg J hJ hP 0 rfl rfl i_LI 0 (by decide) gf_LI_9 rfl d_LI_here_12 ?_
    refine lv_aload_n J.1 J.2.1 d_LI_here_15 rfl (lv_at hl 0 rfl) ?_
    refine jg J hJ hP 0 rfl rfl i_LI 1 (by decide) gf_LI_19 rfl d_LI_here_16 ?_
    replace h := g_ck h
    obtain ⟨k_2, h⟩ := h
    refine jai J hJ hP 1 rfl k_2 d_LI_here_19 ?_
    refine lv_goto (tgt := 24) J.1 J.2.1 d_LI_here_20 (by decide) ?_
    have h := Option.some.inj h
    rw [← h]
    exact jr_i J hS hP hD rfl d_LI_here_24

theorem hd_LI_skipBlanks : y_LI_skipBlanks.cls ≠ "java/lang/invoke/MethodHandle" ∧ y_LI_skipBlanks.cls ≠ "java/lang/invoke/VarHandle" ∧ (parseMethodDescriptor y_LI_skipBlanks.desc).map (fun d => d.parameters.length) = some 0 := by decide +kernel
def b_LI_skipBlanks_0 : Nat → Int32 → Int32 → (Nat → Int32) → Option (Int32)
  | 0, _, _, _ => none
  | n + 1, lat, len, ltx => (if len ≤ lat then (some lat) else (if ck lat 3000 then (if (ltx lat.toNatClampNeg) = (32 : Int32) then b_LI_skipBlanks_0 n (lat + 1) len ltx else (some lat)) else none))
def f_LI_skipBlanks (lat : Int32) (len : Int32) (ltx : Nat → Int32) : Option (Int32) := b_LI_skipBlanks_0 65536 lat len ltx
set_option maxHeartbeats 4000000 in
set_option maxRecDepth 100000 in
theorem kb_LI_skipBlanks_0 {p : Program} {l : Launch} {e : Env} {s : State} {m : MethodId} {below : List Frame} {meth : Method} {c : Code} {A : Nat → Prop} {E : jz_E} {l0 l1 : Nat} {o_lat : Int32} (J : JC p s m ([.ref l0] : List Value).toArray meth c c_LI_skipBlanks 1 none y_LI_skipBlanks.cls) (hJ : jE E s) (hA : ∀ q : Nat, s.heap.size ≤ q → A q) (hZ : jz_ok E A s s.heap) : ∀ (n : Nat) (lat : Int32) (len : Int32) (llb : Int64) (lor : Int32) (laa : Int32) (lbb : Int32) (lnu : Int32) (lwa : Int64) (ltx : Nat → Int32) (H : Heap) (locs : List Loc) (ls : Array Slot), b_LI_skipBlanks_0 n lat len ltx = some o_lat → va_P E.1 classes [(l0, .inr (3, [.ref l1, .int lat, .int len, .long llb, .int lor, .int laa, .int lbb, .int lnu, .long lwa])), (l1, .inl (E.2.1 0, 3000, .inl ltx))] H → va_D A [(l0, .inr (3, [.ref l1, .int lat, .int len, .long llb, .int lor, .int laa, .int lbb, .int lnu, .long lwa])), (l1, .inl (E.2.1 0, 3000, .inl ltx))] → va_S A s.heap H locs → lv_has ls 1 [(0, .ref l0)] → W p l e ({ frames := 0, cells := 0, slots := 0, locals := 0 }) s m ([.ref l0] : List Value).toArray below meth c H locs 0 0 (MQ below (va_Qv (fun (u : va_W) => u = [(l0, .inr (3, [.ref l1, .int o_lat, .int len, .long llb, .int lor, .int laa, .int lbb, .int lnu, .long lwa])), (l1, .inl (E.2.1 0, 3000, .inl ltx))]) (BW E A) A) ([.ref l0] : List Value).toArray s 0 0 A) (F0 m 0 ls []) := by
  intro n
  induction n with
  | zero => intro lat len llb lor laa lbb lnu lwa ltx H locs ls h; cases h
  | succ n ih =>
    intro lat len llb lor laa lbb lnu lwa ltx H locs ls h hP hD hS hl
    rw [b_LI_skipBlanks_0] at h
    refine lv_aload_n J.1 J.2.1 d_LI_skipBlanks_0 rfl (lv_at hl 0 rfl) ?_
    refine jg J hJ hP 0 rfl rfl i_LI 1 (by decide) gf_LI_19 rfl d_LI_skipBlanks_1 ?_
    refine lv_aload_n J.1 J.2.1 d_LI_skipBlanks_4 rfl (lv_at hl 0 rfl) ?_
    refine jg J hJ hP 0 rfl rfl i_LI 2 (by decide) gf_LI_22 rfl d_LI_skipBlanks_5 ?_
    refine lv_icmp_ge (tgt := 38) J.1 J.2.1 d_LI_skipBlanks_8 (by decide) (fun c_1 => ?_) (fun c_1 => ?_)
    · replace h := g_t c_1 h
      have h := Option.some.inj h
      rw [← h]
      exact jr_v J hS hP hD d_LI_skipBlanks_38
    · replace h := g_f c_1 h
      refine lv_aload_n J.1 J.2.1 d_LI_skipBlanks_11 rfl (lv_at hl 0 rfl) ?_
      refine jg J hJ hP 0 rfl rfl i_LI 0 (by decide) gf_LI_9 rfl d_LI_skipBlanks_12 ?_
      refine lv_aload_n J.1 J.2.1 d_LI_skipBlanks_15 rfl (lv_at hl 0 rfl) ?_
      refine jg J hJ hP 0 rfl rfl i_LI 1 (by decide) gf_LI_19 rfl d_LI_skipBlanks_16 ?_
      replace h := g_ck h
      obtain ⟨k_2, h⟩ := h
      refine jai J hJ hP 1 rfl k_2 d_LI_skipBlanks_19 ?_
      refine lv_bipush (v := 32) J.1 J.2.1 d_LI_skipBlanks_20 (by decide) ?_
      refine lv_icmp_ne (tgt := 38) J.1 J.2.1 d_LI_skipBlanks_22 (by decide) (fun c_3 => ?_) (fun c_3 => ?_)
      · replace h := g_f c_3 h
        have h := Option.some.inj h
        rw [← h]
        exact jr_v J hS hP hD d_LI_skipBlanks_38
      · replace h := g_t c_3 h
        refine lv_aload_n J.1 J.2.1 d_LI_skipBlanks_25 rfl (lv_at hl 0 rfl) ?_
        refine lv_dup J.1 J.2.1 d_LI_skipBlanks_26 rfl ?_
        refine jg J hJ hP 0 rfl rfl i_LI 1 (by decide) gf_LI_19 rfl d_LI_skipBlanks_27 ?_
        refine lv_iconst (v := 1) J.1 J.2.1 d_LI_skipBlanks_30 (by decide) ?_
        refine lv_iadd J.1 J.2.1 d_LI_skipBlanks_31 ?_
        refine jp J hJ hP hD hS 0 rfl rfl i_LI t_LI t_LI_ok n_LI 1 (by decide) gf_LI_19 rfl rfl rfl (Nat.le_of_ble_eq_true rfl) d_LI_skipBlanks_32 (WS' := [(l0, .inr (3, [.ref l1, .int (lat + 1), .int len, .long llb, .int lor, .int laa, .int lbb, .int lnu, .long lwa])), (l1, .inl (E.2.1 0, 3000, .inl ltx))]) rfl ?_
        clear hP hD hS
        intro H locs hP hD hS
        refine lv_goto (tgt := 0) J.1 J.2.1 d_LI_skipBlanks_35 (by decide) ?_
        exact ih _ _ _ _ _ _ _ _ _ _ _ _ h hP hD hS (lv_sub hl [0] rfl)
set_option maxHeartbeats 4000000 in
set_option maxRecDepth 100000 in
theorem ct_LI_skipBlanks (l : Launch) (E : jz_E) (l0 l1 : Nat) (sz : Nat) (lat : Int32) (len : Int32) (llb : Int64) (lor : Int32) (laa : Int32) (lbb : Int32) (lnu : Int32) (lwa : Int64) (ltx : Nat → Int32) (o_lat : Int32)  (h : f_LI_skipBlanks lat len ltx = some o_lat) : CTv l E y_LI_skipBlanks c_LI_skipBlanks 1 none ({ frames := 0, cells := 0, slots := 0, locals := 0 }) [.ref l0] [(l0, .inr (3, [.ref l1, .int lat, .int len, .long llb, .int lor, .int laa, .int lbb, .int lnu, .long lwa])), (l1, .inl (E.2.1 0, 3000, .inl ltx))] sz [(l0, .inr (3, [.ref l1, .int o_lat, .int len, .long llb, .int lor, .int laa, .int lbb, .int lnu, .long lwa])), (l1, .inl (E.2.1 0, 3000, .inl ltx))] := by
  refine jw (by decide +kernel) (Nat.le_of_ble_eq_true rfl) ?_
  intro p e s m below meth c A ls J hJ hAe hsz hA hZ hP hD hl
  rw [← hAe]
  have hS : va_S A s.heap s.heap [] := va_S.rf
  have hl : lv_has ls 1 [(0, .ref l0)] := hl
  unfold f_LI_skipBlanks at h
  exact kb_LI_skipBlanks_0 J hJ hA hZ _ _ _ _ _ _ _ _ _ _ _ _ _ h hP hD hS (lv_sub hl [0] rfl)

theorem hd_LI_takeLabel : y_LI_takeLabel.cls ≠ "java/lang/invoke/MethodHandle" ∧ y_LI_takeLabel.cls ≠ "java/lang/invoke/VarHandle" ∧ (parseMethodDescriptor y_LI_takeLabel.desc).map (fun d => d.parameters.length) = some 0 := by decide +kernel
def b_LI_takeLabel_4 : Nat → Int32 → Int32 → (Nat → Int32) → Int64 → Int32 → Option (Int64 × Int32)
  | 0, _, _, _, _, _ => none
  | n + 1, lat, len, ltx, x1, x3 => (if len ≤ lat then (if x3 ≤ (8 : Int32) then (some (x1, lat)) else (some (0, lat))) else (if ck lat 3000 then ((f_LI_isLetter  (ltx lat.toNatClampNeg)).bind fun r_4 => (if r_4 = (0 : Int32) then (if ck lat 3000 then ((f_LI_isDigit  (ltx lat.toNatClampNeg)).bind fun r_12 => (if r_12 = (0 : Int32) then (if x3 ≤ (8 : Int32) then (some (x1, lat)) else (some (0, lat))) else (if ck lat 3000 then ((f_LI_isLetter  (ltx lat.toNatClampNeg)).bind fun r_16 => (if r_16 = (0 : Int32) then (if ck lat 3000 then b_LI_takeLabel_4 n (lat + 1) len ltx ((x1 * 37) + ((((ltx lat.toNatClampNeg) - 48) + 27).toInt64)) (x3 + 1) else none) else (if ck lat 3000 then b_LI_takeLabel_4 n (lat + 1) len ltx ((x1 * 37) + ((((ltx lat.toNatClampNeg) - 97) + 1).toInt64)) (x3 + 1) else none))) else none))) else none) else (if ck lat 3000 then ((f_LI_isLetter  (ltx lat.toNatClampNeg)).bind fun r_7 => (if r_7 = (0 : Int32) then (if ck lat 3000 then b_LI_takeLabel_4 n (lat + 1) len ltx ((x1 * 37) + ((((ltx lat.toNatClampNeg) - 48) + 27).toInt64)) (x3 + 1) else none) else (if ck lat 3000 then b_LI_takeLabel_4 n (lat + 1) len ltx ((x1 * 37) + ((((ltx lat.toNatClampNeg) - 97) + 1).toInt64)) (x3 + 1) else none))) else none))) else none))
def f_LI_takeLabel (lat : Int32) (len : Int32) (ltx : Nat → Int32) : Option (Int64 × Int32) := b_LI_takeLabel_4 65536 lat len ltx 0 0
set_option maxHeartbeats 4000000 in
set_option maxRecDepth 100000 in
theorem kb_LI_takeLabel_4 {p : Program} {l : Launch} {e : Env} {s : State} {m : MethodId} {below : List Frame} {meth : Method} {c : Code} {A : Nat → Prop} {E : jz_E} {l0 l1 : Nat} {o_r : Int64} {o_lat : Int32} (J : JC p s m ([.ref l0] : List Value).toArray meth c c_LI_takeLabel 4 (some .long) y_LI_takeLabel.cls) (hJ : jE E s) (hA : ∀ q : Nat, s.heap.size ≤ q → A q) (hZ : jz_ok E A s s.heap) : ∀ (n : Nat) (lat : Int32) (len : Int32) (llb : Int64) (lor : Int32) (laa : Int32) (lbb : Int32) (lnu : Int32) (lwa : Int64) (ltx : Nat → Int32) (x1 : Int64) (x3 : Int32) (H : Heap) (locs : List Loc) (ls : Array Slot), b_LI_takeLabel_4 n lat len ltx x1 x3 = some (o_r, o_lat) → va_P E.1 classes [(l0, .inr (3, [.ref l1, .int lat, .int len, .long llb, .int lor, .int laa, .int lbb, .int lnu, .long lwa])), (l1, .inl (E.2.1 0, 3000, .inl ltx))] H → va_D A [(l0, .inr (3, [.ref l1, .int lat, .int len, .long llb, .int lor, .int laa, .int lbb, .int lnu, .long lwa])), (l1, .inl (E.2.1 0, 3000, .inl ltx))] → va_S A s.heap H locs → lv_has ls 4 [(0, .ref l0), (1, .long x1), (3, .int x3)] → W p l e ({ frames := 1, cells := 0, slots := 0, locals := 20 }) s m ([.ref l0] : List Value).toArray below meth c H locs 0 0 (MQ below (va_Ql (fun (r' : Int64) (u : va_W) => r' = o_r ∧ u = [(l0, .inr (3, [.ref l1, .int o_lat, .int len, .long llb, .int lor, .int laa, .int lbb, .int lnu, .long lwa])), (l1, .inl (E.2.1 0, 3000, .inl ltx))]) (BW E A) A) ([.ref l0] : List Value).toArray s 0 0 A) (F0 m 4 ls []) := by
  intro n
  induction n with
  | zero => intro lat len llb lor laa lbb lnu lwa ltx x1 x3 H locs ls h; cases h
  | succ n ih =>
    intro lat len llb lor laa lbb lnu lwa ltx x1 x3 H locs ls h hP hD hS hl
    rw [b_LI_takeLabel_4] at h
    refine lv_aload_n J.1 J.2.1 d_LI_takeLabel_4 rfl (lv_at hl 0 rfl) ?_
    refine jg J hJ hP 0 rfl rfl i_LI 1 (by decide) gf_LI_19 rfl d_LI_takeLabel_5 ?_
    refine lv_aload_n J.1 J.2.1 d_LI_takeLabel_8 rfl (lv_at hl 0 rfl) ?_
    refine jg J hJ hP 0 rfl rfl i_LI 2 (by decide) gf_LI_22 rfl d_LI_takeLabel_9 ?_
    refine lv_icmp_ge (tgt := 116) J.1 J.2.1 d_LI_takeLabel_12 (by decide) (fun c_1 => ?_) (fun c_1 => ?_)
    · replace h := g_t c_1 h
      refine lv_iload_n J.1 J.2.1 d_LI_takeLabel_116 rfl (lv_at hl 2 rfl) ?_
      refine lv_bipush (v := 8) J.1 J.2.1 d_LI_takeLabel_117 (by decide) ?_
      refine lv_icmp_le (tgt := 126) J.1 J.2.1 d_LI_takeLabel_119 (by decide) (fun c_2 => ?_) (fun c_2 => ?_)
      · replace h := g_t c_2 h
        refine lv_lload_n J.1 J.2.1 d_LI_takeLabel_126 rfl (lv_at hl 1 rfl) ?_
        have h := Option.some.inj h
        have e_0 := (Prod.mk.inj h).1
        have h := (Prod.mk.inj h).2
        rw [← e_0, ← h]
        exact jr_l J hS hP hD d_LI_takeLabel_127
      · replace h := g_f c_2 h
        refine lv_lconst (v := 0) J.1 J.2.1 d_LI_takeLabel_122 (by decide) ?_
        refine lv_goto (tgt := 127) J.1 J.2.1 d_LI_takeLabel_123 (by decide) ?_
        have h := Option.some.inj h
        have e_0 := (Prod.mk.inj h).1
        have h := (Prod.mk.inj h).2
        rw [← e_0, ← h]
        exact jr_l J hS hP hD d_LI_takeLabel_127
    · replace h := g_f c_1 h
      refine lv_aload_n J.1 J.2.1 d_LI_takeLabel_15 rfl (lv_at hl 0 rfl) ?_
      refine jg J hJ hP 0 rfl rfl i_LI 0 (by decide) gf_LI_9 rfl d_LI_takeLabel_16 ?_
      refine lv_aload_n J.1 J.2.1 d_LI_takeLabel_19 rfl (lv_at hl 0 rfl) ?_
      refine jg J hJ hP 0 rfl rfl i_LI 1 (by decide) gf_LI_19 rfl d_LI_takeLabel_20 ?_
      replace h := g_ck h
      obtain ⟨k_3, h⟩ := h
      refine jai J hJ hP 1 rfl k_3 d_LI_takeLabel_23 ?_
      replace h := g_bd h
      obtain ⟨r_4, q_4, h⟩ := h
      have hq := ct_LI_isLetter l E  H.size  (ltx lat.toNatClampNeg) r_4 q_4
      have hr := jrunS (p := p) (e := e) (below := below) (R := ({ frames := 1, cells := 0, slots := 0, locals := 20 })) (cells := 0) (slots := 0) (As := [.int (ltx lat.toNatClampNeg)]) (rest := []) J hJ hA hZ hP hD hS hq [] rfl (by decide) gl_LI_61 gs_LI_isLetter gini_LI gc_LI_isLetter hd_LI_isLetter ⟨rfl, rfl, Nat.le_of_ble_eq_true rfl, Nat.le_of_ble_eq_true rfl⟩ hl.1 rfl rfl (Nat.le_of_ble_eq_true rfl) d_LI_takeLabel_24 ⟨Nat.zero_le _, Nat.zero_le _⟩
      clear hq
      refine jk_i hr hA hP hD hS [] [0, 1] (WR := [(l0, .inr (3, [.ref l1, .int lat, .int len, .long llb, .int lor, .int laa, .int lbb, .int lnu, .long lwa])), (l1, .inl (E.2.1 0, 3000, .inl ltx))]) rfl rfl (by decide) (by decide) [0, 1] (WF := [(l0, .inr (3, [.ref l1, .int lat, .int len, .long llb, .int lor, .int laa, .int lbb, .int lnu, .long lwa])), (l1, .inl (E.2.1 0, 3000, .inl ltx))]) rfl (by decide) ?_
      clear hP hD hS
      intro H locs hP hD hS
      clear hr
      refine lv_if_ne (tgt := 45) J.1 J.2.1 d_LI_takeLabel_27 (by decide) (fun c_5 => ?_) (fun c_5 => ?_)
      · replace h := g_f c_5 h
        refine lv_lload_n J.1 J.2.1 d_LI_takeLabel_45 rfl (lv_at hl 1 rfl) ?_
        refine lv_ldc2 (v := 37) J.1 J.2.1 J.2.2.2.2.1 (J.2.2.2.2.2.1 _ gkl_LI_100) d_LI_takeLabel_46 ?_
        refine lv_lmul J.1 J.2.1 d_LI_takeLabel_49 ?_
        refine lv_aload_n J.1 J.2.1 d_LI_takeLabel_50 rfl (lv_at hl 0 rfl) ?_
        refine jg J hJ hP 0 rfl rfl i_LI 0 (by decide) gf_LI_9 rfl d_LI_takeLabel_51 ?_
        refine lv_aload_n J.1 J.2.1 d_LI_takeLabel_54 rfl (lv_at hl 0 rfl) ?_
        refine jg J hJ hP 0 rfl rfl i_LI 1 (by decide) gf_LI_19 rfl d_LI_takeLabel_55 ?_
        replace h := g_ck h
        obtain ⟨k_6, h⟩ := h
        refine jai J hJ hP 1 rfl k_6 d_LI_takeLabel_58 ?_
        replace h := g_bd h
        obtain ⟨r_7, q_7, h⟩ := h
        have hq := ct_LI_isLetter l E  H.size  (ltx lat.toNatClampNeg) r_7 q_7
        have hr := jrunS (p := p) (e := e) (below := below) (R := ({ frames := 1, cells := 0, slots := 0, locals := 20 })) (cells := 0) (slots := 0) (As := [.int (ltx lat.toNatClampNeg)]) (rest := [.long (x1 * 37)]) J hJ hA hZ hP hD hS hq [] rfl (by decide) gl_LI_61 gs_LI_isLetter gini_LI gc_LI_isLetter hd_LI_isLetter ⟨rfl, rfl, Nat.le_of_ble_eq_true rfl, Nat.le_of_ble_eq_true rfl⟩ hl.1 rfl rfl (Nat.le_of_ble_eq_true rfl) d_LI_takeLabel_59 ⟨Nat.zero_le _, Nat.zero_le _⟩
        clear hq
        refine jk_i hr hA hP hD hS [] [0, 1] (WR := [(l0, .inr (3, [.ref l1, .int lat, .int len, .long llb, .int lor, .int laa, .int lbb, .int lnu, .long lwa])), (l1, .inl (E.2.1 0, 3000, .inl ltx))]) rfl rfl (by decide) (by decide) [0, 1] (WF := [(l0, .inr (3, [.ref l1, .int lat, .int len, .long llb, .int lor, .int laa, .int lbb, .int lnu, .long lwa])), (l1, .inl (E.2.1 0, 3000, .inl ltx))]) rfl (by decide) ?_
        clear hP hD hS
        intro H locs hP hD hS
        clear hr
        refine lv_if_eq (tgt := 82) J.1 J.2.1 d_LI_takeLabel_62 (by decide) (fun c_8 => ?_) (fun c_8 => ?_)
        · replace h := g_t c_8 h
          refine lv_aload_n J.1 J.2.1 d_LI_takeLabel_82 rfl (lv_at hl 0 rfl) ?_
          refine jg J hJ hP 0 rfl rfl i_LI 0 (by decide) gf_LI_9 rfl d_LI_takeLabel_83 ?_
          refine lv_aload_n J.1 J.2.1 d_LI_takeLabel_86 rfl (lv_at hl 0 rfl) ?_
          refine jg J hJ hP 0 rfl rfl i_LI 1 (by decide) gf_LI_19 rfl d_LI_takeLabel_87 ?_
          replace h := g_ck h
          obtain ⟨k_9, h⟩ := h
          refine jai J hJ hP 1 rfl k_9 d_LI_takeLabel_90 ?_
          refine lv_bipush (v := 48) J.1 J.2.1 d_LI_takeLabel_91 (by decide) ?_
          refine lv_isub J.1 J.2.1 d_LI_takeLabel_93 ?_
          refine lv_bipush (v := 27) J.1 J.2.1 d_LI_takeLabel_94 (by decide) ?_
          refine lv_iadd J.1 J.2.1 d_LI_takeLabel_96 ?_
          refine lv_i2l J.1 J.2.1 d_LI_takeLabel_97 rfl ?_
          refine lv_ladd J.1 J.2.1 d_LI_takeLabel_98 ?_
          refine lv_lstore_n (lv' := [(1, .long ((x1 * 37) + ((((ltx lat.toNatClampNeg) - 48) + 27).toInt64))), (0, .ref l0), (3, .int x3)]) J.1 J.2.1 d_LI_takeLabel_99 rfl hl (by decide) rfl ?_
          clear hl
          intro ls hl
          refine lv_iinc (v := (x3 + 1)) (lv' := [(3, .int (x3 + 1)), (1, .long ((x1 * 37) + ((((ltx lat.toNatClampNeg) - 48) + 27).toInt64))), (0, .ref l0)]) J.1 J.2.1 d_LI_takeLabel_100 hl (k := 2) rfl rfl (by decide) rfl ?_
          clear hl
          intro ls hl
          refine lv_aload_n J.1 J.2.1 d_LI_takeLabel_103 rfl (lv_at hl 2 rfl) ?_
          refine lv_dup J.1 J.2.1 d_LI_takeLabel_104 rfl ?_
          refine jg J hJ hP 0 rfl rfl i_LI 1 (by decide) gf_LI_19 rfl d_LI_takeLabel_105 ?_
          refine lv_iconst (v := 1) J.1 J.2.1 d_LI_takeLabel_108 (by decide) ?_
          refine lv_iadd J.1 J.2.1 d_LI_takeLabel_109 ?_
          refine jp J hJ hP hD hS 0 rfl rfl i_LI t_LI t_LI_ok n_LI 1 (by decide) gf_LI_19 rfl rfl rfl (Nat.le_of_ble_eq_true rfl) d_LI_takeLabel_110 (WS' := [(l0, .inr (3, [.ref l1, .int (lat + 1), .int len, .long llb, .int lor, .int laa, .int lbb, .int lnu, .long lwa])), (l1, .inl (E.2.1 0, 3000, .inl ltx))]) rfl ?_
          clear hP hD hS
          intro H locs hP hD hS
          refine lv_goto (tgt := 4) J.1 J.2.1 d_LI_takeLabel_113 (by decide) ?_
          exact ih _ _ _ _ _ _ _ _ _ _ _ _ _ _ h hP hD hS (lv_sub hl [2, 1, 0] rfl)
        · replace h := g_f c_8 h
          refine lv_aload_n J.1 J.2.1 d_LI_takeLabel_65 rfl (lv_at hl 0 rfl) ?_
          refine jg J hJ hP 0 rfl rfl i_LI 0 (by decide) gf_LI_9 rfl d_LI_takeLabel_66 ?_
          refine lv_aload_n J.1 J.2.1 d_LI_takeLabel_69 rfl (lv_at hl 0 rfl) ?_
          refine jg J hJ hP 0 rfl rfl i_LI 1 (by decide) gf_LI_19 rfl d_LI_takeLabel_70 ?_
          replace h := g_ck h
          obtain ⟨k_10, h⟩ := h
          refine jai J hJ hP 1 rfl k_10 d_LI_takeLabel_73 ?_
          refine lv_bipush (v := 97) J.1 J.2.1 d_LI_takeLabel_74 (by decide) ?_
          refine lv_isub J.1 J.2.1 d_LI_takeLabel_76 ?_
          refine lv_iconst (v := 1) J.1 J.2.1 d_LI_takeLabel_77 (by decide) ?_
          refine lv_iadd J.1 J.2.1 d_LI_takeLabel_78 ?_
          refine lv_goto (tgt := 97) J.1 J.2.1 d_LI_takeLabel_79 (by decide) ?_
          refine lv_i2l J.1 J.2.1 d_LI_takeLabel_97 rfl ?_
          refine lv_ladd J.1 J.2.1 d_LI_takeLabel_98 ?_
          refine lv_lstore_n (lv' := [(1, .long ((x1 * 37) + ((((ltx lat.toNatClampNeg) - 97) + 1).toInt64))), (0, .ref l0), (3, .int x3)]) J.1 J.2.1 d_LI_takeLabel_99 rfl hl (by decide) rfl ?_
          clear hl
          intro ls hl
          refine lv_iinc (v := (x3 + 1)) (lv' := [(3, .int (x3 + 1)), (1, .long ((x1 * 37) + ((((ltx lat.toNatClampNeg) - 97) + 1).toInt64))), (0, .ref l0)]) J.1 J.2.1 d_LI_takeLabel_100 hl (k := 2) rfl rfl (by decide) rfl ?_
          clear hl
          intro ls hl
          refine lv_aload_n J.1 J.2.1 d_LI_takeLabel_103 rfl (lv_at hl 2 rfl) ?_
          refine lv_dup J.1 J.2.1 d_LI_takeLabel_104 rfl ?_
          refine jg J hJ hP 0 rfl rfl i_LI 1 (by decide) gf_LI_19 rfl d_LI_takeLabel_105 ?_
          refine lv_iconst (v := 1) J.1 J.2.1 d_LI_takeLabel_108 (by decide) ?_
          refine lv_iadd J.1 J.2.1 d_LI_takeLabel_109 ?_
          refine jp J hJ hP hD hS 0 rfl rfl i_LI t_LI t_LI_ok n_LI 1 (by decide) gf_LI_19 rfl rfl rfl (Nat.le_of_ble_eq_true rfl) d_LI_takeLabel_110 (WS' := [(l0, .inr (3, [.ref l1, .int (lat + 1), .int len, .long llb, .int lor, .int laa, .int lbb, .int lnu, .long lwa])), (l1, .inl (E.2.1 0, 3000, .inl ltx))]) rfl ?_
          clear hP hD hS
          intro H locs hP hD hS
          refine lv_goto (tgt := 4) J.1 J.2.1 d_LI_takeLabel_113 (by decide) ?_
          exact ih _ _ _ _ _ _ _ _ _ _ _ _ _ _ h hP hD hS (lv_sub hl [2, 1, 0] rfl)
      · replace h := g_t c_5 h
        refine lv_aload_n J.1 J.2.1 d_LI_takeLabel_30 rfl (lv_at hl 0 rfl) ?_
        refine jg J hJ hP 0 rfl rfl i_LI 0 (by decide) gf_LI_9 rfl d_LI_takeLabel_31 ?_
        refine lv_aload_n J.1 J.2.1 d_LI_takeLabel_34 rfl (lv_at hl 0 rfl) ?_
        refine jg J hJ hP 0 rfl rfl i_LI 1 (by decide) gf_LI_19 rfl d_LI_takeLabel_35 ?_
        replace h := g_ck h
        obtain ⟨k_11, h⟩ := h
        refine jai J hJ hP 1 rfl k_11 d_LI_takeLabel_38 ?_
        replace h := g_bd h
        obtain ⟨r_12, q_12, h⟩ := h
        have hq := ct_LI_isDigit l E  H.size  (ltx lat.toNatClampNeg) r_12 q_12
        have hr := jrunS (p := p) (e := e) (below := below) (R := ({ frames := 1, cells := 0, slots := 0, locals := 20 })) (cells := 0) (slots := 0) (As := [.int (ltx lat.toNatClampNeg)]) (rest := []) J hJ hA hZ hP hD hS hq [] rfl (by decide) gl_LI_96 gs_LI_isDigit gini_LI gc_LI_isDigit hd_LI_isDigit ⟨rfl, rfl, Nat.le_of_ble_eq_true rfl, Nat.le_of_ble_eq_true rfl⟩ hl.1 rfl rfl (Nat.le_of_ble_eq_true rfl) d_LI_takeLabel_39 ⟨Nat.zero_le _, Nat.zero_le _⟩
        clear hq
        refine jk_i hr hA hP hD hS [] [0, 1] (WR := [(l0, .inr (3, [.ref l1, .int lat, .int len, .long llb, .int lor, .int laa, .int lbb, .int lnu, .long lwa])), (l1, .inl (E.2.1 0, 3000, .inl ltx))]) rfl rfl (by decide) (by decide) [0, 1] (WF := [(l0, .inr (3, [.ref l1, .int lat, .int len, .long llb, .int lor, .int laa, .int lbb, .int lnu, .long lwa])), (l1, .inl (E.2.1 0, 3000, .inl ltx))]) rfl (by decide) ?_
        clear hP hD hS
        intro H locs hP hD hS
        clear hr
        refine lv_if_eq (tgt := 116) J.1 J.2.1 d_LI_takeLabel_42 (by decide) (fun c_13 => ?_) (fun c_13 => ?_)
        · replace h := g_t c_13 h
          refine lv_iload_n J.1 J.2.1 d_LI_takeLabel_116 rfl (lv_at hl 2 rfl) ?_
          refine lv_bipush (v := 8) J.1 J.2.1 d_LI_takeLabel_117 (by decide) ?_
          refine lv_icmp_le (tgt := 126) J.1 J.2.1 d_LI_takeLabel_119 (by decide) (fun c_14 => ?_) (fun c_14 => ?_)
          · replace h := g_t c_14 h
            refine lv_lload_n J.1 J.2.1 d_LI_takeLabel_126 rfl (lv_at hl 1 rfl) ?_
            have h := Option.some.inj h
            have e_0 := (Prod.mk.inj h).1
            have h := (Prod.mk.inj h).2
            rw [← e_0, ← h]
            exact jr_l J hS hP hD d_LI_takeLabel_127
          · replace h := g_f c_14 h
            refine lv_lconst (v := 0) J.1 J.2.1 d_LI_takeLabel_122 (by decide) ?_
            refine lv_goto (tgt := 127) J.1 J.2.1 d_LI_takeLabel_123 (by decide) ?_
            have h := Option.some.inj h
            have e_0 := (Prod.mk.inj h).1
            have h := (Prod.mk.inj h).2
            rw [← e_0, ← h]
            exact jr_l J hS hP hD d_LI_takeLabel_127
        · replace h := g_f c_13 h
          refine lv_lload_n J.1 J.2.1 d_LI_takeLabel_45 rfl (lv_at hl 1 rfl) ?_
          refine lv_ldc2 (v := 37) J.1 J.2.1 J.2.2.2.2.1 (J.2.2.2.2.2.1 _ gkl_LI_100) d_LI_takeLabel_46 ?_
          refine lv_lmul J.1 J.2.1 d_LI_takeLabel_49 ?_
          refine lv_aload_n J.1 J.2.1 d_LI_takeLabel_50 rfl (lv_at hl 0 rfl) ?_
          refine jg J hJ hP 0 rfl rfl i_LI 0 (by decide) gf_LI_9 rfl d_LI_takeLabel_51 ?_
          refine lv_aload_n J.1 J.2.1 d_LI_takeLabel_54 rfl (lv_at hl 0 rfl) ?_
          refine jg J hJ hP 0 rfl rfl i_LI 1 (by decide) gf_LI_19 rfl d_LI_takeLabel_55 ?_
          replace h := g_ck h
          obtain ⟨k_15, h⟩ := h
          refine jai J hJ hP 1 rfl k_15 d_LI_takeLabel_58 ?_
          replace h := g_bd h
          obtain ⟨r_16, q_16, h⟩ := h
          have hq := ct_LI_isLetter l E  H.size  (ltx lat.toNatClampNeg) r_16 q_16
          have hr := jrunS (p := p) (e := e) (below := below) (R := ({ frames := 1, cells := 0, slots := 0, locals := 20 })) (cells := 0) (slots := 0) (As := [.int (ltx lat.toNatClampNeg)]) (rest := [.long (x1 * 37)]) J hJ hA hZ hP hD hS hq [] rfl (by decide) gl_LI_61 gs_LI_isLetter gini_LI gc_LI_isLetter hd_LI_isLetter ⟨rfl, rfl, Nat.le_of_ble_eq_true rfl, Nat.le_of_ble_eq_true rfl⟩ hl.1 rfl rfl (Nat.le_of_ble_eq_true rfl) d_LI_takeLabel_59 ⟨Nat.zero_le _, Nat.zero_le _⟩
          clear hq
          refine jk_i hr hA hP hD hS [] [0, 1] (WR := [(l0, .inr (3, [.ref l1, .int lat, .int len, .long llb, .int lor, .int laa, .int lbb, .int lnu, .long lwa])), (l1, .inl (E.2.1 0, 3000, .inl ltx))]) rfl rfl (by decide) (by decide) [0, 1] (WF := [(l0, .inr (3, [.ref l1, .int lat, .int len, .long llb, .int lor, .int laa, .int lbb, .int lnu, .long lwa])), (l1, .inl (E.2.1 0, 3000, .inl ltx))]) rfl (by decide) ?_
          clear hP hD hS
          intro H locs hP hD hS
          clear hr
          refine lv_if_eq (tgt := 82) J.1 J.2.1 d_LI_takeLabel_62 (by decide) (fun c_17 => ?_) (fun c_17 => ?_)
          · replace h := g_t c_17 h
            refine lv_aload_n J.1 J.2.1 d_LI_takeLabel_82 rfl (lv_at hl 0 rfl) ?_
            refine jg J hJ hP 0 rfl rfl i_LI 0 (by decide) gf_LI_9 rfl d_LI_takeLabel_83 ?_
            refine lv_aload_n J.1 J.2.1 d_LI_takeLabel_86 rfl (lv_at hl 0 rfl) ?_
            refine jg J hJ hP 0 rfl rfl i_LI 1 (by decide) gf_LI_19 rfl d_LI_takeLabel_87 ?_
            replace h := g_ck h
            obtain ⟨k_18, h⟩ := h
            refine jai J hJ hP 1 rfl k_18 d_LI_takeLabel_90 ?_
            refine lv_bipush (v := 48) J.1 J.2.1 d_LI_takeLabel_91 (by decide) ?_
            refine lv_isub J.1 J.2.1 d_LI_takeLabel_93 ?_
            refine lv_bipush (v := 27) J.1 J.2.1 d_LI_takeLabel_94 (by decide) ?_
            refine lv_iadd J.1 J.2.1 d_LI_takeLabel_96 ?_
            refine lv_i2l J.1 J.2.1 d_LI_takeLabel_97 rfl ?_
            refine lv_ladd J.1 J.2.1 d_LI_takeLabel_98 ?_
            refine lv_lstore_n (lv' := [(1, .long ((x1 * 37) + ((((ltx lat.toNatClampNeg) - 48) + 27).toInt64))), (0, .ref l0), (3, .int x3)]) J.1 J.2.1 d_LI_takeLabel_99 rfl hl (by decide) rfl ?_
            clear hl
            intro ls hl
            refine lv_iinc (v := (x3 + 1)) (lv' := [(3, .int (x3 + 1)), (1, .long ((x1 * 37) + ((((ltx lat.toNatClampNeg) - 48) + 27).toInt64))), (0, .ref l0)]) J.1 J.2.1 d_LI_takeLabel_100 hl (k := 2) rfl rfl (by decide) rfl ?_
            clear hl
            intro ls hl
            refine lv_aload_n J.1 J.2.1 d_LI_takeLabel_103 rfl (lv_at hl 2 rfl) ?_
            refine lv_dup J.1 J.2.1 d_LI_takeLabel_104 rfl ?_
            refine jg J hJ hP 0 rfl rfl i_LI 1 (by decide) gf_LI_19 rfl d_LI_takeLabel_105 ?_
            refine lv_iconst (v := 1) J.1 J.2.1 d_LI_takeLabel_108 (by decide) ?_
            refine lv_iadd J.1 J.2.1 d_LI_takeLabel_109 ?_
            refine jp J hJ hP hD hS 0 rfl rfl i_LI t_LI t_LI_ok n_LI 1 (by decide) gf_LI_19 rfl rfl rfl (Nat.le_of_ble_eq_true rfl) d_LI_takeLabel_110 (WS' := [(l0, .inr (3, [.ref l1, .int (lat + 1), .int len, .long llb, .int lor, .int laa, .int lbb, .int lnu, .long lwa])), (l1, .inl (E.2.1 0, 3000, .inl ltx))]) rfl ?_
            clear hP hD hS
            intro H locs hP hD hS
            refine lv_goto (tgt := 4) J.1 J.2.1 d_LI_takeLabel_113 (by decide) ?_
            exact ih _ _ _ _ _ _ _ _ _ _ _ _ _ _ h hP hD hS (lv_sub hl [2, 1, 0] rfl)
          · replace h := g_f c_17 h
            refine lv_aload_n J.1 J.2.1 d_LI_takeLabel_65 rfl (lv_at hl 0 rfl) ?_
            refine jg J hJ hP 0 rfl rfl i_LI 0 (by decide) gf_LI_9 rfl d_LI_takeLabel_66 ?_
            refine lv_aload_n J.1 J.2.1 d_LI_takeLabel_69 rfl (lv_at hl 0 rfl) ?_
            refine jg J hJ hP 0 rfl rfl i_LI 1 (by decide) gf_LI_19 rfl d_LI_takeLabel_70 ?_
            replace h := g_ck h
            obtain ⟨k_19, h⟩ := h
            refine jai J hJ hP 1 rfl k_19 d_LI_takeLabel_73 ?_
            refine lv_bipush (v := 97) J.1 J.2.1 d_LI_takeLabel_74 (by decide) ?_
            refine lv_isub J.1 J.2.1 d_LI_takeLabel_76 ?_
            refine lv_iconst (v := 1) J.1 J.2.1 d_LI_takeLabel_77 (by decide) ?_
            refine lv_iadd J.1 J.2.1 d_LI_takeLabel_78 ?_
            refine lv_goto (tgt := 97) J.1 J.2.1 d_LI_takeLabel_79 (by decide) ?_
            refine lv_i2l J.1 J.2.1 d_LI_takeLabel_97 rfl ?_
            refine lv_ladd J.1 J.2.1 d_LI_takeLabel_98 ?_
            refine lv_lstore_n (lv' := [(1, .long ((x1 * 37) + ((((ltx lat.toNatClampNeg) - 97) + 1).toInt64))), (0, .ref l0), (3, .int x3)]) J.1 J.2.1 d_LI_takeLabel_99 rfl hl (by decide) rfl ?_
            clear hl
            intro ls hl
            refine lv_iinc (v := (x3 + 1)) (lv' := [(3, .int (x3 + 1)), (1, .long ((x1 * 37) + ((((ltx lat.toNatClampNeg) - 97) + 1).toInt64))), (0, .ref l0)]) J.1 J.2.1 d_LI_takeLabel_100 hl (k := 2) rfl rfl (by decide) rfl ?_
            clear hl
            intro ls hl
            refine lv_aload_n J.1 J.2.1 d_LI_takeLabel_103 rfl (lv_at hl 2 rfl) ?_
            refine lv_dup J.1 J.2.1 d_LI_takeLabel_104 rfl ?_
            refine jg J hJ hP 0 rfl rfl i_LI 1 (by decide) gf_LI_19 rfl d_LI_takeLabel_105 ?_
            refine lv_iconst (v := 1) J.1 J.2.1 d_LI_takeLabel_108 (by decide) ?_
            refine lv_iadd J.1 J.2.1 d_LI_takeLabel_109 ?_
            refine jp J hJ hP hD hS 0 rfl rfl i_LI t_LI t_LI_ok n_LI 1 (by decide) gf_LI_19 rfl rfl rfl (Nat.le_of_ble_eq_true rfl) d_LI_takeLabel_110 (WS' := [(l0, .inr (3, [.ref l1, .int (lat + 1), .int len, .long llb, .int lor, .int laa, .int lbb, .int lnu, .long lwa])), (l1, .inl (E.2.1 0, 3000, .inl ltx))]) rfl ?_
            clear hP hD hS
            intro H locs hP hD hS
            refine lv_goto (tgt := 4) J.1 J.2.1 d_LI_takeLabel_113 (by decide) ?_
            exact ih _ _ _ _ _ _ _ _ _ _ _ _ _ _ h hP hD hS (lv_sub hl [2, 1, 0] rfl)
set_option maxHeartbeats 4000000 in
set_option maxRecDepth 100000 in
theorem ct_LI_takeLabel (l : Launch) (E : jz_E) (l0 l1 : Nat) (sz : Nat) (lat : Int32) (len : Int32) (llb : Int64) (lor : Int32) (laa : Int32) (lbb : Int32) (lnu : Int32) (lwa : Int64) (ltx : Nat → Int32) (o_r : Int64) (o_lat : Int32)  (h : f_LI_takeLabel lat len ltx = some (o_r, o_lat)) : CTl l E y_LI_takeLabel c_LI_takeLabel 4 (some .long) ({ frames := 1, cells := 0, slots := 0, locals := 20 }) [.ref l0] [(l0, .inr (3, [.ref l1, .int lat, .int len, .long llb, .int lor, .int laa, .int lbb, .int lnu, .long lwa])), (l1, .inl (E.2.1 0, 3000, .inl ltx))] sz o_r [(l0, .inr (3, [.ref l1, .int o_lat, .int len, .long llb, .int lor, .int laa, .int lbb, .int lnu, .long lwa])), (l1, .inl (E.2.1 0, 3000, .inl ltx))] := by
  refine jw (by decide +kernel) (Nat.le_of_ble_eq_true rfl) ?_
  intro p e s m below meth c A ls J hJ hAe hsz hA hZ hP hD hl
  rw [← hAe]
  have hS : va_S A s.heap s.heap [] := va_S.rf
  have hl : lv_has ls 4 [(0, .ref l0)] := hl
  unfold f_LI_takeLabel at h
  refine lv_lconst (v := 0) J.1 J.2.1 d_LI_takeLabel_0 (by decide) ?_
  refine lv_lstore_n (lv' := [(1, .long 0), (0, .ref l0)]) J.1 J.2.1 d_LI_takeLabel_1 rfl hl (by decide) rfl ?_
  clear hl
  intro ls hl
  refine lv_iconst (v := 0) J.1 J.2.1 d_LI_takeLabel_2 (by decide) ?_
  refine lv_istore_n (lv' := [(3, .int 0), (1, .long 0), (0, .ref l0)]) J.1 J.2.1 d_LI_takeLabel_3 rfl hl (by decide) rfl ?_
  clear hl
  intro ls hl
  exact kb_LI_takeLabel_4 J hJ hA hZ _ _ _ _ _ _ _ _ _ _ _ _ _ _ _ h hP hD hS (lv_sub hl [2, 1, 0] rfl)

theorem hd_LI_takeNumber : y_LI_takeNumber.cls ≠ "java/lang/invoke/MethodHandle" ∧ y_LI_takeNumber.cls ≠ "java/lang/invoke/VarHandle" ∧ (parseMethodDescriptor y_LI_takeNumber.desc).map (fun d => d.parameters.length) = some 0 := by decide +kernel
def b_LI_takeNumber_69 (lat : Int32) (x1 : Int32) (x2 : Int32) : Option (Int32 × Int32) := (if x2 = (0 : Int32) then (some ((-1), lat)) else (if (5 : Int32) < x2 then (some ((-1), lat)) else (if x1 ≤ (65535 : Int32) then (some (x1, lat)) else (some ((-1), lat)))))
def b_LI_takeNumber_4 : Nat → Int32 → Int32 → (Nat → Int32) → Int32 → Int32 → Option (Int32 × Int32)
  | 0, _, _, _, _, _ => none
  | n + 1, lat, len, ltx, x1, x2 => (if len ≤ lat then b_LI_takeNumber_69 lat x1 x2 else (if ck lat 3000 then ((f_LI_isDigit  (ltx lat.toNatClampNeg)).bind fun r_6 => (if r_6 = (0 : Int32) then b_LI_takeNumber_69 lat x1 x2 else (if (5 : Int32) < x2 then b_LI_takeNumber_69 lat x1 x2 else (if ck lat 3000 then b_LI_takeNumber_4 n (lat + 1) len ltx (((x1 * 10) + (ltx lat.toNatClampNeg)) - 48) (x2 + 1) else none)))) else none))
def f_LI_takeNumber (lat : Int32) (len : Int32) (ltx : Nat → Int32) : Option (Int32 × Int32) := b_LI_takeNumber_4 65536 lat len ltx 0 0
set_option maxHeartbeats 4000000 in
set_option maxRecDepth 100000 in
theorem kb_LI_takeNumber_69 {p : Program} {l : Launch} {e : Env} {s : State} {m : MethodId} {below : List Frame} {meth : Method} {c : Code} {A : Nat → Prop} {E : jz_E} {l0 l1 : Nat} {o_r : Int32} {o_lat : Int32} (J : JC p s m ([.ref l0] : List Value).toArray meth c c_LI_takeNumber 3 (some .int) y_LI_takeNumber.cls) (hJ : jE E s) (hA : ∀ q : Nat, s.heap.size ≤ q → A q) (hZ : jz_ok E A s s.heap) : ∀ (lat : Int32) (len : Int32) (llb : Int64) (lor : Int32) (laa : Int32) (lbb : Int32) (lnu : Int32) (lwa : Int64) (ltx : Nat → Int32) (x1 : Int32) (x2 : Int32) (H : Heap) (locs : List Loc) (ls : Array Slot), b_LI_takeNumber_69 lat x1 x2 = some (o_r, o_lat) → va_P E.1 classes [(l0, .inr (3, [.ref l1, .int lat, .int len, .long llb, .int lor, .int laa, .int lbb, .int lnu, .long lwa])), (l1, .inl (E.2.1 0, 3000, .inl ltx))] H → va_D A [(l0, .inr (3, [.ref l1, .int lat, .int len, .long llb, .int lor, .int laa, .int lbb, .int lnu, .long lwa])), (l1, .inl (E.2.1 0, 3000, .inl ltx))] → va_S A s.heap H locs → lv_has ls 3 [(1, .int x1), (2, .int x2)] → W p l e ({ frames := 1, cells := 0, slots := 0, locals := 20 }) s m ([.ref l0] : List Value).toArray below meth c H locs 0 0 (MQ below (va_Qi (fun (r' : Int32) (u : va_W) => r' = o_r ∧ u = [(l0, .inr (3, [.ref l1, .int o_lat, .int len, .long llb, .int lor, .int laa, .int lbb, .int lnu, .long lwa])), (l1, .inl (E.2.1 0, 3000, .inl ltx))]) (BW E A) A) ([.ref l0] : List Value).toArray s 0 0 A) (F0 m 69 ls []) := by
  intro lat len llb lor laa lbb lnu lwa ltx x1 x2 H locs ls h hP hD hS hl
  rw [b_LI_takeNumber_69] at h
  refine lv_iload_n J.1 J.2.1 d_LI_takeNumber_69 rfl (lv_at hl 1 rfl) ?_
  refine lv_if_eq (tgt := 84) J.1 J.2.1 d_LI_takeNumber_70 (by decide) (fun c_1 => ?_) (fun c_1 => ?_)
  · replace h := g_t c_1 h
    refine lv_iconst (v := (-1)) J.1 J.2.1 d_LI_takeNumber_84 (by decide) ?_
    refine lv_goto (tgt := 89) J.1 J.2.1 d_LI_takeNumber_85 (by decide) ?_
    have h := Option.some.inj h
    have e_0 := (Prod.mk.inj h).1
    have h := (Prod.mk.inj h).2
    rw [← e_0, ← h]
    exact jr_i J hS hP hD rfl d_LI_takeNumber_89
  · replace h := g_f c_1 h
    refine lv_iload_n J.1 J.2.1 d_LI_takeNumber_73 rfl (lv_at hl 1 rfl) ?_
    refine lv_iconst (v := 5) J.1 J.2.1 d_LI_takeNumber_74 (by decide) ?_
    refine lv_icmp_gt (tgt := 84) J.1 J.2.1 d_LI_takeNumber_75 (by decide) (fun c_2 => ?_) (fun c_2 => ?_)
    · replace h := g_t c_2 h
      refine lv_iconst (v := (-1)) J.1 J.2.1 d_LI_takeNumber_84 (by decide) ?_
      refine lv_goto (tgt := 89) J.1 J.2.1 d_LI_takeNumber_85 (by decide) ?_
      have h := Option.some.inj h
      have e_0 := (Prod.mk.inj h).1
      have h := (Prod.mk.inj h).2
      rw [← e_0, ← h]
      exact jr_i J hS hP hD rfl d_LI_takeNumber_89
    · replace h := g_f c_2 h
      refine lv_iload_n J.1 J.2.1 d_LI_takeNumber_78 rfl (lv_at hl 0 rfl) ?_
      refine lv_ldc (v := 65535) J.1 J.2.1 J.2.2.2.2.1 (J.2.2.2.2.2.1 _ gk_LI_99) d_LI_takeNumber_79 ?_
      refine lv_icmp_le (tgt := 88) J.1 J.2.1 d_LI_takeNumber_81 (by decide) (fun c_3 => ?_) (fun c_3 => ?_)
      · replace h := g_t c_3 h
        refine lv_iload_n J.1 J.2.1 d_LI_takeNumber_88 rfl (lv_at hl 0 rfl) ?_
        have h := Option.some.inj h
        have e_0 := (Prod.mk.inj h).1
        have h := (Prod.mk.inj h).2
        rw [← e_0, ← h]
        exact jr_i J hS hP hD rfl d_LI_takeNumber_89
      · replace h := g_f c_3 h
        refine lv_iconst (v := (-1)) J.1 J.2.1 d_LI_takeNumber_84 (by decide) ?_
        refine lv_goto (tgt := 89) J.1 J.2.1 d_LI_takeNumber_85 (by decide) ?_
        have h := Option.some.inj h
        have e_0 := (Prod.mk.inj h).1
        have h := (Prod.mk.inj h).2
        rw [← e_0, ← h]
        exact jr_i J hS hP hD rfl d_LI_takeNumber_89
set_option maxHeartbeats 4000000 in
set_option maxRecDepth 100000 in
theorem kb_LI_takeNumber_4 {p : Program} {l : Launch} {e : Env} {s : State} {m : MethodId} {below : List Frame} {meth : Method} {c : Code} {A : Nat → Prop} {E : jz_E} {l0 l1 : Nat} {o_r : Int32} {o_lat : Int32} (J : JC p s m ([.ref l0] : List Value).toArray meth c c_LI_takeNumber 3 (some .int) y_LI_takeNumber.cls) (hJ : jE E s) (hA : ∀ q : Nat, s.heap.size ≤ q → A q) (hZ : jz_ok E A s s.heap) : ∀ (n : Nat) (lat : Int32) (len : Int32) (llb : Int64) (lor : Int32) (laa : Int32) (lbb : Int32) (lnu : Int32) (lwa : Int64) (ltx : Nat → Int32) (x1 : Int32) (x2 : Int32) (H : Heap) (locs : List Loc) (ls : Array Slot), b_LI_takeNumber_4 n lat len ltx x1 x2 = some (o_r, o_lat) → va_P E.1 classes [(l0, .inr (3, [.ref l1, .int lat, .int len, .long llb, .int lor, .int laa, .int lbb, .int lnu, .long lwa])), (l1, .inl (E.2.1 0, 3000, .inl ltx))] H → va_D A [(l0, .inr (3, [.ref l1, .int lat, .int len, .long llb, .int lor, .int laa, .int lbb, .int lnu, .long lwa])), (l1, .inl (E.2.1 0, 3000, .inl ltx))] → va_S A s.heap H locs → lv_has ls 3 [(0, .ref l0), (1, .int x1), (2, .int x2)] → W p l e ({ frames := 1, cells := 0, slots := 0, locals := 20 }) s m ([.ref l0] : List Value).toArray below meth c H locs 0 0 (MQ below (va_Qi (fun (r' : Int32) (u : va_W) => r' = o_r ∧ u = [(l0, .inr (3, [.ref l1, .int o_lat, .int len, .long llb, .int lor, .int laa, .int lbb, .int lnu, .long lwa])), (l1, .inl (E.2.1 0, 3000, .inl ltx))]) (BW E A) A) ([.ref l0] : List Value).toArray s 0 0 A) (F0 m 4 ls []) := by
  intro n
  induction n with
  | zero => intro lat len llb lor laa lbb lnu lwa ltx x1 x2 H locs ls h; cases h
  | succ n ih =>
    intro lat len llb lor laa lbb lnu lwa ltx x1 x2 H locs ls h hP hD hS hl
    rw [b_LI_takeNumber_4] at h
    refine lv_aload_n J.1 J.2.1 d_LI_takeNumber_4 rfl (lv_at hl 0 rfl) ?_
    refine jg J hJ hP 0 rfl rfl i_LI 1 (by decide) gf_LI_19 rfl d_LI_takeNumber_5 ?_
    refine lv_aload_n J.1 J.2.1 d_LI_takeNumber_8 rfl (lv_at hl 0 rfl) ?_
    refine jg J hJ hP 0 rfl rfl i_LI 2 (by decide) gf_LI_22 rfl d_LI_takeNumber_9 ?_
    refine lv_icmp_ge (tgt := 69) J.1 J.2.1 d_LI_takeNumber_12 (by decide) (fun c_4 => ?_) (fun c_4 => ?_)
    · replace h := g_t c_4 h
      exact kb_LI_takeNumber_69 J hJ hA hZ _ _ _ _ _ _ _ _ _ _ _ _ _ _ h hP hD hS (lv_sub hl [1, 2] rfl)
    · replace h := g_f c_4 h
      refine lv_aload_n J.1 J.2.1 d_LI_takeNumber_15 rfl (lv_at hl 0 rfl) ?_
      refine jg J hJ hP 0 rfl rfl i_LI 0 (by decide) gf_LI_9 rfl d_LI_takeNumber_16 ?_
      refine lv_aload_n J.1 J.2.1 d_LI_takeNumber_19 rfl (lv_at hl 0 rfl) ?_
      refine jg J hJ hP 0 rfl rfl i_LI 1 (by decide) gf_LI_19 rfl d_LI_takeNumber_20 ?_
      replace h := g_ck h
      obtain ⟨k_5, h⟩ := h
      refine jai J hJ hP 1 rfl k_5 d_LI_takeNumber_23 ?_
      replace h := g_bd h
      obtain ⟨r_6, q_6, h⟩ := h
      have hq := ct_LI_isDigit l E  H.size  (ltx lat.toNatClampNeg) r_6 q_6
      have hr := jrunS (p := p) (e := e) (below := below) (R := ({ frames := 1, cells := 0, slots := 0, locals := 20 })) (cells := 0) (slots := 0) (As := [.int (ltx lat.toNatClampNeg)]) (rest := []) J hJ hA hZ hP hD hS hq [] rfl (by decide) gl_LI_96 gs_LI_isDigit gini_LI gc_LI_isDigit hd_LI_isDigit ⟨rfl, rfl, Nat.le_of_ble_eq_true rfl, Nat.le_of_ble_eq_true rfl⟩ hl.1 rfl rfl (Nat.le_of_ble_eq_true rfl) d_LI_takeNumber_24 ⟨Nat.zero_le _, Nat.zero_le _⟩
      clear hq
      refine jk_i hr hA hP hD hS [] [0, 1] (WR := [(l0, .inr (3, [.ref l1, .int lat, .int len, .long llb, .int lor, .int laa, .int lbb, .int lnu, .long lwa])), (l1, .inl (E.2.1 0, 3000, .inl ltx))]) rfl rfl (by decide) (by decide) [0, 1] (WF := [(l0, .inr (3, [.ref l1, .int lat, .int len, .long llb, .int lor, .int laa, .int lbb, .int lnu, .long lwa])), (l1, .inl (E.2.1 0, 3000, .inl ltx))]) rfl (by decide) ?_
      clear hP hD hS
      intro H locs hP hD hS
      clear hr
      refine lv_if_eq (tgt := 69) J.1 J.2.1 d_LI_takeNumber_27 (by decide) (fun c_7 => ?_) (fun c_7 => ?_)
      · replace h := g_t c_7 h
        exact kb_LI_takeNumber_69 J hJ hA hZ _ _ _ _ _ _ _ _ _ _ _ _ _ _ h hP hD hS (lv_sub hl [1, 2] rfl)
      · replace h := g_f c_7 h
        refine lv_iload_n J.1 J.2.1 d_LI_takeNumber_30 rfl (lv_at hl 2 rfl) ?_
        refine lv_iconst (v := 5) J.1 J.2.1 d_LI_takeNumber_31 (by decide) ?_
        refine lv_icmp_gt (tgt := 69) J.1 J.2.1 d_LI_takeNumber_32 (by decide) (fun c_8 => ?_) (fun c_8 => ?_)
        · replace h := g_t c_8 h
          exact kb_LI_takeNumber_69 J hJ hA hZ _ _ _ _ _ _ _ _ _ _ _ _ _ _ h hP hD hS (lv_sub hl [1, 2] rfl)
        · replace h := g_f c_8 h
          refine lv_iload_n J.1 J.2.1 d_LI_takeNumber_35 rfl (lv_at hl 1 rfl) ?_
          refine lv_bipush (v := 10) J.1 J.2.1 d_LI_takeNumber_36 (by decide) ?_
          refine lv_imul J.1 J.2.1 d_LI_takeNumber_38 ?_
          refine lv_aload_n J.1 J.2.1 d_LI_takeNumber_39 rfl (lv_at hl 0 rfl) ?_
          refine jg J hJ hP 0 rfl rfl i_LI 0 (by decide) gf_LI_9 rfl d_LI_takeNumber_40 ?_
          refine lv_aload_n J.1 J.2.1 d_LI_takeNumber_43 rfl (lv_at hl 0 rfl) ?_
          refine jg J hJ hP 0 rfl rfl i_LI 1 (by decide) gf_LI_19 rfl d_LI_takeNumber_44 ?_
          replace h := g_ck h
          obtain ⟨k_9, h⟩ := h
          refine jai J hJ hP 1 rfl k_9 d_LI_takeNumber_47 ?_
          refine lv_iadd J.1 J.2.1 d_LI_takeNumber_48 ?_
          refine lv_bipush (v := 48) J.1 J.2.1 d_LI_takeNumber_49 (by decide) ?_
          refine lv_isub J.1 J.2.1 d_LI_takeNumber_51 ?_
          refine lv_istore_n (lv' := [(1, .int (((x1 * 10) + (ltx lat.toNatClampNeg)) - 48)), (0, .ref l0), (2, .int x2)]) J.1 J.2.1 d_LI_takeNumber_52 rfl hl (by decide) rfl ?_
          clear hl
          intro ls hl
          refine lv_iinc (v := (x2 + 1)) (lv' := [(2, .int (x2 + 1)), (1, .int (((x1 * 10) + (ltx lat.toNatClampNeg)) - 48)), (0, .ref l0)]) J.1 J.2.1 d_LI_takeNumber_53 hl (k := 2) rfl rfl (by decide) rfl ?_
          clear hl
          intro ls hl
          refine lv_aload_n J.1 J.2.1 d_LI_takeNumber_56 rfl (lv_at hl 2 rfl) ?_
          refine lv_dup J.1 J.2.1 d_LI_takeNumber_57 rfl ?_
          refine jg J hJ hP 0 rfl rfl i_LI 1 (by decide) gf_LI_19 rfl d_LI_takeNumber_58 ?_
          refine lv_iconst (v := 1) J.1 J.2.1 d_LI_takeNumber_61 (by decide) ?_
          refine lv_iadd J.1 J.2.1 d_LI_takeNumber_62 ?_
          refine jp J hJ hP hD hS 0 rfl rfl i_LI t_LI t_LI_ok n_LI 1 (by decide) gf_LI_19 rfl rfl rfl (Nat.le_of_ble_eq_true rfl) d_LI_takeNumber_63 (WS' := [(l0, .inr (3, [.ref l1, .int (lat + 1), .int len, .long llb, .int lor, .int laa, .int lbb, .int lnu, .long lwa])), (l1, .inl (E.2.1 0, 3000, .inl ltx))]) rfl ?_
          clear hP hD hS
          intro H locs hP hD hS
          refine lv_goto (tgt := 4) J.1 J.2.1 d_LI_takeNumber_66 (by decide) ?_
          exact ih _ _ _ _ _ _ _ _ _ _ _ _ _ _ h hP hD hS (lv_sub hl [2, 1, 0] rfl)
set_option maxHeartbeats 4000000 in
set_option maxRecDepth 100000 in
theorem ct_LI_takeNumber (l : Launch) (E : jz_E) (l0 l1 : Nat) (sz : Nat) (lat : Int32) (len : Int32) (llb : Int64) (lor : Int32) (laa : Int32) (lbb : Int32) (lnu : Int32) (lwa : Int64) (ltx : Nat → Int32) (o_r : Int32) (o_lat : Int32)  (h : f_LI_takeNumber lat len ltx = some (o_r, o_lat)) : CTi l E y_LI_takeNumber c_LI_takeNumber 3 (some .int) ({ frames := 1, cells := 0, slots := 0, locals := 20 }) [.ref l0] [(l0, .inr (3, [.ref l1, .int lat, .int len, .long llb, .int lor, .int laa, .int lbb, .int lnu, .long lwa])), (l1, .inl (E.2.1 0, 3000, .inl ltx))] sz o_r [(l0, .inr (3, [.ref l1, .int o_lat, .int len, .long llb, .int lor, .int laa, .int lbb, .int lnu, .long lwa])), (l1, .inl (E.2.1 0, 3000, .inl ltx))] := by
  refine jw (by decide +kernel) (Nat.le_of_ble_eq_true rfl) ?_
  intro p e s m below meth c A ls J hJ hAe hsz hA hZ hP hD hl
  rw [← hAe]
  have hS : va_S A s.heap s.heap [] := va_S.rf
  have hl : lv_has ls 3 [(0, .ref l0)] := hl
  unfold f_LI_takeNumber at h
  refine lv_iconst (v := 0) J.1 J.2.1 d_LI_takeNumber_0 (by decide) ?_
  refine lv_istore_n (lv' := [(1, .int 0), (0, .ref l0)]) J.1 J.2.1 d_LI_takeNumber_1 rfl hl (by decide) rfl ?_
  clear hl
  intro ls hl
  refine lv_iconst (v := 0) J.1 J.2.1 d_LI_takeNumber_2 (by decide) ?_
  refine lv_istore_n (lv' := [(2, .int 0), (1, .int 0), (0, .ref l0)]) J.1 J.2.1 d_LI_takeNumber_3 rfl hl (by decide) rfl ?_
  clear hl
  intro ls hl
  exact kb_LI_takeNumber_4 J hJ hA hZ _ _ _ _ _ _ _ _ _ _ _ _ _ _ _ h hP hD hS (lv_sub hl [2, 1, 0] rfl)

theorem hd_LI_isNumberRead : y_LI_isNumberRead.cls ≠ "java/lang/invoke/MethodHandle" ∧ y_LI_isNumberRead.cls ≠ "java/lang/invoke/VarHandle" ∧ (parseMethodDescriptor y_LI_isNumberRead.desc).map (fun d => d.parameters.length) = some 1 := by decide +kernel
def b_LI_isNumberRead_82 (lat : Int32) (len : Int32) (lwa : Int64) (ltx : Nat → Int32) : Option (Int32 × Int32 × Int32 × Int64) := ((f_LI_takeNumber lat len ltx).bind fun (r_1, lat_1) => (if r_1 = (-1 : Int32) then (some (0, lat_1, r_1, lwa)) else (some (1, lat_1, r_1, lwa))))
def b_LI_isNumberRead_38 (lat : Int32) (len : Int32) (lnu : Int32) (lwa : Int64) (ltx : Nat → Int32) (x2 : Int32) : Option (Int32 × Int32 × Int32 × Int64) := (if x2 = (0 : Int32) then ((f_LI_takeLabel lat len ltx).bind fun (r_4, lat_4) => (if (lg_cmp r_4 0) = (0 : Int32) then (some (0, lat_4, lnu, r_4)) else ((f_LI_here lat_4 len ltx).bind fun r_6 => (if r_6 = (43 : Int32) then b_LI_isNumberRead_82 (lat_4 + 1) len r_4 ltx else (some (1, lat_4, lnu, r_4)))))) else b_LI_isNumberRead_82 lat len lwa ltx)
def b_LI_isNumberRead_32 (lat : Int32) (len : Int32) (lnu : Int32) (lwa : Int64) (ltx : Nat → Int32) : Option (Int32 × Int32 × Int32 × Int64) := b_LI_isNumberRead_38 lat len lnu lwa ltx 1
def f_LI_isNumberRead (lat : Int32) (len : Int32) (lnu : Int32) (lwa : Int64) (ltx : Nat → Int32) (p1 : Int32) : Option (Int32 × Int32 × Int32 × Int64) := ((f_LI_here lat len ltx).bind fun r_8 => (if r_8 = (32 : Int32) then ((f_LI_skipBlanks lat len ltx).bind fun lat_10 => (if (p1 &&& 8) = (0 : Int32) then ((f_LI_here lat_10 len ltx).bind fun r_12 => ((f_LI_isLetter  r_12).bind fun r_13 => (if r_13 = (0 : Int32) then b_LI_isNumberRead_32 lat_10 len lnu lwa ltx else b_LI_isNumberRead_38 lat_10 len lnu lwa ltx 0))) else b_LI_isNumberRead_32 lat_10 len lnu lwa ltx)) else (some (0, lat, lnu, lwa))))
set_option maxHeartbeats 4000000 in
set_option maxRecDepth 100000 in
theorem kb_LI_isNumberRead_82 {p : Program} {l : Launch} {e : Env} {s : State} {m : MethodId} {below : List Frame} {meth : Method} {c : Code} {A : Nat → Prop} {E : jz_E} {l0 l1 : Nat} {p1 : Int32} {o_r : Int32} {o_lat : Int32} {o_lnu : Int32} {o_lwa : Int64} (J : JC p s m ([.ref l0, .int p1] : List Value).toArray meth c c_LI_isNumberRead 3 (some .boolean) y_LI_isNumberRead.cls) (hJ : jE E s) (hA : ∀ q : Nat, s.heap.size ≤ q → A q) (hZ : jz_ok E A s s.heap) : ∀ (lat : Int32) (len : Int32) (llb : Int64) (lor : Int32) (laa : Int32) (lbb : Int32) (lnu : Int32) (lwa : Int64) (ltx : Nat → Int32) (H : Heap) (locs : List Loc) (ls : Array Slot), b_LI_isNumberRead_82 lat len lwa ltx = some (o_r, o_lat, o_lnu, o_lwa) → va_P E.1 classes [(l0, .inr (3, [.ref l1, .int lat, .int len, .long llb, .int lor, .int laa, .int lbb, .int lnu, .long lwa])), (l1, .inl (E.2.1 0, 3000, .inl ltx))] H → va_D A [(l0, .inr (3, [.ref l1, .int lat, .int len, .long llb, .int lor, .int laa, .int lbb, .int lnu, .long lwa])), (l1, .inl (E.2.1 0, 3000, .inl ltx))] → va_S A s.heap H locs → lv_has ls 3 [(0, .ref l0)] → W p l e ({ frames := 2, cells := 0, slots := 0, locals := 43 }) s m ([.ref l0, .int p1] : List Value).toArray below meth c H locs 0 0 (MQ below (va_Qi (fun (r' : Int32) (u : va_W) => r' = o_r ∧ u = [(l0, .inr (3, [.ref l1, .int o_lat, .int len, .long llb, .int lor, .int laa, .int lbb, .int o_lnu, .long o_lwa])), (l1, .inl (E.2.1 0, 3000, .inl ltx))]) (BW E A) A) ([.ref l0, .int p1] : List Value).toArray s 0 0 A) (F0 m 82 ls []) := by
  intro lat len llb lor laa lbb lnu lwa ltx H locs ls h hP hD hS hl
  rw [b_LI_isNumberRead_82] at h
  refine lv_aload_n J.1 J.2.1 d_LI_isNumberRead_82 rfl (lv_at hl 0 rfl) ?_
  refine lv_aload_n J.1 J.2.1 d_LI_isNumberRead_83 rfl (lv_at hl 0 rfl) ?_
  replace h := g_bd h
  obtain ⟨⟨r_1, lat_1⟩, q_1, h⟩ := h
  try dsimp only at h
  have hq := ct_LI_takeNumber l E l0 l1 H.size lat len llb lor laa lbb lnu lwa ltx r_1 lat_1 q_1
  have hr := jrunV (p := p) (e := e) (below := below) (R := ({ frames := 2, cells := 0, slots := 0, locals := 43 })) (cells := 0) (slots := 0) (As := []) (rest := [.ref l0]) J hJ hA hZ hP hD hS hq [0, 1] rfl (by decide) gl_LI_93 gi_LI_takeNumber gsel_LI_takeNumber gini_LI gc_LI_takeNumber hd_LI_takeNumber ⟨rfl, rfl, Nat.le_of_ble_eq_true rfl, Nat.le_of_ble_eq_true rfl⟩ rfl rfl hl.1 rfl rfl (Nat.le_of_ble_eq_true rfl) d_LI_isNumberRead_84 ⟨Nat.zero_le _, Nat.zero_le _⟩
  clear hq
  refine jk_i hr hA hP hD hS [0, 1] [] (WR := []) rfl rfl (by decide) (by decide) [0, 1] (WF := [(l0, .inr (3, [.ref l1, .int lat_1, .int len, .long llb, .int lor, .int laa, .int lbb, .int lnu, .long lwa])), (l1, .inl (E.2.1 0, 3000, .inl ltx))]) rfl (by decide) ?_
  clear hP hD hS
  intro H locs hP hD hS
  clear hr
  refine jp J hJ hP hD hS 0 rfl rfl i_LI t_LI t_LI_ok n_LI 7 (by decide) gf_LI_35 rfl rfl rfl (Nat.le_of_ble_eq_true rfl) d_LI_isNumberRead_87 (WS' := [(l0, .inr (3, [.ref l1, .int lat_1, .int len, .long llb, .int lor, .int laa, .int lbb, .int r_1, .long lwa])), (l1, .inl (E.2.1 0, 3000, .inl ltx))]) rfl ?_
  clear hP hD hS
  intro H locs hP hD hS
  refine lv_aload_n J.1 J.2.1 d_LI_isNumberRead_90 rfl (lv_at hl 0 rfl) ?_
  refine jg J hJ hP 0 rfl rfl i_LI 7 (by decide) gf_LI_35 rfl d_LI_isNumberRead_91 ?_
  refine lv_iconst (v := (-1)) J.1 J.2.1 d_LI_isNumberRead_94 (by decide) ?_
  refine lv_icmp_eq (tgt := 102) J.1 J.2.1 d_LI_isNumberRead_95 (by decide) (fun c_2 => ?_) (fun c_2 => ?_)
  · replace h := g_t c_2 h
    refine lv_iconst (v := 0) J.1 J.2.1 d_LI_isNumberRead_102 (by decide) ?_
    have h := Option.some.inj h
    have e_0 := (Prod.mk.inj h).1
    have h := (Prod.mk.inj h).2
    have e_1 := (Prod.mk.inj h).1
    have h := (Prod.mk.inj h).2
    have e_2 := (Prod.mk.inj h).1
    have h := (Prod.mk.inj h).2
    rw [← e_0, ← e_1, ← e_2, ← h]
    exact jr_i J hS hP hD rfl d_LI_isNumberRead_103
  · replace h := g_f c_2 h
    refine lv_iconst (v := 1) J.1 J.2.1 d_LI_isNumberRead_98 (by decide) ?_
    refine lv_goto (tgt := 103) J.1 J.2.1 d_LI_isNumberRead_99 (by decide) ?_
    have h := Option.some.inj h
    have e_0 := (Prod.mk.inj h).1
    have h := (Prod.mk.inj h).2
    have e_1 := (Prod.mk.inj h).1
    have h := (Prod.mk.inj h).2
    have e_2 := (Prod.mk.inj h).1
    have h := (Prod.mk.inj h).2
    rw [← e_0, ← e_1, ← e_2, ← h]
    exact jr_i J hS hP hD rfl d_LI_isNumberRead_103
set_option maxHeartbeats 4000000 in
set_option maxRecDepth 100000 in
theorem kb_LI_isNumberRead_38 {p : Program} {l : Launch} {e : Env} {s : State} {m : MethodId} {below : List Frame} {meth : Method} {c : Code} {A : Nat → Prop} {E : jz_E} {l0 l1 : Nat} {p1 : Int32} {o_r : Int32} {o_lat : Int32} {o_lnu : Int32} {o_lwa : Int64} (J : JC p s m ([.ref l0, .int p1] : List Value).toArray meth c c_LI_isNumberRead 3 (some .boolean) y_LI_isNumberRead.cls) (hJ : jE E s) (hA : ∀ q : Nat, s.heap.size ≤ q → A q) (hZ : jz_ok E A s s.heap) : ∀ (lat : Int32) (len : Int32) (llb : Int64) (lor : Int32) (laa : Int32) (lbb : Int32) (lnu : Int32) (lwa : Int64) (ltx : Nat → Int32) (x2 : Int32) (H : Heap) (locs : List Loc) (ls : Array Slot), b_LI_isNumberRead_38 lat len lnu lwa ltx x2 = some (o_r, o_lat, o_lnu, o_lwa) → va_P E.1 classes [(l0, .inr (3, [.ref l1, .int lat, .int len, .long llb, .int lor, .int laa, .int lbb, .int lnu, .long lwa])), (l1, .inl (E.2.1 0, 3000, .inl ltx))] H → va_D A [(l0, .inr (3, [.ref l1, .int lat, .int len, .long llb, .int lor, .int laa, .int lbb, .int lnu, .long lwa])), (l1, .inl (E.2.1 0, 3000, .inl ltx))] → va_S A s.heap H locs → lv_has ls 3 [(0, .ref l0), (2, .int x2)] → W p l e ({ frames := 2, cells := 0, slots := 0, locals := 43 }) s m ([.ref l0, .int p1] : List Value).toArray below meth c H locs 0 0 (MQ below (va_Qi (fun (r' : Int32) (u : va_W) => r' = o_r ∧ u = [(l0, .inr (3, [.ref l1, .int o_lat, .int len, .long llb, .int lor, .int laa, .int lbb, .int o_lnu, .long o_lwa])), (l1, .inl (E.2.1 0, 3000, .inl ltx))]) (BW E A) A) ([.ref l0, .int p1] : List Value).toArray s 0 0 A) (F0 m 38 ls []) := by
  intro lat len llb lor laa lbb lnu lwa ltx x2 H locs ls h hP hD hS hl
  rw [b_LI_isNumberRead_38] at h
  refine lv_iload_n J.1 J.2.1 d_LI_isNumberRead_38 rfl (lv_at hl 1 rfl) ?_
  refine lv_if_ne (tgt := 82) J.1 J.2.1 d_LI_isNumberRead_39 (by decide) (fun c_3 => ?_) (fun c_3 => ?_)
  · replace h := g_f c_3 h
    exact kb_LI_isNumberRead_82 J hJ hA hZ _ _ _ _ _ _ _ _ _ _ _ _ h hP hD hS (lv_sub hl [0] rfl)
  · replace h := g_t c_3 h
    refine lv_aload_n J.1 J.2.1 d_LI_isNumberRead_42 rfl (lv_at hl 0 rfl) ?_
    refine lv_aload_n J.1 J.2.1 d_LI_isNumberRead_43 rfl (lv_at hl 0 rfl) ?_
    replace h := g_bd h
    obtain ⟨⟨r_4, lat_4⟩, q_4, h⟩ := h
    try dsimp only at h
    have hq := ct_LI_takeLabel l E l0 l1 H.size lat len llb lor laa lbb lnu lwa ltx r_4 lat_4 q_4
    have hr := jrunV (p := p) (e := e) (below := below) (R := ({ frames := 2, cells := 0, slots := 0, locals := 43 })) (cells := 0) (slots := 0) (As := []) (rest := [.ref l0]) J hJ hA hZ hP hD hS hq [0, 1] rfl (by decide) gl_LI_65 gi_LI_takeLabel gsel_LI_takeLabel gini_LI gc_LI_takeLabel hd_LI_takeLabel ⟨rfl, rfl, Nat.le_of_ble_eq_true rfl, Nat.le_of_ble_eq_true rfl⟩ rfl rfl hl.1 rfl rfl (Nat.le_of_ble_eq_true rfl) d_LI_isNumberRead_44 ⟨Nat.zero_le _, Nat.zero_le _⟩
    clear hq
    refine jk_l hr hA hP hD hS [0, 1] [] (WR := []) rfl rfl (by decide) (by decide) [0, 1] (WF := [(l0, .inr (3, [.ref l1, .int lat_4, .int len, .long llb, .int lor, .int laa, .int lbb, .int lnu, .long lwa])), (l1, .inl (E.2.1 0, 3000, .inl ltx))]) rfl (by decide) ?_
    clear hP hD hS
    intro H locs hP hD hS
    clear hr
    refine jp J hJ hP hD hS 0 rfl rfl i_LI t_LI t_LI_ok n_LI 8 (by decide) gf_LI_38 rfl rfl rfl (Nat.le_of_ble_eq_true rfl) d_LI_isNumberRead_47 (WS' := [(l0, .inr (3, [.ref l1, .int lat_4, .int len, .long llb, .int lor, .int laa, .int lbb, .int lnu, .long r_4])), (l1, .inl (E.2.1 0, 3000, .inl ltx))]) rfl ?_
    clear hP hD hS
    intro H locs hP hD hS
    refine lv_aload_n J.1 J.2.1 d_LI_isNumberRead_50 rfl (lv_at hl 0 rfl) ?_
    refine jg J hJ hP 0 rfl rfl i_LI 8 (by decide) gf_LI_38 rfl d_LI_isNumberRead_51 ?_
    refine lv_lconst (v := 0) J.1 J.2.1 d_LI_isNumberRead_54 (by decide) ?_
    refine W.lcmp J.1 J.2.1 d_LI_isNumberRead_55 ?_
    refine lv_if_ne (tgt := 61) J.1 J.2.1 d_LI_isNumberRead_56 (by decide) (fun c_5 => ?_) (fun c_5 => ?_)
    · replace h := g_f c_5 h
      refine lv_aload_n J.1 J.2.1 d_LI_isNumberRead_61 rfl (lv_at hl 0 rfl) ?_
      replace h := g_bd h
      obtain ⟨r_6, q_6, h⟩ := h
      have hq := ct_LI_here l E l0 l1 H.size lat_4 len llb lor laa lbb lnu r_4 ltx r_6 q_6
      have hr := jrunV (p := p) (e := e) (below := below) (R := ({ frames := 2, cells := 0, slots := 0, locals := 43 })) (cells := 0) (slots := 0) (As := []) (rest := []) J hJ hA hZ hP hD hS hq [0, 1] rfl (by decide) gl_LI_57 gi_LI_here gsel_LI_here gini_LI gc_LI_here hd_LI_here ⟨rfl, rfl, Nat.le_of_ble_eq_true rfl, Nat.le_of_ble_eq_true rfl⟩ rfl rfl hl.1 rfl rfl (Nat.le_of_ble_eq_true rfl) d_LI_isNumberRead_62 ⟨Nat.zero_le _, Nat.zero_le _⟩
      clear hq
      refine jk_i hr hA hP hD hS [0, 1] [] (WR := []) rfl rfl (by decide) (by decide) [0, 1] (WF := [(l0, .inr (3, [.ref l1, .int lat_4, .int len, .long llb, .int lor, .int laa, .int lbb, .int lnu, .long r_4])), (l1, .inl (E.2.1 0, 3000, .inl ltx))]) rfl (by decide) ?_
      clear hP hD hS
      intro H locs hP hD hS
      clear hr
      refine lv_bipush (v := 43) J.1 J.2.1 d_LI_isNumberRead_65 (by decide) ?_
      refine lv_icmp_eq (tgt := 72) J.1 J.2.1 d_LI_isNumberRead_67 (by decide) (fun c_7 => ?_) (fun c_7 => ?_)
      · replace h := g_t c_7 h
        refine lv_aload_n J.1 J.2.1 d_LI_isNumberRead_72 rfl (lv_at hl 0 rfl) ?_
        refine lv_dup J.1 J.2.1 d_LI_isNumberRead_73 rfl ?_
        refine jg J hJ hP 0 rfl rfl i_LI 1 (by decide) gf_LI_19 rfl d_LI_isNumberRead_74 ?_
        refine lv_iconst (v := 1) J.1 J.2.1 d_LI_isNumberRead_77 (by decide) ?_
        refine lv_iadd J.1 J.2.1 d_LI_isNumberRead_78 ?_
        refine jp J hJ hP hD hS 0 rfl rfl i_LI t_LI t_LI_ok n_LI 1 (by decide) gf_LI_19 rfl rfl rfl (Nat.le_of_ble_eq_true rfl) d_LI_isNumberRead_79 (WS' := [(l0, .inr (3, [.ref l1, .int (lat_4 + 1), .int len, .long llb, .int lor, .int laa, .int lbb, .int lnu, .long r_4])), (l1, .inl (E.2.1 0, 3000, .inl ltx))]) rfl ?_
        clear hP hD hS
        intro H locs hP hD hS
        exact kb_LI_isNumberRead_82 J hJ hA hZ _ _ _ _ _ _ _ _ _ _ _ _ h hP hD hS (lv_sub hl [0] rfl)
      · replace h := g_f c_7 h
        refine lv_iconst (v := 1) J.1 J.2.1 d_LI_isNumberRead_70 (by decide) ?_
        have h := Option.some.inj h
        have e_0 := (Prod.mk.inj h).1
        have h := (Prod.mk.inj h).2
        have e_1 := (Prod.mk.inj h).1
        have h := (Prod.mk.inj h).2
        have e_2 := (Prod.mk.inj h).1
        have h := (Prod.mk.inj h).2
        rw [← e_0, ← e_1, ← e_2, ← h]
        exact jr_i J hS hP hD rfl d_LI_isNumberRead_71
    · replace h := g_t c_5 h
      refine lv_iconst (v := 0) J.1 J.2.1 d_LI_isNumberRead_59 (by decide) ?_
      have h := Option.some.inj h
      have e_0 := (Prod.mk.inj h).1
      have h := (Prod.mk.inj h).2
      have e_1 := (Prod.mk.inj h).1
      have h := (Prod.mk.inj h).2
      have e_2 := (Prod.mk.inj h).1
      have h := (Prod.mk.inj h).2
      rw [← e_0, ← e_1, ← e_2, ← h]
      exact jr_i J hS hP hD rfl d_LI_isNumberRead_60
set_option maxHeartbeats 4000000 in
set_option maxRecDepth 100000 in
theorem kb_LI_isNumberRead_32 {p : Program} {l : Launch} {e : Env} {s : State} {m : MethodId} {below : List Frame} {meth : Method} {c : Code} {A : Nat → Prop} {E : jz_E} {l0 l1 : Nat} {p1 : Int32} {o_r : Int32} {o_lat : Int32} {o_lnu : Int32} {o_lwa : Int64} (J : JC p s m ([.ref l0, .int p1] : List Value).toArray meth c c_LI_isNumberRead 3 (some .boolean) y_LI_isNumberRead.cls) (hJ : jE E s) (hA : ∀ q : Nat, s.heap.size ≤ q → A q) (hZ : jz_ok E A s s.heap) : ∀ (lat : Int32) (len : Int32) (llb : Int64) (lor : Int32) (laa : Int32) (lbb : Int32) (lnu : Int32) (lwa : Int64) (ltx : Nat → Int32) (H : Heap) (locs : List Loc) (ls : Array Slot), b_LI_isNumberRead_32 lat len lnu lwa ltx = some (o_r, o_lat, o_lnu, o_lwa) → va_P E.1 classes [(l0, .inr (3, [.ref l1, .int lat, .int len, .long llb, .int lor, .int laa, .int lbb, .int lnu, .long lwa])), (l1, .inl (E.2.1 0, 3000, .inl ltx))] H → va_D A [(l0, .inr (3, [.ref l1, .int lat, .int len, .long llb, .int lor, .int laa, .int lbb, .int lnu, .long lwa])), (l1, .inl (E.2.1 0, 3000, .inl ltx))] → va_S A s.heap H locs → lv_has ls 3 [(0, .ref l0)] → W p l e ({ frames := 2, cells := 0, slots := 0, locals := 43 }) s m ([.ref l0, .int p1] : List Value).toArray below meth c H locs 0 0 (MQ below (va_Qi (fun (r' : Int32) (u : va_W) => r' = o_r ∧ u = [(l0, .inr (3, [.ref l1, .int o_lat, .int len, .long llb, .int lor, .int laa, .int lbb, .int o_lnu, .long o_lwa])), (l1, .inl (E.2.1 0, 3000, .inl ltx))]) (BW E A) A) ([.ref l0, .int p1] : List Value).toArray s 0 0 A) (F0 m 32 ls []) := by
  intro lat len llb lor laa lbb lnu lwa ltx H locs ls h hP hD hS hl
  rw [b_LI_isNumberRead_32] at h
  refine lv_iconst (v := 1) J.1 J.2.1 d_LI_isNumberRead_32 (by decide) ?_
  refine lv_goto (tgt := 37) J.1 J.2.1 d_LI_isNumberRead_33 (by decide) ?_
  refine lv_istore_n (lv' := [(2, .int 1), (0, .ref l0)]) J.1 J.2.1 d_LI_isNumberRead_37 rfl hl (by decide) rfl ?_
  clear hl
  intro ls hl
  exact kb_LI_isNumberRead_38 J hJ hA hZ _ _ _ _ _ _ _ _ _ _ _ _ _ h hP hD hS (lv_sub hl [1, 0] rfl)
set_option maxHeartbeats 4000000 in
set_option maxRecDepth 100000 in
theorem ct_LI_isNumberRead (l : Launch) (E : jz_E) (l0 l1 : Nat) (sz : Nat) (lat : Int32) (len : Int32) (llb : Int64) (lor : Int32) (laa : Int32) (lbb : Int32) (lnu : Int32) (lwa : Int64) (ltx : Nat → Int32) (p1 : Int32) (o_r : Int32) (o_lat : Int32) (o_lnu : Int32) (o_lwa : Int64)  (h : f_LI_isNumberRead lat len lnu lwa ltx p1 = some (o_r, o_lat, o_lnu, o_lwa)) : CTi l E y_LI_isNumberRead c_LI_isNumberRead 3 (some .boolean) ({ frames := 2, cells := 0, slots := 0, locals := 43 }) [.ref l0, .int p1] [(l0, .inr (3, [.ref l1, .int lat, .int len, .long llb, .int lor, .int laa, .int lbb, .int lnu, .long lwa])), (l1, .inl (E.2.1 0, 3000, .inl ltx))] sz o_r [(l0, .inr (3, [.ref l1, .int o_lat, .int len, .long llb, .int lor, .int laa, .int lbb, .int o_lnu, .long o_lwa])), (l1, .inl (E.2.1 0, 3000, .inl ltx))] := by
  refine jw (by decide +kernel) (Nat.le_of_ble_eq_true rfl) ?_
  intro p e s m below meth c A ls J hJ hAe hsz hA hZ hP hD hl
  rw [← hAe]
  have hS : va_S A s.heap s.heap [] := va_S.rf
  have hl : lv_has ls 3 [(0, .ref l0), (1, .int p1)] := hl
  unfold f_LI_isNumberRead at h
  refine lv_aload_n J.1 J.2.1 d_LI_isNumberRead_0 rfl (lv_at hl 0 rfl) ?_
  replace h := g_bd h
  obtain ⟨r_8, q_8, h⟩ := h
  have hq := ct_LI_here l E l0 l1 s.heap.size lat len llb lor laa lbb lnu lwa ltx r_8 q_8
  have hr := jrunV (p := p) (e := e) (below := below) (R := ({ frames := 2, cells := 0, slots := 0, locals := 43 })) (cells := 0) (slots := 0) (As := []) (rest := []) J hJ hA hZ hP hD hS hq [0, 1] rfl (by decide) gl_LI_57 gi_LI_here gsel_LI_here gini_LI gc_LI_here hd_LI_here ⟨rfl, rfl, Nat.le_of_ble_eq_true rfl, Nat.le_of_ble_eq_true rfl⟩ rfl rfl hl.1 rfl rfl (Nat.le_of_ble_eq_true rfl) d_LI_isNumberRead_1 ⟨Nat.zero_le _, Nat.zero_le _⟩
  clear hq
  refine jk_i hr hA hP hD hS [0, 1] [] (WR := []) rfl rfl (by decide) (by decide) [0, 1] (WF := [(l0, .inr (3, [.ref l1, .int lat, .int len, .long llb, .int lor, .int laa, .int lbb, .int lnu, .long lwa])), (l1, .inl (E.2.1 0, 3000, .inl ltx))]) rfl (by decide) ?_
  clear hP hD hS
  intro H locs hP hD hS
  clear hr
  refine lv_bipush (v := 32) J.1 J.2.1 d_LI_isNumberRead_4 (by decide) ?_
  refine lv_icmp_eq (tgt := 11) J.1 J.2.1 d_LI_isNumberRead_6 (by decide) (fun c_9 => ?_) (fun c_9 => ?_)
  · replace h := g_t c_9 h
    refine lv_aload_n J.1 J.2.1 d_LI_isNumberRead_11 rfl (lv_at hl 0 rfl) ?_
    replace h := g_bd h
    obtain ⟨lat_10, q_10, h⟩ := h
    have hq := ct_LI_skipBlanks l E l0 l1 H.size lat len llb lor laa lbb lnu lwa ltx lat_10 q_10
    have hr := jrunV (p := p) (e := e) (below := below) (R := ({ frames := 2, cells := 0, slots := 0, locals := 43 })) (cells := 0) (slots := 0) (As := []) (rest := []) J hJ hA hZ hP hD hS hq [0, 1] rfl (by decide) gl_LI_54 gi_LI_skipBlanks gsel_LI_skipBlanks gini_LI gc_LI_skipBlanks hd_LI_skipBlanks ⟨rfl, rfl, Nat.le_of_ble_eq_true rfl, Nat.le_of_ble_eq_true rfl⟩ rfl rfl hl.1 rfl rfl (Nat.le_of_ble_eq_true rfl) d_LI_isNumberRead_12 ⟨Nat.zero_le _, Nat.zero_le _⟩
    clear hq
    refine jk_v hr hA hP hD hS [0, 1] [] (WR := []) rfl rfl (by decide) (by decide) [0, 1] (WF := [(l0, .inr (3, [.ref l1, .int lat_10, .int len, .long llb, .int lor, .int laa, .int lbb, .int lnu, .long lwa])), (l1, .inl (E.2.1 0, 3000, .inl ltx))]) rfl (by decide) ?_
    clear hP hD hS
    intro H locs hP hD hS
    clear hr
    refine lv_iload_n J.1 J.2.1 d_LI_isNumberRead_15 rfl (lv_at hl 1 rfl) ?_
    refine lv_bipush (v := 8) J.1 J.2.1 d_LI_isNumberRead_16 (by decide) ?_
    refine lv_iand J.1 J.2.1 d_LI_isNumberRead_18 ?_
    refine lv_if_ne (tgt := 32) J.1 J.2.1 d_LI_isNumberRead_19 (by decide) (fun c_11 => ?_) (fun c_11 => ?_)
    · replace h := g_f c_11 h
      exact kb_LI_isNumberRead_32 J hJ hA hZ _ _ _ _ _ _ _ _ _ _ _ _ h hP hD hS (lv_sub hl [0] rfl)
    · replace h := g_t c_11 h
      refine lv_aload_n J.1 J.2.1 d_LI_isNumberRead_22 rfl (lv_at hl 0 rfl) ?_
      replace h := g_bd h
      obtain ⟨r_12, q_12, h⟩ := h
      have hq := ct_LI_here l E l0 l1 H.size lat_10 len llb lor laa lbb lnu lwa ltx r_12 q_12
      have hr := jrunV (p := p) (e := e) (below := below) (R := ({ frames := 2, cells := 0, slots := 0, locals := 43 })) (cells := 0) (slots := 0) (As := []) (rest := []) J hJ hA hZ hP hD hS hq [0, 1] rfl (by decide) gl_LI_57 gi_LI_here gsel_LI_here gini_LI gc_LI_here hd_LI_here ⟨rfl, rfl, Nat.le_of_ble_eq_true rfl, Nat.le_of_ble_eq_true rfl⟩ rfl rfl hl.1 rfl rfl (Nat.le_of_ble_eq_true rfl) d_LI_isNumberRead_23 ⟨Nat.zero_le _, Nat.zero_le _⟩
      clear hq
      refine jk_i hr hA hP hD hS [0, 1] [] (WR := []) rfl rfl (by decide) (by decide) [0, 1] (WF := [(l0, .inr (3, [.ref l1, .int lat_10, .int len, .long llb, .int lor, .int laa, .int lbb, .int lnu, .long lwa])), (l1, .inl (E.2.1 0, 3000, .inl ltx))]) rfl (by decide) ?_
      clear hP hD hS
      intro H locs hP hD hS
      clear hr
      replace h := g_bd h
      obtain ⟨r_13, q_13, h⟩ := h
      have hq := ct_LI_isLetter l E  H.size  r_12 r_13 q_13
      have hr := jrunS (p := p) (e := e) (below := below) (R := ({ frames := 2, cells := 0, slots := 0, locals := 43 })) (cells := 0) (slots := 0) (As := [.int r_12]) (rest := []) J hJ hA hZ hP hD hS hq [] rfl (by decide) gl_LI_61 gs_LI_isLetter gini_LI gc_LI_isLetter hd_LI_isLetter ⟨rfl, rfl, Nat.le_of_ble_eq_true rfl, Nat.le_of_ble_eq_true rfl⟩ hl.1 rfl rfl (Nat.le_of_ble_eq_true rfl) d_LI_isNumberRead_26 ⟨Nat.zero_le _, Nat.zero_le _⟩
      clear hq
      refine jk_i hr hA hP hD hS [] [0, 1] (WR := [(l0, .inr (3, [.ref l1, .int lat_10, .int len, .long llb, .int lor, .int laa, .int lbb, .int lnu, .long lwa])), (l1, .inl (E.2.1 0, 3000, .inl ltx))]) rfl rfl (by decide) (by decide) [0, 1] (WF := [(l0, .inr (3, [.ref l1, .int lat_10, .int len, .long llb, .int lor, .int laa, .int lbb, .int lnu, .long lwa])), (l1, .inl (E.2.1 0, 3000, .inl ltx))]) rfl (by decide) ?_
      clear hP hD hS
      intro H locs hP hD hS
      clear hr
      refine lv_if_ne (tgt := 36) J.1 J.2.1 d_LI_isNumberRead_29 (by decide) (fun c_14 => ?_) (fun c_14 => ?_)
      · replace h := g_f c_14 h
        refine lv_iconst (v := 0) J.1 J.2.1 d_LI_isNumberRead_36 (by decide) ?_
        refine lv_istore_n (lv' := [(2, .int 0), (0, .ref l0), (1, .int p1)]) J.1 J.2.1 d_LI_isNumberRead_37 rfl hl (by decide) rfl ?_
        clear hl
        intro ls hl
        exact kb_LI_isNumberRead_38 J hJ hA hZ _ _ _ _ _ _ _ _ _ _ _ _ _ h hP hD hS (lv_sub hl [1, 0] rfl)
      · replace h := g_t c_14 h
        exact kb_LI_isNumberRead_32 J hJ hA hZ _ _ _ _ _ _ _ _ _ _ _ _ h hP hD hS (lv_sub hl [0] rfl)
  · replace h := g_f c_9 h
    refine lv_iconst (v := 0) J.1 J.2.1 d_LI_isNumberRead_9 (by decide) ?_
    have h := Option.some.inj h
    have e_0 := (Prod.mk.inj h).1
    have h := (Prod.mk.inj h).2
    have e_1 := (Prod.mk.inj h).1
    have h := (Prod.mk.inj h).2
    have e_2 := (Prod.mk.inj h).1
    have h := (Prod.mk.inj h).2
    rw [← e_0, ← e_1, ← e_2, ← h]
    exact jr_i J hS hP hD rfl d_LI_isNumberRead_10

theorem hd_LI_takeRegister : y_LI_takeRegister.cls ≠ "java/lang/invoke/MethodHandle" ∧ y_LI_takeRegister.cls ≠ "java/lang/invoke/VarHandle" ∧ (parseMethodDescriptor y_LI_takeRegister.desc).map (fun d => d.parameters.length) = some 0 := by decide +kernel
def f_LI_takeRegister (lat : Int32) (len : Int32) (ltx : Nat → Int32) : Option (Int32 × Int32) := ((f_LI_here lat len ltx).bind fun r_1 => (if r_1 = (32 : Int32) then ((f_LI_skipBlanks lat len ltx).bind fun lat_3 => ((f_LI_here lat_3 len ltx).bind fun r_4 => (if r_4 = (114 : Int32) then ((f_LI_here (lat_3 + 1) len ltx).bind fun r_6 => (if r_6 < (48 : Int32) then (some ((-1), (lat_3 + 1))) else (if r_6 ≤ (55 : Int32) then (some ((r_6 - 48), ((lat_3 + 1) + 1))) else (some ((-1), (lat_3 + 1)))))) else (some ((-1), lat_3))))) else (some ((-1), lat))))
set_option maxHeartbeats 4000000 in
set_option maxRecDepth 100000 in
theorem ct_LI_takeRegister (l : Launch) (E : jz_E) (l0 l1 : Nat) (sz : Nat) (lat : Int32) (len : Int32) (llb : Int64) (lor : Int32) (laa : Int32) (lbb : Int32) (lnu : Int32) (lwa : Int64) (ltx : Nat → Int32) (o_r : Int32) (o_lat : Int32)  (h : f_LI_takeRegister lat len ltx = some (o_r, o_lat)) : CTi l E y_LI_takeRegister c_LI_takeRegister 2 (some .int) ({ frames := 1, cells := 0, slots := 0, locals := 20 }) [.ref l0] [(l0, .inr (3, [.ref l1, .int lat, .int len, .long llb, .int lor, .int laa, .int lbb, .int lnu, .long lwa])), (l1, .inl (E.2.1 0, 3000, .inl ltx))] sz o_r [(l0, .inr (3, [.ref l1, .int o_lat, .int len, .long llb, .int lor, .int laa, .int lbb, .int lnu, .long lwa])), (l1, .inl (E.2.1 0, 3000, .inl ltx))] := by
  refine jw (by decide +kernel) (Nat.le_of_ble_eq_true rfl) ?_
  intro p e s m below meth c A ls J hJ hAe hsz hA hZ hP hD hl
  rw [← hAe]
  have hS : va_S A s.heap s.heap [] := va_S.rf
  have hl : lv_has ls 2 [(0, .ref l0)] := hl
  unfold f_LI_takeRegister at h
  refine lv_aload_n J.1 J.2.1 d_LI_takeRegister_0 rfl (lv_at hl 0 rfl) ?_
  replace h := g_bd h
  obtain ⟨r_1, q_1, h⟩ := h
  have hq := ct_LI_here l E l0 l1 s.heap.size lat len llb lor laa lbb lnu lwa ltx r_1 q_1
  have hr := jrunV (p := p) (e := e) (below := below) (R := ({ frames := 1, cells := 0, slots := 0, locals := 20 })) (cells := 0) (slots := 0) (As := []) (rest := []) J hJ hA hZ hP hD hS hq [0, 1] rfl (by decide) gl_LI_57 gi_LI_here gsel_LI_here gini_LI gc_LI_here hd_LI_here ⟨rfl, rfl, Nat.le_of_ble_eq_true rfl, Nat.le_of_ble_eq_true rfl⟩ rfl rfl hl.1 rfl rfl (Nat.le_of_ble_eq_true rfl) d_LI_takeRegister_1 ⟨Nat.zero_le _, Nat.zero_le _⟩
  clear hq
  refine jk_i hr hA hP hD hS [0, 1] [] (WR := []) rfl rfl (by decide) (by decide) [0, 1] (WF := [(l0, .inr (3, [.ref l1, .int lat, .int len, .long llb, .int lor, .int laa, .int lbb, .int lnu, .long lwa])), (l1, .inl (E.2.1 0, 3000, .inl ltx))]) rfl (by decide) ?_
  clear hP hD hS
  intro H locs hP hD hS
  clear hr
  refine lv_bipush (v := 32) J.1 J.2.1 d_LI_takeRegister_4 (by decide) ?_
  refine lv_icmp_eq (tgt := 11) J.1 J.2.1 d_LI_takeRegister_6 (by decide) (fun c_2 => ?_) (fun c_2 => ?_)
  · replace h := g_t c_2 h
    refine lv_aload_n J.1 J.2.1 d_LI_takeRegister_11 rfl (lv_at hl 0 rfl) ?_
    replace h := g_bd h
    obtain ⟨lat_3, q_3, h⟩ := h
    have hq := ct_LI_skipBlanks l E l0 l1 H.size lat len llb lor laa lbb lnu lwa ltx lat_3 q_3
    have hr := jrunV (p := p) (e := e) (below := below) (R := ({ frames := 1, cells := 0, slots := 0, locals := 20 })) (cells := 0) (slots := 0) (As := []) (rest := []) J hJ hA hZ hP hD hS hq [0, 1] rfl (by decide) gl_LI_54 gi_LI_skipBlanks gsel_LI_skipBlanks gini_LI gc_LI_skipBlanks hd_LI_skipBlanks ⟨rfl, rfl, Nat.le_of_ble_eq_true rfl, Nat.le_of_ble_eq_true rfl⟩ rfl rfl hl.1 rfl rfl (Nat.le_of_ble_eq_true rfl) d_LI_takeRegister_12 ⟨Nat.zero_le _, Nat.zero_le _⟩
    clear hq
    refine jk_v hr hA hP hD hS [0, 1] [] (WR := []) rfl rfl (by decide) (by decide) [0, 1] (WF := [(l0, .inr (3, [.ref l1, .int lat_3, .int len, .long llb, .int lor, .int laa, .int lbb, .int lnu, .long lwa])), (l1, .inl (E.2.1 0, 3000, .inl ltx))]) rfl (by decide) ?_
    clear hP hD hS
    intro H locs hP hD hS
    clear hr
    refine lv_aload_n J.1 J.2.1 d_LI_takeRegister_15 rfl (lv_at hl 0 rfl) ?_
    replace h := g_bd h
    obtain ⟨r_4, q_4, h⟩ := h
    have hq := ct_LI_here l E l0 l1 H.size lat_3 len llb lor laa lbb lnu lwa ltx r_4 q_4
    have hr := jrunV (p := p) (e := e) (below := below) (R := ({ frames := 1, cells := 0, slots := 0, locals := 20 })) (cells := 0) (slots := 0) (As := []) (rest := []) J hJ hA hZ hP hD hS hq [0, 1] rfl (by decide) gl_LI_57 gi_LI_here gsel_LI_here gini_LI gc_LI_here hd_LI_here ⟨rfl, rfl, Nat.le_of_ble_eq_true rfl, Nat.le_of_ble_eq_true rfl⟩ rfl rfl hl.1 rfl rfl (Nat.le_of_ble_eq_true rfl) d_LI_takeRegister_16 ⟨Nat.zero_le _, Nat.zero_le _⟩
    clear hq
    refine jk_i hr hA hP hD hS [0, 1] [] (WR := []) rfl rfl (by decide) (by decide) [0, 1] (WF := [(l0, .inr (3, [.ref l1, .int lat_3, .int len, .long llb, .int lor, .int laa, .int lbb, .int lnu, .long lwa])), (l1, .inl (E.2.1 0, 3000, .inl ltx))]) rfl (by decide) ?_
    clear hP hD hS
    intro H locs hP hD hS
    clear hr
    refine lv_bipush (v := 114) J.1 J.2.1 d_LI_takeRegister_19 (by decide) ?_
    refine lv_icmp_eq (tgt := 26) J.1 J.2.1 d_LI_takeRegister_21 (by decide) (fun c_5 => ?_) (fun c_5 => ?_)
    · replace h := g_t c_5 h
      refine lv_aload_n J.1 J.2.1 d_LI_takeRegister_26 rfl (lv_at hl 0 rfl) ?_
      refine lv_dup J.1 J.2.1 d_LI_takeRegister_27 rfl ?_
      refine jg J hJ hP 0 rfl rfl i_LI 1 (by decide) gf_LI_19 rfl d_LI_takeRegister_28 ?_
      refine lv_iconst (v := 1) J.1 J.2.1 d_LI_takeRegister_31 (by decide) ?_
      refine lv_iadd J.1 J.2.1 d_LI_takeRegister_32 ?_
      refine jp J hJ hP hD hS 0 rfl rfl i_LI t_LI t_LI_ok n_LI 1 (by decide) gf_LI_19 rfl rfl rfl (Nat.le_of_ble_eq_true rfl) d_LI_takeRegister_33 (WS' := [(l0, .inr (3, [.ref l1, .int (lat_3 + 1), .int len, .long llb, .int lor, .int laa, .int lbb, .int lnu, .long lwa])), (l1, .inl (E.2.1 0, 3000, .inl ltx))]) rfl ?_
      clear hP hD hS
      intro H locs hP hD hS
      refine lv_aload_n J.1 J.2.1 d_LI_takeRegister_36 rfl (lv_at hl 0 rfl) ?_
      replace h := g_bd h
      obtain ⟨r_6, q_6, h⟩ := h
      have hq := ct_LI_here l E l0 l1 H.size (lat_3 + 1) len llb lor laa lbb lnu lwa ltx r_6 q_6
      have hr := jrunV (p := p) (e := e) (below := below) (R := ({ frames := 1, cells := 0, slots := 0, locals := 20 })) (cells := 0) (slots := 0) (As := []) (rest := []) J hJ hA hZ hP hD hS hq [0, 1] rfl (by decide) gl_LI_57 gi_LI_here gsel_LI_here gini_LI gc_LI_here hd_LI_here ⟨rfl, rfl, Nat.le_of_ble_eq_true rfl, Nat.le_of_ble_eq_true rfl⟩ rfl rfl hl.1 rfl rfl (Nat.le_of_ble_eq_true rfl) d_LI_takeRegister_37 ⟨Nat.zero_le _, Nat.zero_le _⟩
      clear hq
      refine jk_i hr hA hP hD hS [0, 1] [] (WR := []) rfl rfl (by decide) (by decide) [0, 1] (WF := [(l0, .inr (3, [.ref l1, .int (lat_3 + 1), .int len, .long llb, .int lor, .int laa, .int lbb, .int lnu, .long lwa])), (l1, .inl (E.2.1 0, 3000, .inl ltx))]) rfl (by decide) ?_
      clear hP hD hS
      intro H locs hP hD hS
      clear hr
      refine lv_istore_n (lv' := [(1, .int r_6), (0, .ref l0)]) J.1 J.2.1 d_LI_takeRegister_40 rfl hl (by decide) rfl ?_
      clear hl
      intro ls hl
      refine lv_iload_n J.1 J.2.1 d_LI_takeRegister_41 rfl (lv_at hl 0 rfl) ?_
      refine lv_bipush (v := 48) J.1 J.2.1 d_LI_takeRegister_42 (by decide) ?_
      refine lv_icmp_lt (tgt := 53) J.1 J.2.1 d_LI_takeRegister_44 (by decide) (fun c_7 => ?_) (fun c_7 => ?_)
      · replace h := g_t c_7 h
        refine lv_iconst (v := (-1)) J.1 J.2.1 d_LI_takeRegister_53 (by decide) ?_
        have h := Option.some.inj h
        have e_0 := (Prod.mk.inj h).1
        have h := (Prod.mk.inj h).2
        rw [← e_0, ← h]
        exact jr_i J hS hP hD rfl d_LI_takeRegister_54
      · replace h := g_f c_7 h
        refine lv_iload_n J.1 J.2.1 d_LI_takeRegister_47 rfl (lv_at hl 0 rfl) ?_
        refine lv_bipush (v := 55) J.1 J.2.1 d_LI_takeRegister_48 (by decide) ?_
        refine lv_icmp_le (tgt := 55) J.1 J.2.1 d_LI_takeRegister_50 (by decide) (fun c_8 => ?_) (fun c_8 => ?_)
        · replace h := g_t c_8 h
          refine lv_aload_n J.1 J.2.1 d_LI_takeRegister_55 rfl (lv_at hl 1 rfl) ?_
          refine lv_dup J.1 J.2.1 d_LI_takeRegister_56 rfl ?_
          refine jg J hJ hP 0 rfl rfl i_LI 1 (by decide) gf_LI_19 rfl d_LI_takeRegister_57 ?_
          refine lv_iconst (v := 1) J.1 J.2.1 d_LI_takeRegister_60 (by decide) ?_
          refine lv_iadd J.1 J.2.1 d_LI_takeRegister_61 ?_
          refine jp J hJ hP hD hS 0 rfl rfl i_LI t_LI t_LI_ok n_LI 1 (by decide) gf_LI_19 rfl rfl rfl (Nat.le_of_ble_eq_true rfl) d_LI_takeRegister_62 (WS' := [(l0, .inr (3, [.ref l1, .int ((lat_3 + 1) + 1), .int len, .long llb, .int lor, .int laa, .int lbb, .int lnu, .long lwa])), (l1, .inl (E.2.1 0, 3000, .inl ltx))]) rfl ?_
          clear hP hD hS
          intro H locs hP hD hS
          refine lv_iload_n J.1 J.2.1 d_LI_takeRegister_65 rfl (lv_at hl 0 rfl) ?_
          refine lv_bipush (v := 48) J.1 J.2.1 d_LI_takeRegister_66 (by decide) ?_
          refine lv_isub J.1 J.2.1 d_LI_takeRegister_68 ?_
          have h := Option.some.inj h
          have e_0 := (Prod.mk.inj h).1
          have h := (Prod.mk.inj h).2
          rw [← e_0, ← h]
          exact jr_i J hS hP hD rfl d_LI_takeRegister_69
        · replace h := g_f c_8 h
          refine lv_iconst (v := (-1)) J.1 J.2.1 d_LI_takeRegister_53 (by decide) ?_
          have h := Option.some.inj h
          have e_0 := (Prod.mk.inj h).1
          have h := (Prod.mk.inj h).2
          rw [← e_0, ← h]
          exact jr_i J hS hP hD rfl d_LI_takeRegister_54
    · replace h := g_f c_5 h
      refine lv_iconst (v := (-1)) J.1 J.2.1 d_LI_takeRegister_24 (by decide) ?_
      have h := Option.some.inj h
      have e_0 := (Prod.mk.inj h).1
      have h := (Prod.mk.inj h).2
      rw [← e_0, ← h]
      exact jr_i J hS hP hD rfl d_LI_takeRegister_25
  · replace h := g_f c_2 h
    refine lv_iconst (v := (-1)) J.1 J.2.1 d_LI_takeRegister_9 (by decide) ?_
    have h := Option.some.inj h
    have e_0 := (Prod.mk.inj h).1
    have h := (Prod.mk.inj h).2
    rw [← e_0, ← h]
    exact jr_i J hS hP hD rfl d_LI_takeRegister_10

theorem hd_LI_isNamed : y_LI_isNamed.cls ≠ "java/lang/invoke/MethodHandle" ∧ y_LI_isNamed.cls ≠ "java/lang/invoke/VarHandle" ∧ (parseMethodDescriptor y_LI_isNamed.desc).map (fun d => d.parameters.length) = some 3 := by decide +kernel
def b_LI_isNamed_11 : Nat → (Nat → Int32) → Int32 → Int32 → Int32 → Int32 → Option (Int32)
  | 0, _, _, _, _, _ => none
  | n + 1, ltx, x1, x2, x3, x4 => (if (6 : Int32) ≤ x4 then (some 1) else (if x3 ≤ x4 then ((f_JS_charAt ((x1 * 6) + x4)).bind fun r_3 => (if r_3 = (32 : Int32) then b_LI_isNamed_11 n ltx x1 x2 x3 (x4 + 1) else (some 0))) else (if ck (x2 + x4) 3000 then ((f_JS_charAt ((x1 * 6) + x4)).bind fun r_6 => (if r_6 = (ltx (x2 + x4).toNatClampNeg) then b_LI_isNamed_11 n ltx x1 x2 x3 (x4 + 1) else (some 0))) else none)))
def f_LI_isNamed (ltx : Nat → Int32) (p1 : Int32) (p2 : Int32) (p3 : Int32) : Option (Int32) := (if p3 ≤ (6 : Int32) then b_LI_isNamed_11 65536 ltx p1 p2 p3 0 else (some 0))
set_option maxHeartbeats 4000000 in
set_option maxRecDepth 100000 in
theorem kb_LI_isNamed_11 {p : Program} {l : Launch} {e : Env} {s : State} {m : MethodId} {below : List Frame} {meth : Method} {c : Code} {A : Nat → Prop} {E : jz_E} {l0 l1 : Nat} {p1 : Int32} {p2 : Int32} {p3 : Int32} {o_r : Int32} (J : JC p s m ([.ref l0, .int p1, .int p2, .int p3] : List Value).toArray meth c c_LI_isNamed 6 (some .boolean) y_LI_isNamed.cls) (hJ : jE E s) (hA : ∀ q : Nat, s.heap.size ≤ q → A q) (hZ : jz_ok E A s s.heap) (hzC : ("java/lang/String", "COMPACT_STRINGS", "Z", Value.int 1) ∈ E.2.2.1) : ∀ (n : Nat) (lat : Int32) (len : Int32) (llb : Int64) (lor : Int32) (laa : Int32) (lbb : Int32) (lnu : Int32) (lwa : Int64) (ltx : Nat → Int32) (x1 : Int32) (x2 : Int32) (x3 : Int32) (x4 : Int32) (H : Heap) (locs : List Loc) (ls : Array Slot), b_LI_isNamed_11 n ltx x1 x2 x3 x4 = some o_r → va_P E.1 classes [(l0, .inr (3, [.ref l1, .int lat, .int len, .long llb, .int lor, .int laa, .int lbb, .int lnu, .long lwa])), (l1, .inl (E.2.1 0, 3000, .inl ltx))] H → va_D A [(l0, .inr (3, [.ref l1, .int lat, .int len, .long llb, .int lor, .int laa, .int lbb, .int lnu, .long lwa])), (l1, .inl (E.2.1 0, 3000, .inl ltx))] → va_S A s.heap H locs → lv_has ls 6 [(0, .ref l0), (1, .int x1), (2, .int x2), (3, .int x3), (4, .int x4)] → W p l e ({ frames := 4, cells := 0, slots := 0, locals := 85 }) s m ([.ref l0, .int p1, .int p2, .int p3] : List Value).toArray below meth c H locs 0 0 (MQ below (va_Qi (fun (r' : Int32) (u : va_W) => r' = o_r ∧ u = [(l0, .inr (3, [.ref l1, .int lat, .int len, .long llb, .int lor, .int laa, .int lbb, .int lnu, .long lwa])), (l1, .inl (E.2.1 0, 3000, .inl ltx))]) (BW E A) A) ([.ref l0, .int p1, .int p2, .int p3] : List Value).toArray s 0 0 A) (F0 m 11 ls []) := by
  intro n
  induction n with
  | zero => intro lat len llb lor laa lbb lnu lwa ltx x1 x2 x3 x4 H locs ls h; cases h
  | succ n ih =>
    intro lat len llb lor laa lbb lnu lwa ltx x1 x2 x3 x4 H locs ls h hP hD hS hl
    rw [b_LI_isNamed_11] at h
    refine lv_iload J.1 J.2.1 d_LI_isNamed_11 (lv_at hl 4 rfl) ?_
    refine lv_bipush (v := 6) J.1 J.2.1 d_LI_isNamed_13 (by decide) ?_
    refine lv_icmp_ge (tgt := 65) J.1 J.2.1 d_LI_isNamed_15 (by decide) (fun c_1 => ?_) (fun c_1 => ?_)
    · replace h := g_t c_1 h
      refine lv_iconst (v := 1) J.1 J.2.1 d_LI_isNamed_65 (by decide) ?_
      have h := Option.some.inj h
      rw [← h]
      exact jr_i J hS hP hD rfl d_LI_isNamed_66
    · replace h := g_f c_1 h
      refine lv_iload J.1 J.2.1 d_LI_isNamed_18 (lv_at hl 4 rfl) ?_
      refine lv_iload_n J.1 J.2.1 d_LI_isNamed_20 rfl (lv_at hl 3 rfl) ?_
      refine lv_icmp_ge (tgt := 36) J.1 J.2.1 d_LI_isNamed_21 (by decide) (fun c_2 => ?_) (fun c_2 => ?_)
      · replace h := g_t c_2 h
        refine lv_bipush (v := 32) J.1 J.2.1 d_LI_isNamed_36 (by decide) ?_
        refine lv_istore (lv' := [(5, .int 32), (0, .ref l0), (1, .int x1), (2, .int x2), (3, .int x3), (4, .int x4)]) J.1 J.2.1 d_LI_isNamed_38 hl (by decide) rfl ?_
        clear hl
        intro ls hl
        refine va_ldcS J.1 J.2.1 J.2.2.2.2.1 hZ.2.2.2.1 d_LI_isNamed_40 ?_
        refine lv_iload_n J.1 J.2.1 d_LI_isNamed_42 rfl (lv_at hl 2 rfl) ?_
        refine lv_bipush (v := 6) J.1 J.2.1 d_LI_isNamed_43 (by decide) ?_
        refine lv_imul J.1 J.2.1 d_LI_isNamed_45 ?_
        refine lv_iload J.1 J.2.1 d_LI_isNamed_46 (lv_at hl 5 rfl) ?_
        refine lv_iadd J.1 J.2.1 d_LI_isNamed_48 ?_
        replace h := g_bd h
        obtain ⟨r_3, q_3, h⟩ := h
        have hr := jrunT (p := p) (e := e) (below := below) (R := ({ frames := 4, cells := 0, slots := 0, locals := 85 })) (cells := 0) (slots := 0) (As := [.int ((x1 * 6) + x4)]) (rest := []) J hJ hA hZ hP hD hS (ct_JS_charAt l E _ ((x1 * 6) + x4) r_3 hzC q_3) rfl gl_LI_87 gi_JS_charAt gsel_JS_charAt gini_JS gc_JS_charAt hd_JS_charAt ⟨rfl, rfl, Nat.le_of_ble_eq_true rfl, Nat.le_of_ble_eq_true rfl⟩ hl.1 rfl rfl (Nat.le_of_ble_eq_true rfl) d_LI_isNamed_49 ⟨Nat.zero_le _, Nat.zero_le _⟩
        refine jk_i hr hA hP hD hS [] [0, 1] (WR := [(l0, .inr (3, [.ref l1, .int lat, .int len, .long llb, .int lor, .int laa, .int lbb, .int lnu, .long lwa])), (l1, .inl (E.2.1 0, 3000, .inl ltx))]) rfl rfl (by decide) (by decide) [0, 1] (WF := [(l0, .inr (3, [.ref l1, .int lat, .int len, .long llb, .int lor, .int laa, .int lbb, .int lnu, .long lwa])), (l1, .inl (E.2.1 0, 3000, .inl ltx))]) rfl (by decide) ?_
        clear hP hD hS
        intro H locs hP hD hS
        clear hr
        refine lv_iload J.1 J.2.1 d_LI_isNamed_52 (lv_at hl 0 rfl) ?_
        refine lv_icmp_eq (tgt := 59) J.1 J.2.1 d_LI_isNamed_54 (by decide) (fun c_4 => ?_) (fun c_4 => ?_)
        · replace h := g_t c_4 h
          refine lv_iinc (v := (x4 + 1)) (lv' := [(4, .int (x4 + 1)), (5, .int 32), (0, .ref l0), (1, .int x1), (2, .int x2), (3, .int x3)]) J.1 J.2.1 d_LI_isNamed_59 hl (k := 5) rfl rfl (by decide) rfl ?_
          clear hl
          intro ls hl
          refine lv_goto (tgt := 11) J.1 J.2.1 d_LI_isNamed_62 (by decide) ?_
          exact ih _ _ _ _ _ _ _ _ _ _ _ _ _ _ _ _ h hP hD hS (lv_sub hl [2, 3, 4, 5, 0] rfl)
        · replace h := g_f c_4 h
          refine lv_iconst (v := 0) J.1 J.2.1 d_LI_isNamed_57 (by decide) ?_
          have h := Option.some.inj h
          rw [← h]
          exact jr_i J hS hP hD rfl d_LI_isNamed_58
      · replace h := g_f c_2 h
        refine lv_aload_n J.1 J.2.1 d_LI_isNamed_24 rfl (lv_at hl 0 rfl) ?_
        refine jg J hJ hP 0 rfl rfl i_LI 0 (by decide) gf_LI_9 rfl d_LI_isNamed_25 ?_
        refine lv_iload_n J.1 J.2.1 d_LI_isNamed_28 rfl (lv_at hl 2 rfl) ?_
        refine lv_iload J.1 J.2.1 d_LI_isNamed_29 (lv_at hl 4 rfl) ?_
        refine lv_iadd J.1 J.2.1 d_LI_isNamed_31 ?_
        replace h := g_ck h
        obtain ⟨k_5, h⟩ := h
        refine jai J hJ hP 1 rfl k_5 d_LI_isNamed_32 ?_
        refine lv_goto (tgt := 38) J.1 J.2.1 d_LI_isNamed_33 (by decide) ?_
        refine lv_istore (lv' := [(5, .int (ltx (x2 + x4).toNatClampNeg)), (0, .ref l0), (1, .int x1), (2, .int x2), (3, .int x3), (4, .int x4)]) J.1 J.2.1 d_LI_isNamed_38 hl (by decide) rfl ?_
        clear hl
        intro ls hl
        refine va_ldcS J.1 J.2.1 J.2.2.2.2.1 hZ.2.2.2.1 d_LI_isNamed_40 ?_
        refine lv_iload_n J.1 J.2.1 d_LI_isNamed_42 rfl (lv_at hl 2 rfl) ?_
        refine lv_bipush (v := 6) J.1 J.2.1 d_LI_isNamed_43 (by decide) ?_
        refine lv_imul J.1 J.2.1 d_LI_isNamed_45 ?_
        refine lv_iload J.1 J.2.1 d_LI_isNamed_46 (lv_at hl 5 rfl) ?_
        refine lv_iadd J.1 J.2.1 d_LI_isNamed_48 ?_
        replace h := g_bd h
        obtain ⟨r_6, q_6, h⟩ := h
        have hr := jrunT (p := p) (e := e) (below := below) (R := ({ frames := 4, cells := 0, slots := 0, locals := 85 })) (cells := 0) (slots := 0) (As := [.int ((x1 * 6) + x4)]) (rest := []) J hJ hA hZ hP hD hS (ct_JS_charAt l E _ ((x1 * 6) + x4) r_6 hzC q_6) rfl gl_LI_87 gi_JS_charAt gsel_JS_charAt gini_JS gc_JS_charAt hd_JS_charAt ⟨rfl, rfl, Nat.le_of_ble_eq_true rfl, Nat.le_of_ble_eq_true rfl⟩ hl.1 rfl rfl (Nat.le_of_ble_eq_true rfl) d_LI_isNamed_49 ⟨Nat.zero_le _, Nat.zero_le _⟩
        refine jk_i hr hA hP hD hS [] [0, 1] (WR := [(l0, .inr (3, [.ref l1, .int lat, .int len, .long llb, .int lor, .int laa, .int lbb, .int lnu, .long lwa])), (l1, .inl (E.2.1 0, 3000, .inl ltx))]) rfl rfl (by decide) (by decide) [0, 1] (WF := [(l0, .inr (3, [.ref l1, .int lat, .int len, .long llb, .int lor, .int laa, .int lbb, .int lnu, .long lwa])), (l1, .inl (E.2.1 0, 3000, .inl ltx))]) rfl (by decide) ?_
        clear hP hD hS
        intro H locs hP hD hS
        clear hr
        refine lv_iload J.1 J.2.1 d_LI_isNamed_52 (lv_at hl 0 rfl) ?_
        refine lv_icmp_eq (tgt := 59) J.1 J.2.1 d_LI_isNamed_54 (by decide) (fun c_7 => ?_) (fun c_7 => ?_)
        · replace h := g_t c_7 h
          refine lv_iinc (v := (x4 + 1)) (lv' := [(4, .int (x4 + 1)), (5, .int (ltx (x2 + x4).toNatClampNeg)), (0, .ref l0), (1, .int x1), (2, .int x2), (3, .int x3)]) J.1 J.2.1 d_LI_isNamed_59 hl (k := 5) rfl rfl (by decide) rfl ?_
          clear hl
          intro ls hl
          refine lv_goto (tgt := 11) J.1 J.2.1 d_LI_isNamed_62 (by decide) ?_
          exact ih _ _ _ _ _ _ _ _ _ _ _ _ _ _ _ _ h hP hD hS (lv_sub hl [2, 3, 4, 5, 0] rfl)
        · replace h := g_f c_7 h
          refine lv_iconst (v := 0) J.1 J.2.1 d_LI_isNamed_57 (by decide) ?_
          have h := Option.some.inj h
          rw [← h]
          exact jr_i J hS hP hD rfl d_LI_isNamed_58
set_option maxHeartbeats 4000000 in
set_option maxRecDepth 100000 in
theorem ct_LI_isNamed (l : Launch) (E : jz_E) (l0 l1 : Nat) (sz : Nat) (lat : Int32) (len : Int32) (llb : Int64) (lor : Int32) (laa : Int32) (lbb : Int32) (lnu : Int32) (lwa : Int64) (ltx : Nat → Int32) (p1 : Int32) (p2 : Int32) (p3 : Int32) (o_r : Int32)  (hzC : ("java/lang/String", "COMPACT_STRINGS", "Z", Value.int 1) ∈ E.2.2.1) (h : f_LI_isNamed ltx p1 p2 p3 = some o_r) : CTi l E y_LI_isNamed c_LI_isNamed 6 (some .boolean) ({ frames := 4, cells := 0, slots := 0, locals := 85 }) [.ref l0, .int p1, .int p2, .int p3] [(l0, .inr (3, [.ref l1, .int lat, .int len, .long llb, .int lor, .int laa, .int lbb, .int lnu, .long lwa])), (l1, .inl (E.2.1 0, 3000, .inl ltx))] sz o_r [(l0, .inr (3, [.ref l1, .int lat, .int len, .long llb, .int lor, .int laa, .int lbb, .int lnu, .long lwa])), (l1, .inl (E.2.1 0, 3000, .inl ltx))] := by
  refine jw (by decide +kernel) (Nat.le_of_ble_eq_true rfl) ?_
  intro p e s m below meth c A ls J hJ hAe hsz hA hZ hP hD hl
  rw [← hAe]
  have hS : va_S A s.heap s.heap [] := va_S.rf
  have hl : lv_has ls 6 [(0, .ref l0), (1, .int p1), (2, .int p2), (3, .int p3)] := hl
  unfold f_LI_isNamed at h
  refine lv_iload_n J.1 J.2.1 d_LI_isNamed_0 rfl (lv_at hl 3 rfl) ?_
  refine lv_bipush (v := 6) J.1 J.2.1 d_LI_isNamed_1 (by decide) ?_
  refine lv_icmp_le (tgt := 8) J.1 J.2.1 d_LI_isNamed_3 (by decide) (fun c_8 => ?_) (fun c_8 => ?_)
  · replace h := g_t c_8 h
    refine lv_iconst (v := 0) J.1 J.2.1 d_LI_isNamed_8 (by decide) ?_
    refine lv_istore (lv' := [(4, .int 0), (0, .ref l0), (1, .int p1), (2, .int p2), (3, .int p3)]) J.1 J.2.1 d_LI_isNamed_9 hl (by decide) rfl ?_
    clear hl
    intro ls hl
    exact kb_LI_isNamed_11 J hJ hA hZ hzC _ _ _ _ _ _ _ _ _ _ _ _ _ _ _ _ _ h hP hD hS (lv_sub hl [1, 2, 3, 4, 0] rfl)
  · replace h := g_f c_8 h
    refine lv_iconst (v := 0) J.1 J.2.1 d_LI_isNamed_6 (by decide) ?_
    have h := Option.some.inj h
    rw [← h]
    exact jr_i J hS hP hD rfl d_LI_isNamed_7

theorem hd_LI_takeOrder : y_LI_takeOrder.cls ≠ "java/lang/invoke/MethodHandle" ∧ y_LI_takeOrder.cls ≠ "java/lang/invoke/VarHandle" ∧ (parseMethodDescriptor y_LI_takeOrder.desc).map (fun d => d.parameters.length) = some 0 := by decide +kernel
def b_LI_takeOrder_59 : Nat → Int32 → (Nat → Int32) → Int32 → Int32 → Option (Int32 × Int32)
  | 0, _, _, _, _ => none
  | n + 1, lat, ltx, x1, x2 => (if (28 : Int32) ≤ x2 then (some ((-1), lat)) else ((f_LI_isNamed ltx x2 x1 (lat - x1)).bind fun r_2 => (if r_2 = (0 : Int32) then b_LI_takeOrder_59 n lat ltx x1 (x2 + 1) else (some (x2, lat)))))
def b_LI_takeOrder_57 (lat : Int32) (ltx : Nat → Int32) (x1 : Int32) : Option (Int32 × Int32) := b_LI_takeOrder_59 65536 lat ltx x1 0
def b_LI_takeOrder_5 : Nat → Int32 → Int32 → (Nat → Int32) → Int32 → Option (Int32 × Int32)
  | 0, _, _, _, _ => none
  | n + 1, lat, len, ltx, x1 => (if len ≤ lat then b_LI_takeOrder_57 lat ltx x1 else (if ck lat 3000 then (if (ltx lat.toNatClampNeg) < (65 : Int32) then b_LI_takeOrder_57 lat ltx x1 else (if ck lat 3000 then (if (90 : Int32) < (ltx lat.toNatClampNeg) then b_LI_takeOrder_57 lat ltx x1 else b_LI_takeOrder_5 n (lat + 1) len ltx x1) else none)) else none))
def f_LI_takeOrder (lat : Int32) (len : Int32) (ltx : Nat → Int32) : Option (Int32 × Int32) := b_LI_takeOrder_5 65536 lat len ltx lat
set_option maxHeartbeats 4000000 in
set_option maxRecDepth 100000 in
theorem kb_LI_takeOrder_59 {p : Program} {l : Launch} {e : Env} {s : State} {m : MethodId} {below : List Frame} {meth : Method} {c : Code} {A : Nat → Prop} {E : jz_E} {l0 l1 : Nat} {o_r : Int32} {o_lat : Int32} (J : JC p s m ([.ref l0] : List Value).toArray meth c c_LI_takeOrder 3 (some .int) y_LI_takeOrder.cls) (hJ : jE E s) (hA : ∀ q : Nat, s.heap.size ≤ q → A q) (hZ : jz_ok E A s s.heap) (hzC : ("java/lang/String", "COMPACT_STRINGS", "Z", Value.int 1) ∈ E.2.2.1) : ∀ (n : Nat) (lat : Int32) (len : Int32) (llb : Int64) (lor : Int32) (laa : Int32) (lbb : Int32) (lnu : Int32) (lwa : Int64) (ltx : Nat → Int32) (x1 : Int32) (x2 : Int32) (H : Heap) (locs : List Loc) (ls : Array Slot), b_LI_takeOrder_59 n lat ltx x1 x2 = some (o_r, o_lat) → va_P E.1 classes [(l0, .inr (3, [.ref l1, .int lat, .int len, .long llb, .int lor, .int laa, .int lbb, .int lnu, .long lwa])), (l1, .inl (E.2.1 0, 3000, .inl ltx))] H → va_D A [(l0, .inr (3, [.ref l1, .int lat, .int len, .long llb, .int lor, .int laa, .int lbb, .int lnu, .long lwa])), (l1, .inl (E.2.1 0, 3000, .inl ltx))] → va_S A s.heap H locs → lv_has ls 3 [(0, .ref l0), (1, .int x1), (2, .int x2)] → W p l e ({ frames := 5, cells := 0, slots := 0, locals := 110 }) s m ([.ref l0] : List Value).toArray below meth c H locs 0 0 (MQ below (va_Qi (fun (r' : Int32) (u : va_W) => r' = o_r ∧ u = [(l0, .inr (3, [.ref l1, .int o_lat, .int len, .long llb, .int lor, .int laa, .int lbb, .int lnu, .long lwa])), (l1, .inl (E.2.1 0, 3000, .inl ltx))]) (BW E A) A) ([.ref l0] : List Value).toArray s 0 0 A) (F0 m 59 ls []) := by
  intro n
  induction n with
  | zero => intro lat len llb lor laa lbb lnu lwa ltx x1 x2 H locs ls h; cases h
  | succ n ih =>
    intro lat len llb lor laa lbb lnu lwa ltx x1 x2 H locs ls h hP hD hS hl
    rw [b_LI_takeOrder_59] at h
    refine lv_iload_n J.1 J.2.1 d_LI_takeOrder_59 rfl (lv_at hl 2 rfl) ?_
    refine lv_bipush (v := 28) J.1 J.2.1 d_LI_takeOrder_60 (by decide) ?_
    refine lv_icmp_ge (tgt := 88) J.1 J.2.1 d_LI_takeOrder_62 (by decide) (fun c_1 => ?_) (fun c_1 => ?_)
    · replace h := g_t c_1 h
      refine lv_iconst (v := (-1)) J.1 J.2.1 d_LI_takeOrder_88 (by decide) ?_
      have h := Option.some.inj h
      have e_0 := (Prod.mk.inj h).1
      have h := (Prod.mk.inj h).2
      rw [← e_0, ← h]
      exact jr_i J hS hP hD rfl d_LI_takeOrder_89
    · replace h := g_f c_1 h
      refine lv_aload_n J.1 J.2.1 d_LI_takeOrder_65 rfl (lv_at hl 0 rfl) ?_
      refine lv_iload_n J.1 J.2.1 d_LI_takeOrder_66 rfl (lv_at hl 2 rfl) ?_
      refine lv_iload_n J.1 J.2.1 d_LI_takeOrder_67 rfl (lv_at hl 1 rfl) ?_
      refine lv_aload_n J.1 J.2.1 d_LI_takeOrder_68 rfl (lv_at hl 0 rfl) ?_
      refine jg J hJ hP 0 rfl rfl i_LI 1 (by decide) gf_LI_19 rfl d_LI_takeOrder_69 ?_
      refine lv_iload_n J.1 J.2.1 d_LI_takeOrder_72 rfl (lv_at hl 1 rfl) ?_
      refine lv_isub J.1 J.2.1 d_LI_takeOrder_73 ?_
      replace h := g_bd h
      obtain ⟨r_2, q_2, h⟩ := h
      have hq := ct_LI_isNamed l E l0 l1 H.size lat len llb lor laa lbb lnu lwa ltx x2 x1 (lat - x1) r_2 hzC q_2
      have hr := jrunV (p := p) (e := e) (below := below) (R := ({ frames := 5, cells := 0, slots := 0, locals := 110 })) (cells := 0) (slots := 0) (As := [.int x2, .int x1, .int (lat - x1)]) (rest := []) J hJ hA hZ hP hD hS hq [0, 1] rfl (by decide) gl_LI_81 gi_LI_isNamed gsel_LI_isNamed gini_LI gc_LI_isNamed hd_LI_isNamed ⟨rfl, rfl, Nat.le_of_ble_eq_true rfl, Nat.le_of_ble_eq_true rfl⟩ rfl rfl hl.1 rfl rfl (Nat.le_of_ble_eq_true rfl) d_LI_takeOrder_74 ⟨Nat.zero_le _, Nat.zero_le _⟩
      clear hq
      refine jk_i hr hA hP hD hS [0, 1] [] (WR := []) rfl rfl (by decide) (by decide) [0, 1] (WF := [(l0, .inr (3, [.ref l1, .int lat, .int len, .long llb, .int lor, .int laa, .int lbb, .int lnu, .long lwa])), (l1, .inl (E.2.1 0, 3000, .inl ltx))]) rfl (by decide) ?_
      clear hP hD hS
      intro H locs hP hD hS
      clear hr
      refine lv_if_eq (tgt := 82) J.1 J.2.1 d_LI_takeOrder_77 (by decide) (fun c_3 => ?_) (fun c_3 => ?_)
      · replace h := g_t c_3 h
        refine lv_iinc (v := (x2 + 1)) (lv' := [(2, .int (x2 + 1)), (0, .ref l0), (1, .int x1)]) J.1 J.2.1 d_LI_takeOrder_82 hl (k := 2) rfl rfl (by decide) rfl ?_
        clear hl
        intro ls hl
        refine lv_goto (tgt := 59) J.1 J.2.1 d_LI_takeOrder_85 (by decide) ?_
        exact ih _ _ _ _ _ _ _ _ _ _ _ _ _ _ h hP hD hS (lv_sub hl [1, 2, 0] rfl)
      · replace h := g_f c_3 h
        refine lv_iload_n J.1 J.2.1 d_LI_takeOrder_80 rfl (lv_at hl 2 rfl) ?_
        have h := Option.some.inj h
        have e_0 := (Prod.mk.inj h).1
        have h := (Prod.mk.inj h).2
        rw [← e_0, ← h]
        exact jr_i J hS hP hD rfl d_LI_takeOrder_81
set_option maxHeartbeats 4000000 in
set_option maxRecDepth 100000 in
theorem kb_LI_takeOrder_57 {p : Program} {l : Launch} {e : Env} {s : State} {m : MethodId} {below : List Frame} {meth : Method} {c : Code} {A : Nat → Prop} {E : jz_E} {l0 l1 : Nat} {o_r : Int32} {o_lat : Int32} (J : JC p s m ([.ref l0] : List Value).toArray meth c c_LI_takeOrder 3 (some .int) y_LI_takeOrder.cls) (hJ : jE E s) (hA : ∀ q : Nat, s.heap.size ≤ q → A q) (hZ : jz_ok E A s s.heap) (hzC : ("java/lang/String", "COMPACT_STRINGS", "Z", Value.int 1) ∈ E.2.2.1) : ∀ (lat : Int32) (len : Int32) (llb : Int64) (lor : Int32) (laa : Int32) (lbb : Int32) (lnu : Int32) (lwa : Int64) (ltx : Nat → Int32) (x1 : Int32) (H : Heap) (locs : List Loc) (ls : Array Slot), b_LI_takeOrder_57 lat ltx x1 = some (o_r, o_lat) → va_P E.1 classes [(l0, .inr (3, [.ref l1, .int lat, .int len, .long llb, .int lor, .int laa, .int lbb, .int lnu, .long lwa])), (l1, .inl (E.2.1 0, 3000, .inl ltx))] H → va_D A [(l0, .inr (3, [.ref l1, .int lat, .int len, .long llb, .int lor, .int laa, .int lbb, .int lnu, .long lwa])), (l1, .inl (E.2.1 0, 3000, .inl ltx))] → va_S A s.heap H locs → lv_has ls 3 [(0, .ref l0), (1, .int x1)] → W p l e ({ frames := 5, cells := 0, slots := 0, locals := 110 }) s m ([.ref l0] : List Value).toArray below meth c H locs 0 0 (MQ below (va_Qi (fun (r' : Int32) (u : va_W) => r' = o_r ∧ u = [(l0, .inr (3, [.ref l1, .int o_lat, .int len, .long llb, .int lor, .int laa, .int lbb, .int lnu, .long lwa])), (l1, .inl (E.2.1 0, 3000, .inl ltx))]) (BW E A) A) ([.ref l0] : List Value).toArray s 0 0 A) (F0 m 57 ls []) := by
  intro lat len llb lor laa lbb lnu lwa ltx x1 H locs ls h hP hD hS hl
  rw [b_LI_takeOrder_57] at h
  refine lv_iconst (v := 0) J.1 J.2.1 d_LI_takeOrder_57 (by decide) ?_
  refine lv_istore_n (lv' := [(2, .int 0), (0, .ref l0), (1, .int x1)]) J.1 J.2.1 d_LI_takeOrder_58 rfl hl (by decide) rfl ?_
  clear hl
  intro ls hl
  exact kb_LI_takeOrder_59 J hJ hA hZ hzC _ _ _ _ _ _ _ _ _ _ _ _ _ _ _ h hP hD hS (lv_sub hl [1, 2, 0] rfl)
set_option maxHeartbeats 4000000 in
set_option maxRecDepth 100000 in
theorem kb_LI_takeOrder_5 {p : Program} {l : Launch} {e : Env} {s : State} {m : MethodId} {below : List Frame} {meth : Method} {c : Code} {A : Nat → Prop} {E : jz_E} {l0 l1 : Nat} {o_r : Int32} {o_lat : Int32} (J : JC p s m ([.ref l0] : List Value).toArray meth c c_LI_takeOrder 3 (some .int) y_LI_takeOrder.cls) (hJ : jE E s) (hA : ∀ q : Nat, s.heap.size ≤ q → A q) (hZ : jz_ok E A s s.heap) (hzC : ("java/lang/String", "COMPACT_STRINGS", "Z", Value.int 1) ∈ E.2.2.1) : ∀ (n : Nat) (lat : Int32) (len : Int32) (llb : Int64) (lor : Int32) (laa : Int32) (lbb : Int32) (lnu : Int32) (lwa : Int64) (ltx : Nat → Int32) (x1 : Int32) (H : Heap) (locs : List Loc) (ls : Array Slot), b_LI_takeOrder_5 n lat len ltx x1 = some (o_r, o_lat) → va_P E.1 classes [(l0, .inr (3, [.ref l1, .int lat, .int len, .long llb, .int lor, .int laa, .int lbb, .int lnu, .long lwa])), (l1, .inl (E.2.1 0, 3000, .inl ltx))] H → va_D A [(l0, .inr (3, [.ref l1, .int lat, .int len, .long llb, .int lor, .int laa, .int lbb, .int lnu, .long lwa])), (l1, .inl (E.2.1 0, 3000, .inl ltx))] → va_S A s.heap H locs → lv_has ls 3 [(0, .ref l0), (1, .int x1)] → W p l e ({ frames := 5, cells := 0, slots := 0, locals := 110 }) s m ([.ref l0] : List Value).toArray below meth c H locs 0 0 (MQ below (va_Qi (fun (r' : Int32) (u : va_W) => r' = o_r ∧ u = [(l0, .inr (3, [.ref l1, .int o_lat, .int len, .long llb, .int lor, .int laa, .int lbb, .int lnu, .long lwa])), (l1, .inl (E.2.1 0, 3000, .inl ltx))]) (BW E A) A) ([.ref l0] : List Value).toArray s 0 0 A) (F0 m 5 ls []) := by
  intro n
  induction n with
  | zero => intro lat len llb lor laa lbb lnu lwa ltx x1 H locs ls h; cases h
  | succ n ih =>
    intro lat len llb lor laa lbb lnu lwa ltx x1 H locs ls h hP hD hS hl
    rw [b_LI_takeOrder_5] at h
    refine lv_aload_n J.1 J.2.1 d_LI_takeOrder_5 rfl (lv_at hl 0 rfl) ?_
    refine jg J hJ hP 0 rfl rfl i_LI 1 (by decide) gf_LI_19 rfl d_LI_takeOrder_6 ?_
    refine lv_aload_n J.1 J.2.1 d_LI_takeOrder_9 rfl (lv_at hl 0 rfl) ?_
    refine jg J hJ hP 0 rfl rfl i_LI 2 (by decide) gf_LI_22 rfl d_LI_takeOrder_10 ?_
    refine lv_icmp_ge (tgt := 57) J.1 J.2.1 d_LI_takeOrder_13 (by decide) (fun c_4 => ?_) (fun c_4 => ?_)
    · replace h := g_t c_4 h
      exact kb_LI_takeOrder_57 J hJ hA hZ hzC _ _ _ _ _ _ _ _ _ _ _ _ _ h hP hD hS (lv_sub hl [0, 1] rfl)
    · replace h := g_f c_4 h
      refine lv_aload_n J.1 J.2.1 d_LI_takeOrder_16 rfl (lv_at hl 0 rfl) ?_
      refine jg J hJ hP 0 rfl rfl i_LI 0 (by decide) gf_LI_9 rfl d_LI_takeOrder_17 ?_
      refine lv_aload_n J.1 J.2.1 d_LI_takeOrder_20 rfl (lv_at hl 0 rfl) ?_
      refine jg J hJ hP 0 rfl rfl i_LI 1 (by decide) gf_LI_19 rfl d_LI_takeOrder_21 ?_
      replace h := g_ck h
      obtain ⟨k_5, h⟩ := h
      refine jai J hJ hP 1 rfl k_5 d_LI_takeOrder_24 ?_
      refine lv_bipush (v := 65) J.1 J.2.1 d_LI_takeOrder_25 (by decide) ?_
      refine lv_icmp_lt (tgt := 57) J.1 J.2.1 d_LI_takeOrder_27 (by decide) (fun c_6 => ?_) (fun c_6 => ?_)
      · replace h := g_t c_6 h
        exact kb_LI_takeOrder_57 J hJ hA hZ hzC _ _ _ _ _ _ _ _ _ _ _ _ _ h hP hD hS (lv_sub hl [0, 1] rfl)
      · replace h := g_f c_6 h
        refine lv_aload_n J.1 J.2.1 d_LI_takeOrder_30 rfl (lv_at hl 0 rfl) ?_
        refine jg J hJ hP 0 rfl rfl i_LI 0 (by decide) gf_LI_9 rfl d_LI_takeOrder_31 ?_
        refine lv_aload_n J.1 J.2.1 d_LI_takeOrder_34 rfl (lv_at hl 0 rfl) ?_
        refine jg J hJ hP 0 rfl rfl i_LI 1 (by decide) gf_LI_19 rfl d_LI_takeOrder_35 ?_
        replace h := g_ck h
        obtain ⟨k_7, h⟩ := h
        refine jai J hJ hP 1 rfl k_7 d_LI_takeOrder_38 ?_
        refine lv_bipush (v := 90) J.1 J.2.1 d_LI_takeOrder_39 (by decide) ?_
        refine lv_icmp_gt (tgt := 57) J.1 J.2.1 d_LI_takeOrder_41 (by decide) (fun c_8 => ?_) (fun c_8 => ?_)
        · replace h := g_t c_8 h
          exact kb_LI_takeOrder_57 J hJ hA hZ hzC _ _ _ _ _ _ _ _ _ _ _ _ _ h hP hD hS (lv_sub hl [0, 1] rfl)
        · replace h := g_f c_8 h
          refine lv_aload_n J.1 J.2.1 d_LI_takeOrder_44 rfl (lv_at hl 0 rfl) ?_
          refine lv_dup J.1 J.2.1 d_LI_takeOrder_45 rfl ?_
          refine jg J hJ hP 0 rfl rfl i_LI 1 (by decide) gf_LI_19 rfl d_LI_takeOrder_46 ?_
          refine lv_iconst (v := 1) J.1 J.2.1 d_LI_takeOrder_49 (by decide) ?_
          refine lv_iadd J.1 J.2.1 d_LI_takeOrder_50 ?_
          refine jp J hJ hP hD hS 0 rfl rfl i_LI t_LI t_LI_ok n_LI 1 (by decide) gf_LI_19 rfl rfl rfl (Nat.le_of_ble_eq_true rfl) d_LI_takeOrder_51 (WS' := [(l0, .inr (3, [.ref l1, .int (lat + 1), .int len, .long llb, .int lor, .int laa, .int lbb, .int lnu, .long lwa])), (l1, .inl (E.2.1 0, 3000, .inl ltx))]) rfl ?_
          clear hP hD hS
          intro H locs hP hD hS
          refine lv_goto (tgt := 5) J.1 J.2.1 d_LI_takeOrder_54 (by decide) ?_
          exact ih _ _ _ _ _ _ _ _ _ _ _ _ _ h hP hD hS (lv_sub hl [0, 1] rfl)
set_option maxHeartbeats 4000000 in
set_option maxRecDepth 100000 in
theorem ct_LI_takeOrder (l : Launch) (E : jz_E) (l0 l1 : Nat) (sz : Nat) (lat : Int32) (len : Int32) (llb : Int64) (lor : Int32) (laa : Int32) (lbb : Int32) (lnu : Int32) (lwa : Int64) (ltx : Nat → Int32) (o_r : Int32) (o_lat : Int32)  (hzC : ("java/lang/String", "COMPACT_STRINGS", "Z", Value.int 1) ∈ E.2.2.1) (h : f_LI_takeOrder lat len ltx = some (o_r, o_lat)) : CTi l E y_LI_takeOrder c_LI_takeOrder 3 (some .int) ({ frames := 5, cells := 0, slots := 0, locals := 110 }) [.ref l0] [(l0, .inr (3, [.ref l1, .int lat, .int len, .long llb, .int lor, .int laa, .int lbb, .int lnu, .long lwa])), (l1, .inl (E.2.1 0, 3000, .inl ltx))] sz o_r [(l0, .inr (3, [.ref l1, .int o_lat, .int len, .long llb, .int lor, .int laa, .int lbb, .int lnu, .long lwa])), (l1, .inl (E.2.1 0, 3000, .inl ltx))] := by
  refine jw (by decide +kernel) (Nat.le_of_ble_eq_true rfl) ?_
  intro p e s m below meth c A ls J hJ hAe hsz hA hZ hP hD hl
  rw [← hAe]
  have hS : va_S A s.heap s.heap [] := va_S.rf
  have hl : lv_has ls 3 [(0, .ref l0)] := hl
  unfold f_LI_takeOrder at h
  refine lv_aload_n J.1 J.2.1 d_LI_takeOrder_0 rfl (lv_at hl 0 rfl) ?_
  refine jg J hJ hP 0 rfl rfl i_LI 1 (by decide) gf_LI_19 rfl d_LI_takeOrder_1 ?_
  refine lv_istore_n (lv' := [(1, .int lat), (0, .ref l0)]) J.1 J.2.1 d_LI_takeOrder_4 rfl hl (by decide) rfl ?_
  clear hl
  intro ls hl
  exact kb_LI_takeOrder_5 J hJ hA hZ hzC _ _ _ _ _ _ _ _ _ _ _ _ _ _ h hP hD hS (lv_sub hl [1, 0] rfl)

theorem hd_LI_isOrderRead : y_LI_isOrderRead.cls ≠ "java/lang/invoke/MethodHandle" ∧ y_LI_isOrderRead.cls ≠ "java/lang/invoke/VarHandle" ∧ (parseMethodDescriptor y_LI_isOrderRead.desc).map (fun d => d.parameters.length) = some 0 := by decide +kernel
def b_LI_isOrderRead_105 (lat : Int32) (len : Int32) (lor : Int32) (laa : Int32) (lbb : Int32) (lnu : Int32) (lwa : Int64) (ltx : Nat → Int32) : Option (Int32 × Int32 × Int32 × Int32 × Int32 × Int32 × Int64) := ((f_LI_skipBlanks lat len ltx).bind fun lat_1 => (if lat_1 = len then (some (1, lat_1, lor, laa, lbb, lnu, lwa)) else (some (0, lat_1, lor, laa, lbb, lnu, lwa))))
def b_LI_isOrderRead_72 (lat : Int32) (len : Int32) (lor : Int32) (laa : Int32) (lbb : Int32) (lnu : Int32) (lwa : Int64) (ltx : Nat → Int32) (x1 : Int32) : Option (Int32 × Int32 × Int32 × Int32 × Int32 × Int32 × Int64) := (if laa = (-1 : Int32) then (some (0, lat, lor, laa, lbb, lnu, lwa)) else (if lbb = (-1 : Int32) then (some (0, lat, lor, laa, lbb, lnu, lwa)) else (if x1 < (4 : Int32) then b_LI_isOrderRead_105 lat len lor laa lbb lnu lwa ltx else ((f_LI_isNumberRead lat len lnu lwa ltx x1).bind fun (r_6, lat_6, lnu_6, lwa_6) => (if r_6 = (0 : Int32) then (some (0, lat_6, lor, laa, lbb, lnu_6, lwa_6)) else b_LI_isOrderRead_105 lat_6 len lor laa lbb lnu_6 lwa_6 ltx)))))
def b_LI_isOrderRead_58 (lat : Int32) (len : Int32) (lor : Int32) (laa : Int32) (lbb : Int32) (lnu : Int32) (lwa : Int64) (ltx : Nat → Int32) (x1 : Int32) : Option (Int32 × Int32 × Int32 × Int32 × Int32 × Int32 × Int64) := (if (x1 &&& 2) = (0 : Int32) then b_LI_isOrderRead_72 lat len lor laa lbb lnu lwa ltx x1 else ((f_LI_takeRegister lat len ltx).bind fun (r_9, lat_9) => b_LI_isOrderRead_72 lat_9 len lor laa r_9 lnu lwa ltx x1))
def f_LI_isOrderRead (wN : Nat → Int32) (lat : Int32) (len : Int32) (lor : Int32) (laa : Int32) (lbb : Int32) (lnu : Int32) (lwa : Int64) (ltx : Nat → Int32) : Option (Int32 × Int32 × Int32 × Int32 × Int32 × Int32 × Int64) := ((f_LI_skipBlanks lat len ltx).bind fun lat_10 => (if lat_10 = len then (some (1, lat_10, lor, laa, lbb, lnu, lwa)) else ((f_LI_takeOrder lat_10 len ltx).bind fun (r_12, lat_12) => (if r_12 = (-1 : Int32) then (some (0, lat_12, r_12, laa, lbb, lnu, lwa)) else (if ck r_12 28 then (if ((wN r_12.toNatClampNeg) &&& 1) = (0 : Int32) then b_LI_isOrderRead_58 lat_12 len r_12 laa lbb lnu lwa ltx (wN r_12.toNatClampNeg) else ((f_LI_takeRegister lat_12 len ltx).bind fun (r_16, lat_16) => b_LI_isOrderRead_58 lat_16 len r_12 r_16 lbb lnu lwa ltx (wN r_12.toNatClampNeg))) else none)))))
set_option maxHeartbeats 4000000 in
set_option maxRecDepth 100000 in
theorem kb_LI_isOrderRead_105 {p : Program} {l : Launch} {e : Env} {s : State} {m : MethodId} {below : List Frame} {meth : Method} {c : Code} {A : Nat → Prop} {E : jz_E} {l0 l1 w8 : Nat} {wN : Nat → Int32} {o_r : Int32} {o_lat : Int32} {o_lor : Int32} {o_laa : Int32} {o_lbb : Int32} {o_lnu : Int32} {o_lwa : Int64} (J : JC p s m ([.ref l0] : List Value).toArray meth c c_LI_isOrderRead 2 (some .boolean) y_LI_isOrderRead.cls) (hJ : jE E s) (hA : ∀ q : Nat, s.heap.size ≤ q → A q) (hZ : jz_ok E A s s.heap) (hzC : ("java/lang/String", "COMPACT_STRINGS", "Z", Value.int 1) ∈ E.2.2.1) (hzN : (R_LI, "WANTS", "[I", Value.ref w8) ∈ E.2.2.1) (htN : (w8, 28, wN) ∈ E.2.2.2.1) : ∀ (lat : Int32) (len : Int32) (llb : Int64) (lor : Int32) (laa : Int32) (lbb : Int32) (lnu : Int32) (lwa : Int64) (ltx : Nat → Int32) (H : Heap) (locs : List Loc) (ls : Array Slot), b_LI_isOrderRead_105 lat len lor laa lbb lnu lwa ltx = some (o_r, o_lat, o_lor, o_laa, o_lbb, o_lnu, o_lwa) → va_P E.1 classes [(l0, .inr (3, [.ref l1, .int lat, .int len, .long llb, .int lor, .int laa, .int lbb, .int lnu, .long lwa])), (l1, .inl (E.2.1 0, 3000, .inl ltx))] H → va_D A [(l0, .inr (3, [.ref l1, .int lat, .int len, .long llb, .int lor, .int laa, .int lbb, .int lnu, .long lwa])), (l1, .inl (E.2.1 0, 3000, .inl ltx))] → va_S A s.heap H locs → lv_has ls 2 [(0, .ref l0)] → W p l e ({ frames := 6, cells := 0, slots := 0, locals := 132 }) s m ([.ref l0] : List Value).toArray below meth c H locs 0 0 (MQ below (va_Qi (fun (r' : Int32) (u : va_W) => r' = o_r ∧ u = [(l0, .inr (3, [.ref l1, .int o_lat, .int len, .long llb, .int o_lor, .int o_laa, .int o_lbb, .int o_lnu, .long o_lwa])), (l1, .inl (E.2.1 0, 3000, .inl ltx))]) (BW E A) A) ([.ref l0] : List Value).toArray s 0 0 A) (F0 m 105 ls []) := by
  intro lat len llb lor laa lbb lnu lwa ltx H locs ls h hP hD hS hl
  rw [b_LI_isOrderRead_105] at h
  refine lv_aload_n J.1 J.2.1 d_LI_isOrderRead_105 rfl (lv_at hl 0 rfl) ?_
  replace h := g_bd h
  obtain ⟨lat_1, q_1, h⟩ := h
  have hq := ct_LI_skipBlanks l E l0 l1 H.size lat len llb lor laa lbb lnu lwa ltx lat_1 q_1
  have hr := jrunV (p := p) (e := e) (below := below) (R := ({ frames := 6, cells := 0, slots := 0, locals := 132 })) (cells := 0) (slots := 0) (As := []) (rest := []) J hJ hA hZ hP hD hS hq [0, 1] rfl (by decide) gl_LI_54 gi_LI_skipBlanks gsel_LI_skipBlanks gini_LI gc_LI_skipBlanks hd_LI_skipBlanks ⟨rfl, rfl, Nat.le_of_ble_eq_true rfl, Nat.le_of_ble_eq_true rfl⟩ rfl rfl hl.1 rfl rfl (Nat.le_of_ble_eq_true rfl) d_LI_isOrderRead_106 ⟨Nat.zero_le _, Nat.zero_le _⟩
  clear hq
  refine jk_v hr hA hP hD hS [0, 1] [] (WR := []) rfl rfl (by decide) (by decide) [0, 1] (WF := [(l0, .inr (3, [.ref l1, .int lat_1, .int len, .long llb, .int lor, .int laa, .int lbb, .int lnu, .long lwa])), (l1, .inl (E.2.1 0, 3000, .inl ltx))]) rfl (by decide) ?_
  clear hP hD hS
  intro H locs hP hD hS
  clear hr
  refine lv_aload_n J.1 J.2.1 d_LI_isOrderRead_109 rfl (lv_at hl 0 rfl) ?_
  refine jg J hJ hP 0 rfl rfl i_LI 1 (by decide) gf_LI_19 rfl d_LI_isOrderRead_110 ?_
  refine lv_aload_n J.1 J.2.1 d_LI_isOrderRead_113 rfl (lv_at hl 0 rfl) ?_
  refine jg J hJ hP 0 rfl rfl i_LI 2 (by decide) gf_LI_22 rfl d_LI_isOrderRead_114 ?_
  refine lv_icmp_ne (tgt := 124) J.1 J.2.1 d_LI_isOrderRead_117 (by decide) (fun c_2 => ?_) (fun c_2 => ?_)
  · replace h := g_f c_2 h
    refine lv_iconst (v := 0) J.1 J.2.1 d_LI_isOrderRead_124 (by decide) ?_
    have h := Option.some.inj h
    have e_0 := (Prod.mk.inj h).1
    have h := (Prod.mk.inj h).2
    have e_1 := (Prod.mk.inj h).1
    have h := (Prod.mk.inj h).2
    have e_2 := (Prod.mk.inj h).1
    have h := (Prod.mk.inj h).2
    have e_3 := (Prod.mk.inj h).1
    have h := (Prod.mk.inj h).2
    have e_4 := (Prod.mk.inj h).1
    have h := (Prod.mk.inj h).2
    have e_5 := (Prod.mk.inj h).1
    have h := (Prod.mk.inj h).2
    rw [← e_0, ← e_1, ← e_2, ← e_3, ← e_4, ← e_5, ← h]
    exact jr_i J hS hP hD rfl d_LI_isOrderRead_125
  · replace h := g_t c_2 h
    refine lv_iconst (v := 1) J.1 J.2.1 d_LI_isOrderRead_120 (by decide) ?_
    refine lv_goto (tgt := 125) J.1 J.2.1 d_LI_isOrderRead_121 (by decide) ?_
    have h := Option.some.inj h
    have e_0 := (Prod.mk.inj h).1
    have h := (Prod.mk.inj h).2
    have e_1 := (Prod.mk.inj h).1
    have h := (Prod.mk.inj h).2
    have e_2 := (Prod.mk.inj h).1
    have h := (Prod.mk.inj h).2
    have e_3 := (Prod.mk.inj h).1
    have h := (Prod.mk.inj h).2
    have e_4 := (Prod.mk.inj h).1
    have h := (Prod.mk.inj h).2
    have e_5 := (Prod.mk.inj h).1
    have h := (Prod.mk.inj h).2
    rw [← e_0, ← e_1, ← e_2, ← e_3, ← e_4, ← e_5, ← h]
    exact jr_i J hS hP hD rfl d_LI_isOrderRead_125
set_option maxHeartbeats 4000000 in
set_option maxRecDepth 100000 in
theorem kb_LI_isOrderRead_72 {p : Program} {l : Launch} {e : Env} {s : State} {m : MethodId} {below : List Frame} {meth : Method} {c : Code} {A : Nat → Prop} {E : jz_E} {l0 l1 w8 : Nat} {wN : Nat → Int32} {o_r : Int32} {o_lat : Int32} {o_lor : Int32} {o_laa : Int32} {o_lbb : Int32} {o_lnu : Int32} {o_lwa : Int64} (J : JC p s m ([.ref l0] : List Value).toArray meth c c_LI_isOrderRead 2 (some .boolean) y_LI_isOrderRead.cls) (hJ : jE E s) (hA : ∀ q : Nat, s.heap.size ≤ q → A q) (hZ : jz_ok E A s s.heap) (hzC : ("java/lang/String", "COMPACT_STRINGS", "Z", Value.int 1) ∈ E.2.2.1) (hzN : (R_LI, "WANTS", "[I", Value.ref w8) ∈ E.2.2.1) (htN : (w8, 28, wN) ∈ E.2.2.2.1) : ∀ (lat : Int32) (len : Int32) (llb : Int64) (lor : Int32) (laa : Int32) (lbb : Int32) (lnu : Int32) (lwa : Int64) (ltx : Nat → Int32) (x1 : Int32) (H : Heap) (locs : List Loc) (ls : Array Slot), b_LI_isOrderRead_72 lat len lor laa lbb lnu lwa ltx x1 = some (o_r, o_lat, o_lor, o_laa, o_lbb, o_lnu, o_lwa) → va_P E.1 classes [(l0, .inr (3, [.ref l1, .int lat, .int len, .long llb, .int lor, .int laa, .int lbb, .int lnu, .long lwa])), (l1, .inl (E.2.1 0, 3000, .inl ltx))] H → va_D A [(l0, .inr (3, [.ref l1, .int lat, .int len, .long llb, .int lor, .int laa, .int lbb, .int lnu, .long lwa])), (l1, .inl (E.2.1 0, 3000, .inl ltx))] → va_S A s.heap H locs → lv_has ls 2 [(0, .ref l0), (1, .int x1)] → W p l e ({ frames := 6, cells := 0, slots := 0, locals := 132 }) s m ([.ref l0] : List Value).toArray below meth c H locs 0 0 (MQ below (va_Qi (fun (r' : Int32) (u : va_W) => r' = o_r ∧ u = [(l0, .inr (3, [.ref l1, .int o_lat, .int len, .long llb, .int o_lor, .int o_laa, .int o_lbb, .int o_lnu, .long o_lwa])), (l1, .inl (E.2.1 0, 3000, .inl ltx))]) (BW E A) A) ([.ref l0] : List Value).toArray s 0 0 A) (F0 m 72 ls []) := by
  intro lat len llb lor laa lbb lnu lwa ltx x1 H locs ls h hP hD hS hl
  rw [b_LI_isOrderRead_72] at h
  refine lv_aload_n J.1 J.2.1 d_LI_isOrderRead_72 rfl (lv_at hl 0 rfl) ?_
  refine jg J hJ hP 0 rfl rfl i_LI 5 (by decide) gf_LI_29 rfl d_LI_isOrderRead_73 ?_
  refine lv_iconst (v := (-1)) J.1 J.2.1 d_LI_isOrderRead_76 (by decide) ?_
  refine lv_icmp_eq (tgt := 88) J.1 J.2.1 d_LI_isOrderRead_77 (by decide) (fun c_3 => ?_) (fun c_3 => ?_)
  · replace h := g_t c_3 h
    refine lv_iconst (v := 0) J.1 J.2.1 d_LI_isOrderRead_88 (by decide) ?_
    have h := Option.some.inj h
    have e_0 := (Prod.mk.inj h).1
    have h := (Prod.mk.inj h).2
    have e_1 := (Prod.mk.inj h).1
    have h := (Prod.mk.inj h).2
    have e_2 := (Prod.mk.inj h).1
    have h := (Prod.mk.inj h).2
    have e_3 := (Prod.mk.inj h).1
    have h := (Prod.mk.inj h).2
    have e_4 := (Prod.mk.inj h).1
    have h := (Prod.mk.inj h).2
    have e_5 := (Prod.mk.inj h).1
    have h := (Prod.mk.inj h).2
    rw [← e_0, ← e_1, ← e_2, ← e_3, ← e_4, ← e_5, ← h]
    exact jr_i J hS hP hD rfl d_LI_isOrderRead_89
  · replace h := g_f c_3 h
    refine lv_aload_n J.1 J.2.1 d_LI_isOrderRead_80 rfl (lv_at hl 0 rfl) ?_
    refine jg J hJ hP 0 rfl rfl i_LI 6 (by decide) gf_LI_32 rfl d_LI_isOrderRead_81 ?_
    refine lv_iconst (v := (-1)) J.1 J.2.1 d_LI_isOrderRead_84 (by decide) ?_
    refine lv_icmp_ne (tgt := 90) J.1 J.2.1 d_LI_isOrderRead_85 (by decide) (fun c_4 => ?_) (fun c_4 => ?_)
    · replace h := g_f c_4 h
      refine lv_iload_n J.1 J.2.1 d_LI_isOrderRead_90 rfl (lv_at hl 1 rfl) ?_
      refine lv_iconst (v := 4) J.1 J.2.1 d_LI_isOrderRead_91 (by decide) ?_
      refine lv_icmp_lt (tgt := 105) J.1 J.2.1 d_LI_isOrderRead_92 (by decide) (fun c_5 => ?_) (fun c_5 => ?_)
      · replace h := g_t c_5 h
        exact kb_LI_isOrderRead_105 J hJ hA hZ hzC hzN htN _ _ _ _ _ _ _ _ _ _ _ _ h hP hD hS (lv_sub hl [0] rfl)
      · replace h := g_f c_5 h
        refine lv_aload_n J.1 J.2.1 d_LI_isOrderRead_95 rfl (lv_at hl 0 rfl) ?_
        refine lv_iload_n J.1 J.2.1 d_LI_isOrderRead_96 rfl (lv_at hl 1 rfl) ?_
        replace h := g_bd h
        obtain ⟨⟨r_6, lat_6, lnu_6, lwa_6⟩, q_6, h⟩ := h
        try dsimp only at h
        have hq := ct_LI_isNumberRead l E l0 l1 H.size lat len llb lor laa lbb lnu lwa ltx x1 r_6 lat_6 lnu_6 lwa_6 q_6
        have hr := jrunV (p := p) (e := e) (below := below) (R := ({ frames := 6, cells := 0, slots := 0, locals := 132 })) (cells := 0) (slots := 0) (As := [.int x1]) (rest := []) J hJ hA hZ hP hD hS hq [0, 1] rfl (by decide) gl_LI_78 gi_LI_isNumberRead gsel_LI_isNumberRead gini_LI gc_LI_isNumberRead hd_LI_isNumberRead ⟨rfl, rfl, Nat.le_of_ble_eq_true rfl, Nat.le_of_ble_eq_true rfl⟩ rfl rfl hl.1 rfl rfl (Nat.le_of_ble_eq_true rfl) d_LI_isOrderRead_97 ⟨Nat.zero_le _, Nat.zero_le _⟩
        clear hq
        refine jk_i hr hA hP hD hS [0, 1] [] (WR := []) rfl rfl (by decide) (by decide) [0, 1] (WF := [(l0, .inr (3, [.ref l1, .int lat_6, .int len, .long llb, .int lor, .int laa, .int lbb, .int lnu_6, .long lwa_6])), (l1, .inl (E.2.1 0, 3000, .inl ltx))]) rfl (by decide) ?_
        clear hP hD hS
        intro H locs hP hD hS
        clear hr
        refine lv_if_ne (tgt := 105) J.1 J.2.1 d_LI_isOrderRead_100 (by decide) (fun c_7 => ?_) (fun c_7 => ?_)
        · replace h := g_f c_7 h
          exact kb_LI_isOrderRead_105 J hJ hA hZ hzC hzN htN _ _ _ _ _ _ _ _ _ _ _ _ h hP hD hS (lv_sub hl [0] rfl)
        · replace h := g_t c_7 h
          refine lv_iconst (v := 0) J.1 J.2.1 d_LI_isOrderRead_103 (by decide) ?_
          have h := Option.some.inj h
          have e_0 := (Prod.mk.inj h).1
          have h := (Prod.mk.inj h).2
          have e_1 := (Prod.mk.inj h).1
          have h := (Prod.mk.inj h).2
          have e_2 := (Prod.mk.inj h).1
          have h := (Prod.mk.inj h).2
          have e_3 := (Prod.mk.inj h).1
          have h := (Prod.mk.inj h).2
          have e_4 := (Prod.mk.inj h).1
          have h := (Prod.mk.inj h).2
          have e_5 := (Prod.mk.inj h).1
          have h := (Prod.mk.inj h).2
          rw [← e_0, ← e_1, ← e_2, ← e_3, ← e_4, ← e_5, ← h]
          exact jr_i J hS hP hD rfl d_LI_isOrderRead_104
    · replace h := g_t c_4 h
      refine lv_iconst (v := 0) J.1 J.2.1 d_LI_isOrderRead_88 (by decide) ?_
      have h := Option.some.inj h
      have e_0 := (Prod.mk.inj h).1
      have h := (Prod.mk.inj h).2
      have e_1 := (Prod.mk.inj h).1
      have h := (Prod.mk.inj h).2
      have e_2 := (Prod.mk.inj h).1
      have h := (Prod.mk.inj h).2
      have e_3 := (Prod.mk.inj h).1
      have h := (Prod.mk.inj h).2
      have e_4 := (Prod.mk.inj h).1
      have h := (Prod.mk.inj h).2
      have e_5 := (Prod.mk.inj h).1
      have h := (Prod.mk.inj h).2
      rw [← e_0, ← e_1, ← e_2, ← e_3, ← e_4, ← e_5, ← h]
      exact jr_i J hS hP hD rfl d_LI_isOrderRead_89
set_option maxHeartbeats 4000000 in
set_option maxRecDepth 100000 in
theorem kb_LI_isOrderRead_58 {p : Program} {l : Launch} {e : Env} {s : State} {m : MethodId} {below : List Frame} {meth : Method} {c : Code} {A : Nat → Prop} {E : jz_E} {l0 l1 w8 : Nat} {wN : Nat → Int32} {o_r : Int32} {o_lat : Int32} {o_lor : Int32} {o_laa : Int32} {o_lbb : Int32} {o_lnu : Int32} {o_lwa : Int64} (J : JC p s m ([.ref l0] : List Value).toArray meth c c_LI_isOrderRead 2 (some .boolean) y_LI_isOrderRead.cls) (hJ : jE E s) (hA : ∀ q : Nat, s.heap.size ≤ q → A q) (hZ : jz_ok E A s s.heap) (hzC : ("java/lang/String", "COMPACT_STRINGS", "Z", Value.int 1) ∈ E.2.2.1) (hzN : (R_LI, "WANTS", "[I", Value.ref w8) ∈ E.2.2.1) (htN : (w8, 28, wN) ∈ E.2.2.2.1) : ∀ (lat : Int32) (len : Int32) (llb : Int64) (lor : Int32) (laa : Int32) (lbb : Int32) (lnu : Int32) (lwa : Int64) (ltx : Nat → Int32) (x1 : Int32) (H : Heap) (locs : List Loc) (ls : Array Slot), b_LI_isOrderRead_58 lat len lor laa lbb lnu lwa ltx x1 = some (o_r, o_lat, o_lor, o_laa, o_lbb, o_lnu, o_lwa) → va_P E.1 classes [(l0, .inr (3, [.ref l1, .int lat, .int len, .long llb, .int lor, .int laa, .int lbb, .int lnu, .long lwa])), (l1, .inl (E.2.1 0, 3000, .inl ltx))] H → va_D A [(l0, .inr (3, [.ref l1, .int lat, .int len, .long llb, .int lor, .int laa, .int lbb, .int lnu, .long lwa])), (l1, .inl (E.2.1 0, 3000, .inl ltx))] → va_S A s.heap H locs → lv_has ls 2 [(0, .ref l0), (1, .int x1)] → W p l e ({ frames := 6, cells := 0, slots := 0, locals := 132 }) s m ([.ref l0] : List Value).toArray below meth c H locs 0 0 (MQ below (va_Qi (fun (r' : Int32) (u : va_W) => r' = o_r ∧ u = [(l0, .inr (3, [.ref l1, .int o_lat, .int len, .long llb, .int o_lor, .int o_laa, .int o_lbb, .int o_lnu, .long o_lwa])), (l1, .inl (E.2.1 0, 3000, .inl ltx))]) (BW E A) A) ([.ref l0] : List Value).toArray s 0 0 A) (F0 m 58 ls []) := by
  intro lat len llb lor laa lbb lnu lwa ltx x1 H locs ls h hP hD hS hl
  rw [b_LI_isOrderRead_58] at h
  refine lv_iload_n J.1 J.2.1 d_LI_isOrderRead_58 rfl (lv_at hl 1 rfl) ?_
  refine lv_iconst (v := 2) J.1 J.2.1 d_LI_isOrderRead_59 (by decide) ?_
  refine lv_iand J.1 J.2.1 d_LI_isOrderRead_60 ?_
  refine lv_if_eq (tgt := 72) J.1 J.2.1 d_LI_isOrderRead_61 (by decide) (fun c_8 => ?_) (fun c_8 => ?_)
  · replace h := g_t c_8 h
    exact kb_LI_isOrderRead_72 J hJ hA hZ hzC hzN htN _ _ _ _ _ _ _ _ _ _ _ _ _ h hP hD hS (lv_sub hl [0, 1] rfl)
  · replace h := g_f c_8 h
    refine lv_aload_n J.1 J.2.1 d_LI_isOrderRead_64 rfl (lv_at hl 0 rfl) ?_
    refine lv_aload_n J.1 J.2.1 d_LI_isOrderRead_65 rfl (lv_at hl 0 rfl) ?_
    replace h := g_bd h
    obtain ⟨⟨r_9, lat_9⟩, q_9, h⟩ := h
    try dsimp only at h
    have hq := ct_LI_takeRegister l E l0 l1 H.size lat len llb lor laa lbb lnu lwa ltx r_9 lat_9 q_9
    have hr := jrunV (p := p) (e := e) (below := below) (R := ({ frames := 6, cells := 0, slots := 0, locals := 132 })) (cells := 0) (slots := 0) (As := []) (rest := [.ref l0]) J hJ hA hZ hP hD hS hq [0, 1] rfl (by decide) gl_LI_75 gi_LI_takeRegister gsel_LI_takeRegister gini_LI gc_LI_takeRegister hd_LI_takeRegister ⟨rfl, rfl, Nat.le_of_ble_eq_true rfl, Nat.le_of_ble_eq_true rfl⟩ rfl rfl hl.1 rfl rfl (Nat.le_of_ble_eq_true rfl) d_LI_isOrderRead_66 ⟨Nat.zero_le _, Nat.zero_le _⟩
    clear hq
    refine jk_i hr hA hP hD hS [0, 1] [] (WR := []) rfl rfl (by decide) (by decide) [0, 1] (WF := [(l0, .inr (3, [.ref l1, .int lat_9, .int len, .long llb, .int lor, .int laa, .int lbb, .int lnu, .long lwa])), (l1, .inl (E.2.1 0, 3000, .inl ltx))]) rfl (by decide) ?_
    clear hP hD hS
    intro H locs hP hD hS
    clear hr
    refine jp J hJ hP hD hS 0 rfl rfl i_LI t_LI t_LI_ok n_LI 6 (by decide) gf_LI_32 rfl rfl rfl (Nat.le_of_ble_eq_true rfl) d_LI_isOrderRead_69 (WS' := [(l0, .inr (3, [.ref l1, .int lat_9, .int len, .long llb, .int lor, .int laa, .int r_9, .int lnu, .long lwa])), (l1, .inl (E.2.1 0, 3000, .inl ltx))]) rfl ?_
    clear hP hD hS
    intro H locs hP hD hS
    exact kb_LI_isOrderRead_72 J hJ hA hZ hzC hzN htN _ _ _ _ _ _ _ _ _ _ _ _ _ h hP hD hS (lv_sub hl [0, 1] rfl)
set_option maxHeartbeats 4000000 in
set_option maxRecDepth 100000 in
theorem ct_LI_isOrderRead (l : Launch) (E : jz_E) (l0 l1 w8 : Nat) (sz : Nat) (wN : Nat → Int32) (lat : Int32) (len : Int32) (llb : Int64) (lor : Int32) (laa : Int32) (lbb : Int32) (lnu : Int32) (lwa : Int64) (ltx : Nat → Int32) (o_r : Int32) (o_lat : Int32) (o_lor : Int32) (o_laa : Int32) (o_lbb : Int32) (o_lnu : Int32) (o_lwa : Int64)  (hzC : ("java/lang/String", "COMPACT_STRINGS", "Z", Value.int 1) ∈ E.2.2.1) (hzN : (R_LI, "WANTS", "[I", Value.ref w8) ∈ E.2.2.1) (htN : (w8, 28, wN) ∈ E.2.2.2.1) (h : f_LI_isOrderRead wN lat len lor laa lbb lnu lwa ltx = some (o_r, o_lat, o_lor, o_laa, o_lbb, o_lnu, o_lwa)) : CTi l E y_LI_isOrderRead c_LI_isOrderRead 2 (some .boolean) ({ frames := 6, cells := 0, slots := 0, locals := 132 }) [.ref l0] [(l0, .inr (3, [.ref l1, .int lat, .int len, .long llb, .int lor, .int laa, .int lbb, .int lnu, .long lwa])), (l1, .inl (E.2.1 0, 3000, .inl ltx))] sz o_r [(l0, .inr (3, [.ref l1, .int o_lat, .int len, .long llb, .int o_lor, .int o_laa, .int o_lbb, .int o_lnu, .long o_lwa])), (l1, .inl (E.2.1 0, 3000, .inl ltx))] := by
  refine jw (by decide +kernel) (Nat.le_of_ble_eq_true rfl) ?_
  intro p e s m below meth c A ls J hJ hAe hsz hA hZ hP hD hl
  rw [← hAe]
  have hS : va_S A s.heap s.heap [] := va_S.rf
  have hl : lv_has ls 2 [(0, .ref l0)] := hl
  unfold f_LI_isOrderRead at h
  refine lv_aload_n J.1 J.2.1 d_LI_isOrderRead_0 rfl (lv_at hl 0 rfl) ?_
  replace h := g_bd h
  obtain ⟨lat_10, q_10, h⟩ := h
  have hq := ct_LI_skipBlanks l E l0 l1 s.heap.size lat len llb lor laa lbb lnu lwa ltx lat_10 q_10
  have hr := jrunV (p := p) (e := e) (below := below) (R := ({ frames := 6, cells := 0, slots := 0, locals := 132 })) (cells := 0) (slots := 0) (As := []) (rest := []) J hJ hA hZ hP hD hS hq [0, 1] rfl (by decide) gl_LI_54 gi_LI_skipBlanks gsel_LI_skipBlanks gini_LI gc_LI_skipBlanks hd_LI_skipBlanks ⟨rfl, rfl, Nat.le_of_ble_eq_true rfl, Nat.le_of_ble_eq_true rfl⟩ rfl rfl hl.1 rfl rfl (Nat.le_of_ble_eq_true rfl) d_LI_isOrderRead_1 ⟨Nat.zero_le _, Nat.zero_le _⟩
  clear hq
  refine jk_v hr hA hP hD hS [0, 1] [] (WR := []) rfl rfl (by decide) (by decide) [0, 1] (WF := [(l0, .inr (3, [.ref l1, .int lat_10, .int len, .long llb, .int lor, .int laa, .int lbb, .int lnu, .long lwa])), (l1, .inl (E.2.1 0, 3000, .inl ltx))]) rfl (by decide) ?_
  clear hP hD hS
  intro H locs hP hD hS
  clear hr
  refine lv_aload_n J.1 J.2.1 d_LI_isOrderRead_4 rfl (lv_at hl 0 rfl) ?_
  refine jg J hJ hP 0 rfl rfl i_LI 1 (by decide) gf_LI_19 rfl d_LI_isOrderRead_5 ?_
  refine lv_aload_n J.1 J.2.1 d_LI_isOrderRead_8 rfl (lv_at hl 0 rfl) ?_
  refine jg J hJ hP 0 rfl rfl i_LI 2 (by decide) gf_LI_22 rfl d_LI_isOrderRead_9 ?_
  refine lv_icmp_ne (tgt := 17) J.1 J.2.1 d_LI_isOrderRead_12 (by decide) (fun c_11 => ?_) (fun c_11 => ?_)
  · replace h := g_f c_11 h
    refine lv_aload_n J.1 J.2.1 d_LI_isOrderRead_17 rfl (lv_at hl 0 rfl) ?_
    refine lv_aload_n J.1 J.2.1 d_LI_isOrderRead_18 rfl (lv_at hl 0 rfl) ?_
    replace h := g_bd h
    obtain ⟨⟨r_12, lat_12⟩, q_12, h⟩ := h
    try dsimp only at h
    have hq := ct_LI_takeOrder l E l0 l1 H.size lat_10 len llb lor laa lbb lnu lwa ltx r_12 lat_12 hzC q_12
    have hr := jrunV (p := p) (e := e) (below := below) (R := ({ frames := 6, cells := 0, slots := 0, locals := 132 })) (cells := 0) (slots := 0) (As := []) (rest := [.ref l0]) J hJ hA hZ hP hD hS hq [0, 1] rfl (by decide) gl_LI_69 gi_LI_takeOrder gsel_LI_takeOrder gini_LI gc_LI_takeOrder hd_LI_takeOrder ⟨rfl, rfl, Nat.le_of_ble_eq_true rfl, Nat.le_of_ble_eq_true rfl⟩ rfl rfl hl.1 rfl rfl (Nat.le_of_ble_eq_true rfl) d_LI_isOrderRead_19 ⟨Nat.zero_le _, Nat.zero_le _⟩
    clear hq
    refine jk_i hr hA hP hD hS [0, 1] [] (WR := []) rfl rfl (by decide) (by decide) [0, 1] (WF := [(l0, .inr (3, [.ref l1, .int lat_12, .int len, .long llb, .int lor, .int laa, .int lbb, .int lnu, .long lwa])), (l1, .inl (E.2.1 0, 3000, .inl ltx))]) rfl (by decide) ?_
    clear hP hD hS
    intro H locs hP hD hS
    clear hr
    refine jp J hJ hP hD hS 0 rfl rfl i_LI t_LI t_LI_ok n_LI 4 (by decide) gf_LI_15 rfl rfl rfl (Nat.le_of_ble_eq_true rfl) d_LI_isOrderRead_22 (WS' := [(l0, .inr (3, [.ref l1, .int lat_12, .int len, .long llb, .int r_12, .int laa, .int lbb, .int lnu, .long lwa])), (l1, .inl (E.2.1 0, 3000, .inl ltx))]) rfl ?_
    clear hP hD hS
    intro H locs hP hD hS
    refine lv_aload_n J.1 J.2.1 d_LI_isOrderRead_25 rfl (lv_at hl 0 rfl) ?_
    refine jg J hJ hP 0 rfl rfl i_LI 4 (by decide) gf_LI_15 rfl d_LI_isOrderRead_26 ?_
    refine lv_iconst (v := (-1)) J.1 J.2.1 d_LI_isOrderRead_29 (by decide) ?_
    refine lv_icmp_ne (tgt := 35) J.1 J.2.1 d_LI_isOrderRead_30 (by decide) (fun c_13 => ?_) (fun c_13 => ?_)
    · replace h := g_f c_13 h
      refine va_gets J.1 J.2.1 (hZ.1 _ hzN) hS J.2.2.2.2.1 (J.2.2.2.2.2.1 _ gf_LI_72) (fun _ h => h) d_LI_isOrderRead_35 ?_
      refine lv_aload_n J.1 J.2.1 d_LI_isOrderRead_38 rfl (lv_at hl 0 rfl) ?_
      refine jg J hJ hP 0 rfl rfl i_LI 4 (by decide) gf_LI_15 rfl d_LI_isOrderRead_39 ?_
      replace h := g_ck h
      obtain ⟨k_14, h⟩ := h
      refine va_ti J.1 J.2.1 (hZ.2.1 _ htN) hS k_14 rfl d_LI_isOrderRead_42 ?_
      refine lv_istore_n (lv' := [(1, .int (wN r_12.toNatClampNeg)), (0, .ref l0)]) J.1 J.2.1 d_LI_isOrderRead_43 rfl hl (by decide) rfl ?_
      clear hl
      intro ls hl
      refine lv_iload_n J.1 J.2.1 d_LI_isOrderRead_44 rfl (lv_at hl 0 rfl) ?_
      refine lv_iconst (v := 1) J.1 J.2.1 d_LI_isOrderRead_45 (by decide) ?_
      refine lv_iand J.1 J.2.1 d_LI_isOrderRead_46 ?_
      refine lv_if_eq (tgt := 58) J.1 J.2.1 d_LI_isOrderRead_47 (by decide) (fun c_15 => ?_) (fun c_15 => ?_)
      · replace h := g_t c_15 h
        exact kb_LI_isOrderRead_58 J hJ hA hZ hzC hzN htN _ _ _ _ _ _ _ _ _ _ _ _ _ h hP hD hS (lv_sub hl [1, 0] rfl)
      · replace h := g_f c_15 h
        refine lv_aload_n J.1 J.2.1 d_LI_isOrderRead_50 rfl (lv_at hl 1 rfl) ?_
        refine lv_aload_n J.1 J.2.1 d_LI_isOrderRead_51 rfl (lv_at hl 1 rfl) ?_
        replace h := g_bd h
        obtain ⟨⟨r_16, lat_16⟩, q_16, h⟩ := h
        try dsimp only at h
        have hq := ct_LI_takeRegister l E l0 l1 H.size lat_12 len llb r_12 laa lbb lnu lwa ltx r_16 lat_16 q_16
        have hr := jrunV (p := p) (e := e) (below := below) (R := ({ frames := 6, cells := 0, slots := 0, locals := 132 })) (cells := 0) (slots := 0) (As := []) (rest := [.ref l0]) J hJ hA hZ hP hD hS hq [0, 1] rfl (by decide) gl_LI_75 gi_LI_takeRegister gsel_LI_takeRegister gini_LI gc_LI_takeRegister hd_LI_takeRegister ⟨rfl, rfl, Nat.le_of_ble_eq_true rfl, Nat.le_of_ble_eq_true rfl⟩ rfl rfl hl.1 rfl rfl (Nat.le_of_ble_eq_true rfl) d_LI_isOrderRead_52 ⟨Nat.zero_le _, Nat.zero_le _⟩
        clear hq
        refine jk_i hr hA hP hD hS [0, 1] [] (WR := []) rfl rfl (by decide) (by decide) [0, 1] (WF := [(l0, .inr (3, [.ref l1, .int lat_16, .int len, .long llb, .int r_12, .int laa, .int lbb, .int lnu, .long lwa])), (l1, .inl (E.2.1 0, 3000, .inl ltx))]) rfl (by decide) ?_
        clear hP hD hS
        intro H locs hP hD hS
        clear hr
        refine jp J hJ hP hD hS 0 rfl rfl i_LI t_LI t_LI_ok n_LI 5 (by decide) gf_LI_29 rfl rfl rfl (Nat.le_of_ble_eq_true rfl) d_LI_isOrderRead_55 (WS' := [(l0, .inr (3, [.ref l1, .int lat_16, .int len, .long llb, .int r_12, .int r_16, .int lbb, .int lnu, .long lwa])), (l1, .inl (E.2.1 0, 3000, .inl ltx))]) rfl ?_
        clear hP hD hS
        intro H locs hP hD hS
        exact kb_LI_isOrderRead_58 J hJ hA hZ hzC hzN htN _ _ _ _ _ _ _ _ _ _ _ _ _ h hP hD hS (lv_sub hl [1, 0] rfl)
    · replace h := g_t c_13 h
      refine lv_iconst (v := 0) J.1 J.2.1 d_LI_isOrderRead_33 (by decide) ?_
      have h := Option.some.inj h
      have e_0 := (Prod.mk.inj h).1
      have h := (Prod.mk.inj h).2
      have e_1 := (Prod.mk.inj h).1
      have h := (Prod.mk.inj h).2
      have e_2 := (Prod.mk.inj h).1
      have h := (Prod.mk.inj h).2
      have e_3 := (Prod.mk.inj h).1
      have h := (Prod.mk.inj h).2
      have e_4 := (Prod.mk.inj h).1
      have h := (Prod.mk.inj h).2
      have e_5 := (Prod.mk.inj h).1
      have h := (Prod.mk.inj h).2
      rw [← e_0, ← e_1, ← e_2, ← e_3, ← e_4, ← e_5, ← h]
      exact jr_i J hS hP hD rfl d_LI_isOrderRead_34
  · replace h := g_t c_11 h
    refine lv_iconst (v := 1) J.1 J.2.1 d_LI_isOrderRead_15 (by decide) ?_
    have h := Option.some.inj h
    have e_0 := (Prod.mk.inj h).1
    have h := (Prod.mk.inj h).2
    have e_1 := (Prod.mk.inj h).1
    have h := (Prod.mk.inj h).2
    have e_2 := (Prod.mk.inj h).1
    have h := (Prod.mk.inj h).2
    have e_3 := (Prod.mk.inj h).1
    have h := (Prod.mk.inj h).2
    have e_4 := (Prod.mk.inj h).1
    have h := (Prod.mk.inj h).2
    have e_5 := (Prod.mk.inj h).1
    have h := (Prod.mk.inj h).2
    rw [← e_0, ← e_1, ← e_2, ← e_3, ← e_4, ← e_5, ← h]
    exact jr_i J hS hP hD rfl d_LI_isOrderRead_16

theorem hd_LI_isLabelRead : y_LI_isLabelRead.cls ≠ "java/lang/invoke/MethodHandle" ∧ y_LI_isLabelRead.cls ≠ "java/lang/invoke/VarHandle" ∧ (parseMethodDescriptor y_LI_isLabelRead.desc).map (fun d => d.parameters.length) = some 0 := by decide +kernel
def f_LI_isLabelRead (lat : Int32) (len : Int32) (llb : Int64) (ltx : Nat → Int32) : Option (Int32 × Int32 × Int64) := ((f_LI_skipBlanks lat len ltx).bind fun lat_1 => ((f_LI_here lat_1 len ltx).bind fun r_2 => ((f_LI_isLetter  r_2).bind fun r_3 => (if r_3 = (0 : Int32) then (some (1, lat_1, llb)) else ((f_LI_takeLabel lat_1 len ltx).bind fun (r_5, lat_5) => (if (lg_cmp r_5 0) = (0 : Int32) then (some (0, lat_5, r_5)) else ((f_LI_here lat_5 len ltx).bind fun r_7 => (if r_7 = (58 : Int32) then (some (1, (lat_5 + 1), r_5)) else (some (0, lat_5, r_5))))))))))
set_option maxHeartbeats 4000000 in
set_option maxRecDepth 100000 in
theorem ct_LI_isLabelRead (l : Launch) (E : jz_E) (l0 l1 : Nat) (sz : Nat) (lat : Int32) (len : Int32) (llb : Int64) (lor : Int32) (laa : Int32) (lbb : Int32) (lnu : Int32) (lwa : Int64) (ltx : Nat → Int32) (o_r : Int32) (o_lat : Int32) (o_llb : Int64)  (h : f_LI_isLabelRead lat len llb ltx = some (o_r, o_lat, o_llb)) : CTi l E y_LI_isLabelRead c_LI_isLabelRead 1 (some .boolean) ({ frames := 2, cells := 0, slots := 0, locals := 43 }) [.ref l0] [(l0, .inr (3, [.ref l1, .int lat, .int len, .long llb, .int lor, .int laa, .int lbb, .int lnu, .long lwa])), (l1, .inl (E.2.1 0, 3000, .inl ltx))] sz o_r [(l0, .inr (3, [.ref l1, .int o_lat, .int len, .long o_llb, .int lor, .int laa, .int lbb, .int lnu, .long lwa])), (l1, .inl (E.2.1 0, 3000, .inl ltx))] := by
  refine jw (by decide +kernel) (Nat.le_of_ble_eq_true rfl) ?_
  intro p e s m below meth c A ls J hJ hAe hsz hA hZ hP hD hl
  rw [← hAe]
  have hS : va_S A s.heap s.heap [] := va_S.rf
  have hl : lv_has ls 1 [(0, .ref l0)] := hl
  unfold f_LI_isLabelRead at h
  refine lv_aload_n J.1 J.2.1 d_LI_isLabelRead_0 rfl (lv_at hl 0 rfl) ?_
  replace h := g_bd h
  obtain ⟨lat_1, q_1, h⟩ := h
  have hq := ct_LI_skipBlanks l E l0 l1 s.heap.size lat len llb lor laa lbb lnu lwa ltx lat_1 q_1
  have hr := jrunV (p := p) (e := e) (below := below) (R := ({ frames := 2, cells := 0, slots := 0, locals := 43 })) (cells := 0) (slots := 0) (As := []) (rest := []) J hJ hA hZ hP hD hS hq [0, 1] rfl (by decide) gl_LI_54 gi_LI_skipBlanks gsel_LI_skipBlanks gini_LI gc_LI_skipBlanks hd_LI_skipBlanks ⟨rfl, rfl, Nat.le_of_ble_eq_true rfl, Nat.le_of_ble_eq_true rfl⟩ rfl rfl hl.1 rfl rfl (Nat.le_of_ble_eq_true rfl) d_LI_isLabelRead_1 ⟨Nat.zero_le _, Nat.zero_le _⟩
  clear hq
  refine jk_v hr hA hP hD hS [0, 1] [] (WR := []) rfl rfl (by decide) (by decide) [0, 1] (WF := [(l0, .inr (3, [.ref l1, .int lat_1, .int len, .long llb, .int lor, .int laa, .int lbb, .int lnu, .long lwa])), (l1, .inl (E.2.1 0, 3000, .inl ltx))]) rfl (by decide) ?_
  clear hP hD hS
  intro H locs hP hD hS
  clear hr
  refine lv_aload_n J.1 J.2.1 d_LI_isLabelRead_4 rfl (lv_at hl 0 rfl) ?_
  replace h := g_bd h
  obtain ⟨r_2, q_2, h⟩ := h
  have hq := ct_LI_here l E l0 l1 H.size lat_1 len llb lor laa lbb lnu lwa ltx r_2 q_2
  have hr := jrunV (p := p) (e := e) (below := below) (R := ({ frames := 2, cells := 0, slots := 0, locals := 43 })) (cells := 0) (slots := 0) (As := []) (rest := []) J hJ hA hZ hP hD hS hq [0, 1] rfl (by decide) gl_LI_57 gi_LI_here gsel_LI_here gini_LI gc_LI_here hd_LI_here ⟨rfl, rfl, Nat.le_of_ble_eq_true rfl, Nat.le_of_ble_eq_true rfl⟩ rfl rfl hl.1 rfl rfl (Nat.le_of_ble_eq_true rfl) d_LI_isLabelRead_5 ⟨Nat.zero_le _, Nat.zero_le _⟩
  clear hq
  refine jk_i hr hA hP hD hS [0, 1] [] (WR := []) rfl rfl (by decide) (by decide) [0, 1] (WF := [(l0, .inr (3, [.ref l1, .int lat_1, .int len, .long llb, .int lor, .int laa, .int lbb, .int lnu, .long lwa])), (l1, .inl (E.2.1 0, 3000, .inl ltx))]) rfl (by decide) ?_
  clear hP hD hS
  intro H locs hP hD hS
  clear hr
  replace h := g_bd h
  obtain ⟨r_3, q_3, h⟩ := h
  have hq := ct_LI_isLetter l E  H.size  r_2 r_3 q_3
  have hr := jrunS (p := p) (e := e) (below := below) (R := ({ frames := 2, cells := 0, slots := 0, locals := 43 })) (cells := 0) (slots := 0) (As := [.int r_2]) (rest := []) J hJ hA hZ hP hD hS hq [] rfl (by decide) gl_LI_61 gs_LI_isLetter gini_LI gc_LI_isLetter hd_LI_isLetter ⟨rfl, rfl, Nat.le_of_ble_eq_true rfl, Nat.le_of_ble_eq_true rfl⟩ hl.1 rfl rfl (Nat.le_of_ble_eq_true rfl) d_LI_isLabelRead_8 ⟨Nat.zero_le _, Nat.zero_le _⟩
  clear hq
  refine jk_i hr hA hP hD hS [] [0, 1] (WR := [(l0, .inr (3, [.ref l1, .int lat_1, .int len, .long llb, .int lor, .int laa, .int lbb, .int lnu, .long lwa])), (l1, .inl (E.2.1 0, 3000, .inl ltx))]) rfl rfl (by decide) (by decide) [0, 1] (WF := [(l0, .inr (3, [.ref l1, .int lat_1, .int len, .long llb, .int lor, .int laa, .int lbb, .int lnu, .long lwa])), (l1, .inl (E.2.1 0, 3000, .inl ltx))]) rfl (by decide) ?_
  clear hP hD hS
  intro H locs hP hD hS
  clear hr
  refine lv_if_ne (tgt := 16) J.1 J.2.1 d_LI_isLabelRead_11 (by decide) (fun c_4 => ?_) (fun c_4 => ?_)
  · replace h := g_f c_4 h
    refine lv_aload_n J.1 J.2.1 d_LI_isLabelRead_16 rfl (lv_at hl 0 rfl) ?_
    refine lv_aload_n J.1 J.2.1 d_LI_isLabelRead_17 rfl (lv_at hl 0 rfl) ?_
    replace h := g_bd h
    obtain ⟨⟨r_5, lat_5⟩, q_5, h⟩ := h
    try dsimp only at h
    have hq := ct_LI_takeLabel l E l0 l1 H.size lat_1 len llb lor laa lbb lnu lwa ltx r_5 lat_5 q_5
    have hr := jrunV (p := p) (e := e) (below := below) (R := ({ frames := 2, cells := 0, slots := 0, locals := 43 })) (cells := 0) (slots := 0) (As := []) (rest := [.ref l0]) J hJ hA hZ hP hD hS hq [0, 1] rfl (by decide) gl_LI_65 gi_LI_takeLabel gsel_LI_takeLabel gini_LI gc_LI_takeLabel hd_LI_takeLabel ⟨rfl, rfl, Nat.le_of_ble_eq_true rfl, Nat.le_of_ble_eq_true rfl⟩ rfl rfl hl.1 rfl rfl (Nat.le_of_ble_eq_true rfl) d_LI_isLabelRead_18 ⟨Nat.zero_le _, Nat.zero_le _⟩
    clear hq
    refine jk_l hr hA hP hD hS [0, 1] [] (WR := []) rfl rfl (by decide) (by decide) [0, 1] (WF := [(l0, .inr (3, [.ref l1, .int lat_5, .int len, .long llb, .int lor, .int laa, .int lbb, .int lnu, .long lwa])), (l1, .inl (E.2.1 0, 3000, .inl ltx))]) rfl (by decide) ?_
    clear hP hD hS
    intro H locs hP hD hS
    clear hr
    refine jp J hJ hP hD hS 0 rfl rfl i_LI t_LI t_LI_ok n_LI 3 (by decide) gf_LI_25 rfl rfl rfl (Nat.le_of_ble_eq_true rfl) d_LI_isLabelRead_21 (WS' := [(l0, .inr (3, [.ref l1, .int lat_5, .int len, .long r_5, .int lor, .int laa, .int lbb, .int lnu, .long lwa])), (l1, .inl (E.2.1 0, 3000, .inl ltx))]) rfl ?_
    clear hP hD hS
    intro H locs hP hD hS
    refine lv_aload_n J.1 J.2.1 d_LI_isLabelRead_24 rfl (lv_at hl 0 rfl) ?_
    refine jg J hJ hP 0 rfl rfl i_LI 3 (by decide) gf_LI_25 rfl d_LI_isLabelRead_25 ?_
    refine lv_lconst (v := 0) J.1 J.2.1 d_LI_isLabelRead_28 (by decide) ?_
    refine W.lcmp J.1 J.2.1 d_LI_isLabelRead_29 ?_
    refine lv_if_eq (tgt := 42) J.1 J.2.1 d_LI_isLabelRead_30 (by decide) (fun c_6 => ?_) (fun c_6 => ?_)
    · replace h := g_t c_6 h
      refine lv_iconst (v := 0) J.1 J.2.1 d_LI_isLabelRead_42 (by decide) ?_
      have h := Option.some.inj h
      have e_0 := (Prod.mk.inj h).1
      have h := (Prod.mk.inj h).2
      have e_1 := (Prod.mk.inj h).1
      have h := (Prod.mk.inj h).2
      rw [← e_0, ← e_1, ← h]
      exact jr_i J hS hP hD rfl d_LI_isLabelRead_43
    · replace h := g_f c_6 h
      refine lv_aload_n J.1 J.2.1 d_LI_isLabelRead_33 rfl (lv_at hl 0 rfl) ?_
      replace h := g_bd h
      obtain ⟨r_7, q_7, h⟩ := h
      have hq := ct_LI_here l E l0 l1 H.size lat_5 len r_5 lor laa lbb lnu lwa ltx r_7 q_7
      have hr := jrunV (p := p) (e := e) (below := below) (R := ({ frames := 2, cells := 0, slots := 0, locals := 43 })) (cells := 0) (slots := 0) (As := []) (rest := []) J hJ hA hZ hP hD hS hq [0, 1] rfl (by decide) gl_LI_57 gi_LI_here gsel_LI_here gini_LI gc_LI_here hd_LI_here ⟨rfl, rfl, Nat.le_of_ble_eq_true rfl, Nat.le_of_ble_eq_true rfl⟩ rfl rfl hl.1 rfl rfl (Nat.le_of_ble_eq_true rfl) d_LI_isLabelRead_34 ⟨Nat.zero_le _, Nat.zero_le _⟩
      clear hq
      refine jk_i hr hA hP hD hS [0, 1] [] (WR := []) rfl rfl (by decide) (by decide) [0, 1] (WF := [(l0, .inr (3, [.ref l1, .int lat_5, .int len, .long r_5, .int lor, .int laa, .int lbb, .int lnu, .long lwa])), (l1, .inl (E.2.1 0, 3000, .inl ltx))]) rfl (by decide) ?_
      clear hP hD hS
      intro H locs hP hD hS
      clear hr
      refine lv_bipush (v := 58) J.1 J.2.1 d_LI_isLabelRead_37 (by decide) ?_
      refine lv_icmp_eq (tgt := 44) J.1 J.2.1 d_LI_isLabelRead_39 (by decide) (fun c_8 => ?_) (fun c_8 => ?_)
      · replace h := g_t c_8 h
        refine lv_aload_n J.1 J.2.1 d_LI_isLabelRead_44 rfl (lv_at hl 0 rfl) ?_
        refine lv_dup J.1 J.2.1 d_LI_isLabelRead_45 rfl ?_
        refine jg J hJ hP 0 rfl rfl i_LI 1 (by decide) gf_LI_19 rfl d_LI_isLabelRead_46 ?_
        refine lv_iconst (v := 1) J.1 J.2.1 d_LI_isLabelRead_49 (by decide) ?_
        refine lv_iadd J.1 J.2.1 d_LI_isLabelRead_50 ?_
        refine jp J hJ hP hD hS 0 rfl rfl i_LI t_LI t_LI_ok n_LI 1 (by decide) gf_LI_19 rfl rfl rfl (Nat.le_of_ble_eq_true rfl) d_LI_isLabelRead_51 (WS' := [(l0, .inr (3, [.ref l1, .int (lat_5 + 1), .int len, .long r_5, .int lor, .int laa, .int lbb, .int lnu, .long lwa])), (l1, .inl (E.2.1 0, 3000, .inl ltx))]) rfl ?_
        clear hP hD hS
        intro H locs hP hD hS
        refine lv_iconst (v := 1) J.1 J.2.1 d_LI_isLabelRead_54 (by decide) ?_
        have h := Option.some.inj h
        have e_0 := (Prod.mk.inj h).1
        have h := (Prod.mk.inj h).2
        have e_1 := (Prod.mk.inj h).1
        have h := (Prod.mk.inj h).2
        rw [← e_0, ← e_1, ← h]
        exact jr_i J hS hP hD rfl d_LI_isLabelRead_55
      · replace h := g_f c_8 h
        refine lv_iconst (v := 0) J.1 J.2.1 d_LI_isLabelRead_42 (by decide) ?_
        have h := Option.some.inj h
        have e_0 := (Prod.mk.inj h).1
        have h := (Prod.mk.inj h).2
        have e_1 := (Prod.mk.inj h).1
        have h := (Prod.mk.inj h).2
        rw [← e_0, ← e_1, ← h]
        exact jr_i J hS hP hD rfl d_LI_isLabelRead_43
  · replace h := g_t c_4 h
    refine lv_iconst (v := 1) J.1 J.2.1 d_LI_isLabelRead_14 (by decide) ?_
    have h := Option.some.inj h
    have e_0 := (Prod.mk.inj h).1
    have h := (Prod.mk.inj h).2
    have e_1 := (Prod.mk.inj h).1
    have h := (Prod.mk.inj h).2
    rw [← e_0, ← e_1, ← h]
    exact jr_i J hS hP hD rfl d_LI_isLabelRead_15

theorem hd_LI_dropRemark : y_LI_dropRemark.cls ≠ "java/lang/invoke/MethodHandle" ∧ y_LI_dropRemark.cls ≠ "java/lang/invoke/VarHandle" ∧ (parseMethodDescriptor y_LI_dropRemark.desc).map (fun d => d.parameters.length) = some 0 := by decide +kernel
def b_LI_dropRemark_5 : Nat → Int32 → (Nat → Int32) → Int32 → Option (Int32)
  | 0, _, _, _ => none
  | n + 1, len, ltx, x1 => (if len ≤ x1 then (some len) else (if ck x1 3000 then (if (ltx x1.toNatClampNeg) = (59 : Int32) then (some x1) else b_LI_dropRemark_5 n len ltx (x1 + 1)) else none))
def f_LI_dropRemark (lat : Int32) (len : Int32) (ltx : Nat → Int32) : Option (Int32) := b_LI_dropRemark_5 65536 len ltx lat
set_option maxHeartbeats 4000000 in
set_option maxRecDepth 100000 in
theorem kb_LI_dropRemark_5 {p : Program} {l : Launch} {e : Env} {s : State} {m : MethodId} {below : List Frame} {meth : Method} {c : Code} {A : Nat → Prop} {E : jz_E} {l0 l1 : Nat} {o_len : Int32} (J : JC p s m ([.ref l0] : List Value).toArray meth c c_LI_dropRemark 2 none y_LI_dropRemark.cls) (hJ : jE E s) (hA : ∀ q : Nat, s.heap.size ≤ q → A q) (hZ : jz_ok E A s s.heap) : ∀ (n : Nat) (lat : Int32) (len : Int32) (llb : Int64) (lor : Int32) (laa : Int32) (lbb : Int32) (lnu : Int32) (lwa : Int64) (ltx : Nat → Int32) (x1 : Int32) (H : Heap) (locs : List Loc) (ls : Array Slot), b_LI_dropRemark_5 n len ltx x1 = some o_len → va_P E.1 classes [(l0, .inr (3, [.ref l1, .int lat, .int len, .long llb, .int lor, .int laa, .int lbb, .int lnu, .long lwa])), (l1, .inl (E.2.1 0, 3000, .inl ltx))] H → va_D A [(l0, .inr (3, [.ref l1, .int lat, .int len, .long llb, .int lor, .int laa, .int lbb, .int lnu, .long lwa])), (l1, .inl (E.2.1 0, 3000, .inl ltx))] → va_S A s.heap H locs → lv_has ls 2 [(0, .ref l0), (1, .int x1)] → W p l e ({ frames := 0, cells := 0, slots := 0, locals := 0 }) s m ([.ref l0] : List Value).toArray below meth c H locs 0 0 (MQ below (va_Qv (fun (u : va_W) => u = [(l0, .inr (3, [.ref l1, .int lat, .int o_len, .long llb, .int lor, .int laa, .int lbb, .int lnu, .long lwa])), (l1, .inl (E.2.1 0, 3000, .inl ltx))]) (BW E A) A) ([.ref l0] : List Value).toArray s 0 0 A) (F0 m 5 ls []) := by
  intro n
  induction n with
  | zero => intro lat len llb lor laa lbb lnu lwa ltx x1 H locs ls h; cases h
  | succ n ih =>
    intro lat len llb lor laa lbb lnu lwa ltx x1 H locs ls h hP hD hS hl
    rw [b_LI_dropRemark_5] at h
    refine lv_iload_n J.1 J.2.1 d_LI_dropRemark_5 rfl (lv_at hl 1 rfl) ?_
    refine lv_aload_n J.1 J.2.1 d_LI_dropRemark_6 rfl (lv_at hl 0 rfl) ?_
    refine jg J hJ hP 0 rfl rfl i_LI 2 (by decide) gf_LI_22 rfl d_LI_dropRemark_7 ?_
    refine lv_icmp_ge (tgt := 36) J.1 J.2.1 d_LI_dropRemark_10 (by decide) (fun c_1 => ?_) (fun c_1 => ?_)
    · replace h := g_t c_1 h
      have h := Option.some.inj h
      rw [← h]
      exact jr_v J hS hP hD d_LI_dropRemark_36
    · replace h := g_f c_1 h
      refine lv_aload_n J.1 J.2.1 d_LI_dropRemark_13 rfl (lv_at hl 0 rfl) ?_
      refine jg J hJ hP 0 rfl rfl i_LI 0 (by decide) gf_LI_9 rfl d_LI_dropRemark_14 ?_
      refine lv_iload_n J.1 J.2.1 d_LI_dropRemark_17 rfl (lv_at hl 1 rfl) ?_
      replace h := g_ck h
      obtain ⟨k_2, h⟩ := h
      refine jai J hJ hP 1 rfl k_2 d_LI_dropRemark_18 ?_
      refine lv_bipush (v := 59) J.1 J.2.1 d_LI_dropRemark_19 (by decide) ?_
      refine lv_icmp_ne (tgt := 30) J.1 J.2.1 d_LI_dropRemark_21 (by decide) (fun c_3 => ?_) (fun c_3 => ?_)
      · replace h := g_f c_3 h
        refine lv_iinc (v := (x1 + 1)) (lv' := [(1, .int (x1 + 1)), (0, .ref l0)]) J.1 J.2.1 d_LI_dropRemark_30 hl (k := 1) rfl rfl (by decide) rfl ?_
        clear hl
        intro ls hl
        refine lv_goto (tgt := 5) J.1 J.2.1 d_LI_dropRemark_33 (by decide) ?_
        exact ih _ _ _ _ _ _ _ _ _ _ _ _ _ h hP hD hS (lv_sub hl [1, 0] rfl)
      · replace h := g_t c_3 h
        refine lv_aload_n J.1 J.2.1 d_LI_dropRemark_24 rfl (lv_at hl 0 rfl) ?_
        refine lv_iload_n J.1 J.2.1 d_LI_dropRemark_25 rfl (lv_at hl 1 rfl) ?_
        refine jp J hJ hP hD hS 0 rfl rfl i_LI t_LI t_LI_ok n_LI 2 (by decide) gf_LI_22 rfl rfl rfl (Nat.le_of_ble_eq_true rfl) d_LI_dropRemark_26 (WS' := [(l0, .inr (3, [.ref l1, .int lat, .int x1, .long llb, .int lor, .int laa, .int lbb, .int lnu, .long lwa])), (l1, .inl (E.2.1 0, 3000, .inl ltx))]) rfl ?_
        clear hP hD hS
        intro H locs hP hD hS
        have h := Option.some.inj h
        rw [← h]
        exact jr_v J hS hP hD d_LI_dropRemark_29
set_option maxHeartbeats 4000000 in
set_option maxRecDepth 100000 in
theorem ct_LI_dropRemark (l : Launch) (E : jz_E) (l0 l1 : Nat) (sz : Nat) (lat : Int32) (len : Int32) (llb : Int64) (lor : Int32) (laa : Int32) (lbb : Int32) (lnu : Int32) (lwa : Int64) (ltx : Nat → Int32) (o_len : Int32)  (h : f_LI_dropRemark lat len ltx = some o_len) : CTv l E y_LI_dropRemark c_LI_dropRemark 2 none ({ frames := 0, cells := 0, slots := 0, locals := 0 }) [.ref l0] [(l0, .inr (3, [.ref l1, .int lat, .int len, .long llb, .int lor, .int laa, .int lbb, .int lnu, .long lwa])), (l1, .inl (E.2.1 0, 3000, .inl ltx))] sz [(l0, .inr (3, [.ref l1, .int lat, .int o_len, .long llb, .int lor, .int laa, .int lbb, .int lnu, .long lwa])), (l1, .inl (E.2.1 0, 3000, .inl ltx))] := by
  refine jw (by decide +kernel) (Nat.le_of_ble_eq_true rfl) ?_
  intro p e s m below meth c A ls J hJ hAe hsz hA hZ hP hD hl
  rw [← hAe]
  have hS : va_S A s.heap s.heap [] := va_S.rf
  have hl : lv_has ls 2 [(0, .ref l0)] := hl
  unfold f_LI_dropRemark at h
  refine lv_aload_n J.1 J.2.1 d_LI_dropRemark_0 rfl (lv_at hl 0 rfl) ?_
  refine jg J hJ hP 0 rfl rfl i_LI 1 (by decide) gf_LI_19 rfl d_LI_dropRemark_1 ?_
  refine lv_istore_n (lv' := [(1, .int lat), (0, .ref l0)]) J.1 J.2.1 d_LI_dropRemark_4 rfl hl (by decide) rfl ?_
  clear hl
  intro ls hl
  exact kb_LI_dropRemark_5 J hJ hA hZ _ _ _ _ _ _ _ _ _ _ _ _ _ _ h hP hD hS (lv_sub hl [1, 0] rfl)

theorem hd_LI_hasGoodBytes : y_LI_hasGoodBytes.cls ≠ "java/lang/invoke/MethodHandle" ∧ y_LI_hasGoodBytes.cls ≠ "java/lang/invoke/VarHandle" ∧ (parseMethodDescriptor y_LI_hasGoodBytes.desc).map (fun d => d.parameters.length) = some 0 := by decide +kernel
def b_LI_hasGoodBytes_5 : Nat → Int32 → (Nat → Int32) → Int32 → Option (Int32)
  | 0, _, _, _ => none
  | n + 1, len, ltx, x1 => (if len ≤ x1 then (some 1) else (if ck x1 3000 then (if (ltx x1.toNatClampNeg) < (32 : Int32) then (some 0) else (if ck x1 3000 then (if (ltx x1.toNatClampNeg) ≤ (126 : Int32) then b_LI_hasGoodBytes_5 n len ltx (x1 + 1) else (some 0)) else none)) else none))
def f_LI_hasGoodBytes (lat : Int32) (len : Int32) (ltx : Nat → Int32) : Option (Int32) := b_LI_hasGoodBytes_5 65536 len ltx lat
set_option maxHeartbeats 4000000 in
set_option maxRecDepth 100000 in
theorem kb_LI_hasGoodBytes_5 {p : Program} {l : Launch} {e : Env} {s : State} {m : MethodId} {below : List Frame} {meth : Method} {c : Code} {A : Nat → Prop} {E : jz_E} {l0 l1 : Nat} {o_r : Int32} (J : JC p s m ([.ref l0] : List Value).toArray meth c c_LI_hasGoodBytes 2 (some .boolean) y_LI_hasGoodBytes.cls) (hJ : jE E s) (hA : ∀ q : Nat, s.heap.size ≤ q → A q) (hZ : jz_ok E A s s.heap) : ∀ (n : Nat) (lat : Int32) (len : Int32) (llb : Int64) (lor : Int32) (laa : Int32) (lbb : Int32) (lnu : Int32) (lwa : Int64) (ltx : Nat → Int32) (x1 : Int32) (H : Heap) (locs : List Loc) (ls : Array Slot), b_LI_hasGoodBytes_5 n len ltx x1 = some o_r → va_P E.1 classes [(l0, .inr (3, [.ref l1, .int lat, .int len, .long llb, .int lor, .int laa, .int lbb, .int lnu, .long lwa])), (l1, .inl (E.2.1 0, 3000, .inl ltx))] H → va_D A [(l0, .inr (3, [.ref l1, .int lat, .int len, .long llb, .int lor, .int laa, .int lbb, .int lnu, .long lwa])), (l1, .inl (E.2.1 0, 3000, .inl ltx))] → va_S A s.heap H locs → lv_has ls 2 [(0, .ref l0), (1, .int x1)] → W p l e ({ frames := 0, cells := 0, slots := 0, locals := 0 }) s m ([.ref l0] : List Value).toArray below meth c H locs 0 0 (MQ below (va_Qi (fun (r' : Int32) (u : va_W) => r' = o_r ∧ u = [(l0, .inr (3, [.ref l1, .int lat, .int len, .long llb, .int lor, .int laa, .int lbb, .int lnu, .long lwa])), (l1, .inl (E.2.1 0, 3000, .inl ltx))]) (BW E A) A) ([.ref l0] : List Value).toArray s 0 0 A) (F0 m 5 ls []) := by
  intro n
  induction n with
  | zero => intro lat len llb lor laa lbb lnu lwa ltx x1 H locs ls h; cases h
  | succ n ih =>
    intro lat len llb lor laa lbb lnu lwa ltx x1 H locs ls h hP hD hS hl
    rw [b_LI_hasGoodBytes_5] at h
    refine lv_iload_n J.1 J.2.1 d_LI_hasGoodBytes_5 rfl (lv_at hl 1 rfl) ?_
    refine lv_aload_n J.1 J.2.1 d_LI_hasGoodBytes_6 rfl (lv_at hl 0 rfl) ?_
    refine jg J hJ hP 0 rfl rfl i_LI 2 (by decide) gf_LI_22 rfl d_LI_hasGoodBytes_7 ?_
    refine lv_icmp_ge (tgt := 43) J.1 J.2.1 d_LI_hasGoodBytes_10 (by decide) (fun c_1 => ?_) (fun c_1 => ?_)
    · replace h := g_t c_1 h
      refine lv_iconst (v := 1) J.1 J.2.1 d_LI_hasGoodBytes_43 (by decide) ?_
      have h := Option.some.inj h
      rw [← h]
      exact jr_i J hS hP hD rfl d_LI_hasGoodBytes_44
    · replace h := g_f c_1 h
      refine lv_aload_n J.1 J.2.1 d_LI_hasGoodBytes_13 rfl (lv_at hl 0 rfl) ?_
      refine jg J hJ hP 0 rfl rfl i_LI 0 (by decide) gf_LI_9 rfl d_LI_hasGoodBytes_14 ?_
      refine lv_iload_n J.1 J.2.1 d_LI_hasGoodBytes_17 rfl (lv_at hl 1 rfl) ?_
      replace h := g_ck h
      obtain ⟨k_2, h⟩ := h
      refine jai J hJ hP 1 rfl k_2 d_LI_hasGoodBytes_18 ?_
      refine lv_bipush (v := 32) J.1 J.2.1 d_LI_hasGoodBytes_19 (by decide) ?_
      refine lv_icmp_lt (tgt := 35) J.1 J.2.1 d_LI_hasGoodBytes_21 (by decide) (fun c_3 => ?_) (fun c_3 => ?_)
      · replace h := g_t c_3 h
        refine lv_iconst (v := 0) J.1 J.2.1 d_LI_hasGoodBytes_35 (by decide) ?_
        have h := Option.some.inj h
        rw [← h]
        exact jr_i J hS hP hD rfl d_LI_hasGoodBytes_36
      · replace h := g_f c_3 h
        refine lv_aload_n J.1 J.2.1 d_LI_hasGoodBytes_24 rfl (lv_at hl 0 rfl) ?_
        refine jg J hJ hP 0 rfl rfl i_LI 0 (by decide) gf_LI_9 rfl d_LI_hasGoodBytes_25 ?_
        refine lv_iload_n J.1 J.2.1 d_LI_hasGoodBytes_28 rfl (lv_at hl 1 rfl) ?_
        replace h := g_ck h
        obtain ⟨k_4, h⟩ := h
        refine jai J hJ hP 1 rfl k_4 d_LI_hasGoodBytes_29 ?_
        refine lv_bipush (v := 126) J.1 J.2.1 d_LI_hasGoodBytes_30 (by decide) ?_
        refine lv_icmp_le (tgt := 37) J.1 J.2.1 d_LI_hasGoodBytes_32 (by decide) (fun c_5 => ?_) (fun c_5 => ?_)
        · replace h := g_t c_5 h
          refine lv_iinc (v := (x1 + 1)) (lv' := [(1, .int (x1 + 1)), (0, .ref l0)]) J.1 J.2.1 d_LI_hasGoodBytes_37 hl (k := 1) rfl rfl (by decide) rfl ?_
          clear hl
          intro ls hl
          refine lv_goto (tgt := 5) J.1 J.2.1 d_LI_hasGoodBytes_40 (by decide) ?_
          exact ih _ _ _ _ _ _ _ _ _ _ _ _ _ h hP hD hS (lv_sub hl [1, 0] rfl)
        · replace h := g_f c_5 h
          refine lv_iconst (v := 0) J.1 J.2.1 d_LI_hasGoodBytes_35 (by decide) ?_
          have h := Option.some.inj h
          rw [← h]
          exact jr_i J hS hP hD rfl d_LI_hasGoodBytes_36
set_option maxHeartbeats 4000000 in
set_option maxRecDepth 100000 in
theorem ct_LI_hasGoodBytes (l : Launch) (E : jz_E) (l0 l1 : Nat) (sz : Nat) (lat : Int32) (len : Int32) (llb : Int64) (lor : Int32) (laa : Int32) (lbb : Int32) (lnu : Int32) (lwa : Int64) (ltx : Nat → Int32) (o_r : Int32)  (h : f_LI_hasGoodBytes lat len ltx = some o_r) : CTi l E y_LI_hasGoodBytes c_LI_hasGoodBytes 2 (some .boolean) ({ frames := 0, cells := 0, slots := 0, locals := 0 }) [.ref l0] [(l0, .inr (3, [.ref l1, .int lat, .int len, .long llb, .int lor, .int laa, .int lbb, .int lnu, .long lwa])), (l1, .inl (E.2.1 0, 3000, .inl ltx))] sz o_r [(l0, .inr (3, [.ref l1, .int lat, .int len, .long llb, .int lor, .int laa, .int lbb, .int lnu, .long lwa])), (l1, .inl (E.2.1 0, 3000, .inl ltx))] := by
  refine jw (by decide +kernel) (Nat.le_of_ble_eq_true rfl) ?_
  intro p e s m below meth c A ls J hJ hAe hsz hA hZ hP hD hl
  rw [← hAe]
  have hS : va_S A s.heap s.heap [] := va_S.rf
  have hl : lv_has ls 2 [(0, .ref l0)] := hl
  unfold f_LI_hasGoodBytes at h
  refine lv_aload_n J.1 J.2.1 d_LI_hasGoodBytes_0 rfl (lv_at hl 0 rfl) ?_
  refine jg J hJ hP 0 rfl rfl i_LI 1 (by decide) gf_LI_19 rfl d_LI_hasGoodBytes_1 ?_
  refine lv_istore_n (lv' := [(1, .int lat), (0, .ref l0)]) J.1 J.2.1 d_LI_hasGoodBytes_4 rfl hl (by decide) rfl ?_
  clear hl
  intro ls hl
  exact kb_LI_hasGoodBytes_5 J hJ hA hZ _ _ _ _ _ _ _ _ _ _ _ _ _ _ h hP hD hS (lv_sub hl [1, 0] rfl)

theorem hd_LI_isInstruction : y_LI_isInstruction.cls ≠ "java/lang/invoke/MethodHandle" ∧ y_LI_isInstruction.cls ≠ "java/lang/invoke/VarHandle" ∧ (parseMethodDescriptor y_LI_isInstruction.desc).map (fun d => d.parameters.length) = some 0 := by decide +kernel
def f_LI_isInstruction (lor : Int32) : Option (Int32) := (if lor < (0 : Int32) then (some 0) else (if (25 : Int32) ≤ lor then (some 0) else (some 1)))
set_option maxHeartbeats 4000000 in
set_option maxRecDepth 100000 in
theorem ct_LI_isInstruction (l : Launch) (E : jz_E) (l0 : Nat) (sz : Nat) (l9 : Nat) (lat : Int32) (len : Int32) (llb : Int64) (lor : Int32) (laa : Int32) (lbb : Int32) (lnu : Int32) (lwa : Int64) (o_r : Int32)  (h : f_LI_isInstruction lor = some o_r) : CTi l E y_LI_isInstruction c_LI_isInstruction 1 (some .boolean) ({ frames := 0, cells := 0, slots := 0, locals := 0 }) [.ref l0] [(l0, .inr (3, [.ref l9, .int lat, .int len, .long llb, .int lor, .int laa, .int lbb, .int lnu, .long lwa]))] sz o_r [(l0, .inr (3, [.ref l9, .int lat, .int len, .long llb, .int lor, .int laa, .int lbb, .int lnu, .long lwa]))] := by
  refine jw (by decide +kernel) (Nat.le_of_ble_eq_true rfl) ?_
  intro p e s m below meth c A ls J hJ hAe hsz hA hZ hP hD hl
  rw [← hAe]
  have hS : va_S A s.heap s.heap [] := va_S.rf
  have hl : lv_has ls 1 [(0, .ref l0)] := hl
  unfold f_LI_isInstruction at h
  refine lv_aload_n J.1 J.2.1 d_LI_isInstruction_0 rfl (lv_at hl 0 rfl) ?_
  refine jg J hJ hP 0 rfl rfl i_LI 4 (by decide) gf_LI_15 rfl d_LI_isInstruction_1 ?_
  refine lv_if_lt (tgt := 20) J.1 J.2.1 d_LI_isInstruction_4 (by decide) (fun c_1 => ?_) (fun c_1 => ?_)
  · replace h := g_t c_1 h
    refine lv_iconst (v := 0) J.1 J.2.1 d_LI_isInstruction_20 (by decide) ?_
    have h := Option.some.inj h
    rw [← h]
    exact jr_i J hS hP hD rfl d_LI_isInstruction_21
  · replace h := g_f c_1 h
    refine lv_aload_n J.1 J.2.1 d_LI_isInstruction_7 rfl (lv_at hl 0 rfl) ?_
    refine jg J hJ hP 0 rfl rfl i_LI 4 (by decide) gf_LI_15 rfl d_LI_isInstruction_8 ?_
    refine lv_bipush (v := 25) J.1 J.2.1 d_LI_isInstruction_11 (by decide) ?_
    refine lv_icmp_ge (tgt := 20) J.1 J.2.1 d_LI_isInstruction_13 (by decide) (fun c_2 => ?_) (fun c_2 => ?_)
    · replace h := g_t c_2 h
      refine lv_iconst (v := 0) J.1 J.2.1 d_LI_isInstruction_20 (by decide) ?_
      have h := Option.some.inj h
      rw [← h]
      exact jr_i J hS hP hD rfl d_LI_isInstruction_21
    · replace h := g_f c_2 h
      refine lv_iconst (v := 1) J.1 J.2.1 d_LI_isInstruction_16 (by decide) ?_
      refine lv_goto (tgt := 21) J.1 J.2.1 d_LI_isInstruction_17 (by decide) ?_
      have h := Option.some.inj h
      rw [← h]
      exact jr_i J hS hP hD rfl d_LI_isInstruction_21

theorem hd_LI_isReadFrom : y_LI_isReadFrom.cls ≠ "java/lang/invoke/MethodHandle" ∧ y_LI_isReadFrom.cls ≠ "java/lang/invoke/VarHandle" ∧ (parseMethodDescriptor y_LI_isReadFrom.desc).map (fun d => d.parameters.length) = some 3 := by decide +kernel
def f_LI_isReadFrom (l1 : Nat) (wN : Nat → Int32) (ltx : Nat → Int32) (p2 : Int32) (p3 : Int32) : Option (Int32 × Nat × Int32 × Int32 × Int64 × Int32 × Int32 × Int32 × Int32 × Int64) := ((f_LI_hasGoodBytes p2 p3 ltx).bind fun r_1 => (if r_1 = (0 : Int32) then (some (0, l1, p2, p3, 0, (-1), 0, 0, 0, 0)) else ((f_LI_dropRemark p2 p3 ltx).bind fun len_3 => ((f_LI_isLabelRead p2 len_3 0 ltx).bind fun (r_4, lat_4, llb_4) => (if r_4 = (0 : Int32) then (some (0, l1, lat_4, len_3, llb_4, (-1), 0, 0, 0, 0)) else ((f_LI_isOrderRead wN lat_4 len_3 (-1) 0 0 0 0 ltx).bind fun (r_6, lat_6, lor_6, laa_6, lbb_6, lnu_6, lwa_6) => (if r_6 = (0 : Int32) then (some (0, l1, lat_6, len_3, llb_4, lor_6, laa_6, lbb_6, lnu_6, lwa_6)) else (some (1, l1, lat_6, len_3, llb_4, lor_6, laa_6, lbb_6, lnu_6, lwa_6)))))))))
set_option maxHeartbeats 4000000 in
set_option maxRecDepth 100000 in
theorem ct_LI_isReadFrom (l : Launch) (E : jz_E) (l0 l1 w8 : Nat) (sz : Nat) (wN : Nat → Int32) (l9 : Nat) (lat : Int32) (len : Int32) (llb : Int64) (lor : Int32) (laa : Int32) (lbb : Int32) (lnu : Int32) (lwa : Int64) (ltx : Nat → Int32) (p2 : Int32) (p3 : Int32) (o_r : Int32) (o_l9 : Nat) (o_lat : Int32) (o_len : Int32) (o_llb : Int64) (o_lor : Int32) (o_laa : Int32) (o_lbb : Int32) (o_lnu : Int32) (o_lwa : Int64)  (hzC : ("java/lang/String", "COMPACT_STRINGS", "Z", Value.int 1) ∈ E.2.2.1) (hzN : (R_LI, "WANTS", "[I", Value.ref w8) ∈ E.2.2.1) (htN : (w8, 28, wN) ∈ E.2.2.2.1) (h : f_LI_isReadFrom l1 wN ltx p2 p3 = some (o_r, o_l9, o_lat, o_len, o_llb, o_lor, o_laa, o_lbb, o_lnu, o_lwa)) : CTi l E y_LI_isReadFrom c_LI_isReadFrom 4 (some .boolean) ({ frames := 7, cells := 0, slots := 0, locals := 153 }) [.ref l0, .ref l1, .int p2, .int p3] [(l0, .inr (3, [.ref l9, .int lat, .int len, .long llb, .int lor, .int laa, .int lbb, .int lnu, .long lwa])), (l1, .inl (E.2.1 0, 3000, .inl ltx))] sz o_r [(l0, .inr (3, [.ref o_l9, .int o_lat, .int o_len, .long o_llb, .int o_lor, .int o_laa, .int o_lbb, .int o_lnu, .long o_lwa])), (l1, .inl (E.2.1 0, 3000, .inl ltx))] := by
  refine jw (by decide +kernel) (Nat.le_of_ble_eq_true rfl) ?_
  intro p e s m below meth c A ls J hJ hAe hsz hA hZ hP hD hl
  rw [← hAe]
  have hS : va_S A s.heap s.heap [] := va_S.rf
  have hl : lv_has ls 4 [(0, .ref l0), (1, .ref l1), (2, .int p2), (3, .int p3)] := hl
  unfold f_LI_isReadFrom at h
  refine lv_aload_n J.1 J.2.1 d_LI_isReadFrom_0 rfl (lv_at hl 0 rfl) ?_
  refine lv_aload_n J.1 J.2.1 d_LI_isReadFrom_1 rfl (lv_at hl 1 rfl) ?_
  refine jp J hJ hP hD hS 0 rfl rfl i_LI t_LI t_LI_ok n_LI 0 (by decide) gf_LI_9 rfl rfl rfl (Nat.le_of_ble_eq_true rfl) d_LI_isReadFrom_2 (WS' := [(l0, .inr (3, [.ref l1, .int lat, .int len, .long llb, .int lor, .int laa, .int lbb, .int lnu, .long lwa])), (l1, .inl (E.2.1 0, 3000, .inl ltx))]) rfl ?_
  clear hP hD hS
  intro H locs hP hD hS
  refine lv_aload_n J.1 J.2.1 d_LI_isReadFrom_5 rfl (lv_at hl 0 rfl) ?_
  refine lv_iload_n J.1 J.2.1 d_LI_isReadFrom_6 rfl (lv_at hl 2 rfl) ?_
  refine jp J hJ hP hD hS 0 rfl rfl i_LI t_LI t_LI_ok n_LI 1 (by decide) gf_LI_19 rfl rfl rfl (Nat.le_of_ble_eq_true rfl) d_LI_isReadFrom_7 (WS' := [(l0, .inr (3, [.ref l1, .int p2, .int len, .long llb, .int lor, .int laa, .int lbb, .int lnu, .long lwa])), (l1, .inl (E.2.1 0, 3000, .inl ltx))]) rfl ?_
  clear hP hD hS
  intro H locs hP hD hS
  refine lv_aload_n J.1 J.2.1 d_LI_isReadFrom_10 rfl (lv_at hl 0 rfl) ?_
  refine lv_iload_n J.1 J.2.1 d_LI_isReadFrom_11 rfl (lv_at hl 3 rfl) ?_
  refine jp J hJ hP hD hS 0 rfl rfl i_LI t_LI t_LI_ok n_LI 2 (by decide) gf_LI_22 rfl rfl rfl (Nat.le_of_ble_eq_true rfl) d_LI_isReadFrom_12 (WS' := [(l0, .inr (3, [.ref l1, .int p2, .int p3, .long llb, .int lor, .int laa, .int lbb, .int lnu, .long lwa])), (l1, .inl (E.2.1 0, 3000, .inl ltx))]) rfl ?_
  clear hP hD hS
  intro H locs hP hD hS
  refine lv_aload_n J.1 J.2.1 d_LI_isReadFrom_15 rfl (lv_at hl 0 rfl) ?_
  refine lv_lconst (v := 0) J.1 J.2.1 d_LI_isReadFrom_16 (by decide) ?_
  refine jp J hJ hP hD hS 0 rfl rfl i_LI t_LI t_LI_ok n_LI 3 (by decide) gf_LI_25 rfl rfl rfl (Nat.le_of_ble_eq_true rfl) d_LI_isReadFrom_17 (WS' := [(l0, .inr (3, [.ref l1, .int p2, .int p3, .long 0, .int lor, .int laa, .int lbb, .int lnu, .long lwa])), (l1, .inl (E.2.1 0, 3000, .inl ltx))]) rfl ?_
  clear hP hD hS
  intro H locs hP hD hS
  refine lv_aload_n J.1 J.2.1 d_LI_isReadFrom_20 rfl (lv_at hl 0 rfl) ?_
  refine lv_iconst (v := (-1)) J.1 J.2.1 d_LI_isReadFrom_21 (by decide) ?_
  refine jp J hJ hP hD hS 0 rfl rfl i_LI t_LI t_LI_ok n_LI 4 (by decide) gf_LI_15 rfl rfl rfl (Nat.le_of_ble_eq_true rfl) d_LI_isReadFrom_22 (WS' := [(l0, .inr (3, [.ref l1, .int p2, .int p3, .long 0, .int (-1), .int laa, .int lbb, .int lnu, .long lwa])), (l1, .inl (E.2.1 0, 3000, .inl ltx))]) rfl ?_
  clear hP hD hS
  intro H locs hP hD hS
  refine lv_aload_n J.1 J.2.1 d_LI_isReadFrom_25 rfl (lv_at hl 0 rfl) ?_
  refine lv_iconst (v := 0) J.1 J.2.1 d_LI_isReadFrom_26 (by decide) ?_
  refine jp J hJ hP hD hS 0 rfl rfl i_LI t_LI t_LI_ok n_LI 5 (by decide) gf_LI_29 rfl rfl rfl (Nat.le_of_ble_eq_true rfl) d_LI_isReadFrom_27 (WS' := [(l0, .inr (3, [.ref l1, .int p2, .int p3, .long 0, .int (-1), .int 0, .int lbb, .int lnu, .long lwa])), (l1, .inl (E.2.1 0, 3000, .inl ltx))]) rfl ?_
  clear hP hD hS
  intro H locs hP hD hS
  refine lv_aload_n J.1 J.2.1 d_LI_isReadFrom_30 rfl (lv_at hl 0 rfl) ?_
  refine lv_iconst (v := 0) J.1 J.2.1 d_LI_isReadFrom_31 (by decide) ?_
  refine jp J hJ hP hD hS 0 rfl rfl i_LI t_LI t_LI_ok n_LI 6 (by decide) gf_LI_32 rfl rfl rfl (Nat.le_of_ble_eq_true rfl) d_LI_isReadFrom_32 (WS' := [(l0, .inr (3, [.ref l1, .int p2, .int p3, .long 0, .int (-1), .int 0, .int 0, .int lnu, .long lwa])), (l1, .inl (E.2.1 0, 3000, .inl ltx))]) rfl ?_
  clear hP hD hS
  intro H locs hP hD hS
  refine lv_aload_n J.1 J.2.1 d_LI_isReadFrom_35 rfl (lv_at hl 0 rfl) ?_
  refine lv_iconst (v := 0) J.1 J.2.1 d_LI_isReadFrom_36 (by decide) ?_
  refine jp J hJ hP hD hS 0 rfl rfl i_LI t_LI t_LI_ok n_LI 7 (by decide) gf_LI_35 rfl rfl rfl (Nat.le_of_ble_eq_true rfl) d_LI_isReadFrom_37 (WS' := [(l0, .inr (3, [.ref l1, .int p2, .int p3, .long 0, .int (-1), .int 0, .int 0, .int 0, .long lwa])), (l1, .inl (E.2.1 0, 3000, .inl ltx))]) rfl ?_
  clear hP hD hS
  intro H locs hP hD hS
  refine lv_aload_n J.1 J.2.1 d_LI_isReadFrom_40 rfl (lv_at hl 0 rfl) ?_
  refine lv_lconst (v := 0) J.1 J.2.1 d_LI_isReadFrom_41 (by decide) ?_
  refine jp J hJ hP hD hS 0 rfl rfl i_LI t_LI t_LI_ok n_LI 8 (by decide) gf_LI_38 rfl rfl rfl (Nat.le_of_ble_eq_true rfl) d_LI_isReadFrom_42 (WS' := [(l0, .inr (3, [.ref l1, .int p2, .int p3, .long 0, .int (-1), .int 0, .int 0, .int 0, .long 0])), (l1, .inl (E.2.1 0, 3000, .inl ltx))]) rfl ?_
  clear hP hD hS
  intro H locs hP hD hS
  refine lv_aload_n J.1 J.2.1 d_LI_isReadFrom_45 rfl (lv_at hl 0 rfl) ?_
  replace h := g_bd h
  obtain ⟨r_1, q_1, h⟩ := h
  have hq := ct_LI_hasGoodBytes l E l0 l1 H.size p2 p3 0 (-1) 0 0 0 0 ltx r_1 q_1
  have hr := jrunV (p := p) (e := e) (below := below) (R := ({ frames := 7, cells := 0, slots := 0, locals := 153 })) (cells := 0) (slots := 0) (As := []) (rest := []) J hJ hA hZ hP hD hS hq [0, 1] rfl (by decide) gl_LI_41 gi_LI_hasGoodBytes gsel_LI_hasGoodBytes gini_LI gc_LI_hasGoodBytes hd_LI_hasGoodBytes ⟨rfl, rfl, Nat.le_of_ble_eq_true rfl, Nat.le_of_ble_eq_true rfl⟩ rfl rfl hl.1 rfl rfl (Nat.le_of_ble_eq_true rfl) d_LI_isReadFrom_46 ⟨Nat.zero_le _, Nat.zero_le _⟩
  clear hq
  refine jk_i hr hA hP hD hS [0, 1] [] (WR := []) rfl rfl (by decide) (by decide) [0, 1] (WF := [(l0, .inr (3, [.ref l1, .int p2, .int p3, .long 0, .int (-1), .int 0, .int 0, .int 0, .long 0])), (l1, .inl (E.2.1 0, 3000, .inl ltx))]) rfl (by decide) ?_
  clear hP hD hS
  intro H locs hP hD hS
  clear hr
  refine lv_if_ne (tgt := 54) J.1 J.2.1 d_LI_isReadFrom_49 (by decide) (fun c_2 => ?_) (fun c_2 => ?_)
  · replace h := g_f c_2 h
    refine lv_aload_n J.1 J.2.1 d_LI_isReadFrom_54 rfl (lv_at hl 0 rfl) ?_
    replace h := g_bd h
    obtain ⟨len_3, q_3, h⟩ := h
    have hq := ct_LI_dropRemark l E l0 l1 H.size p2 p3 0 (-1) 0 0 0 0 ltx len_3 q_3
    have hr := jrunV (p := p) (e := e) (below := below) (R := ({ frames := 7, cells := 0, slots := 0, locals := 153 })) (cells := 0) (slots := 0) (As := []) (rest := []) J hJ hA hZ hP hD hS hq [0, 1] rfl (by decide) gl_LI_45 gi_LI_dropRemark gsel_LI_dropRemark gini_LI gc_LI_dropRemark hd_LI_dropRemark ⟨rfl, rfl, Nat.le_of_ble_eq_true rfl, Nat.le_of_ble_eq_true rfl⟩ rfl rfl hl.1 rfl rfl (Nat.le_of_ble_eq_true rfl) d_LI_isReadFrom_55 ⟨Nat.zero_le _, Nat.zero_le _⟩
    clear hq
    refine jk_v hr hA hP hD hS [0, 1] [] (WR := []) rfl rfl (by decide) (by decide) [0, 1] (WF := [(l0, .inr (3, [.ref l1, .int p2, .int len_3, .long 0, .int (-1), .int 0, .int 0, .int 0, .long 0])), (l1, .inl (E.2.1 0, 3000, .inl ltx))]) rfl (by decide) ?_
    clear hP hD hS
    intro H locs hP hD hS
    clear hr
    refine lv_aload_n J.1 J.2.1 d_LI_isReadFrom_58 rfl (lv_at hl 0 rfl) ?_
    replace h := g_bd h
    obtain ⟨⟨r_4, lat_4, llb_4⟩, q_4, h⟩ := h
    try dsimp only at h
    have hq := ct_LI_isLabelRead l E l0 l1 H.size p2 len_3 0 (-1) 0 0 0 0 ltx r_4 lat_4 llb_4 q_4
    have hr := jrunV (p := p) (e := e) (below := below) (R := ({ frames := 7, cells := 0, slots := 0, locals := 153 })) (cells := 0) (slots := 0) (As := []) (rest := []) J hJ hA hZ hP hD hS hq [0, 1] rfl (by decide) gl_LI_48 gi_LI_isLabelRead gsel_LI_isLabelRead gini_LI gc_LI_isLabelRead hd_LI_isLabelRead ⟨rfl, rfl, Nat.le_of_ble_eq_true rfl, Nat.le_of_ble_eq_true rfl⟩ rfl rfl hl.1 rfl rfl (Nat.le_of_ble_eq_true rfl) d_LI_isReadFrom_59 ⟨Nat.zero_le _, Nat.zero_le _⟩
    clear hq
    refine jk_i hr hA hP hD hS [0, 1] [] (WR := []) rfl rfl (by decide) (by decide) [0, 1] (WF := [(l0, .inr (3, [.ref l1, .int lat_4, .int len_3, .long llb_4, .int (-1), .int 0, .int 0, .int 0, .long 0])), (l1, .inl (E.2.1 0, 3000, .inl ltx))]) rfl (by decide) ?_
    clear hP hD hS
    intro H locs hP hD hS
    clear hr
    refine lv_if_eq (tgt := 76) J.1 J.2.1 d_LI_isReadFrom_62 (by decide) (fun c_5 => ?_) (fun c_5 => ?_)
    · replace h := g_t c_5 h
      refine lv_iconst (v := 0) J.1 J.2.1 d_LI_isReadFrom_76 (by decide) ?_
      have h := Option.some.inj h
      have e_0 := (Prod.mk.inj h).1
      have h := (Prod.mk.inj h).2
      have e_1 := (Prod.mk.inj h).1
      have h := (Prod.mk.inj h).2
      have e_2 := (Prod.mk.inj h).1
      have h := (Prod.mk.inj h).2
      have e_3 := (Prod.mk.inj h).1
      have h := (Prod.mk.inj h).2
      have e_4 := (Prod.mk.inj h).1
      have h := (Prod.mk.inj h).2
      have e_5 := (Prod.mk.inj h).1
      have h := (Prod.mk.inj h).2
      have e_6 := (Prod.mk.inj h).1
      have h := (Prod.mk.inj h).2
      have e_7 := (Prod.mk.inj h).1
      have h := (Prod.mk.inj h).2
      have e_8 := (Prod.mk.inj h).1
      have h := (Prod.mk.inj h).2
      rw [← e_0, ← e_1, ← e_2, ← e_3, ← e_4, ← e_5, ← e_6, ← e_7, ← e_8, ← h]
      exact jr_i J hS hP hD rfl d_LI_isReadFrom_77
    · replace h := g_f c_5 h
      refine lv_aload_n J.1 J.2.1 d_LI_isReadFrom_65 rfl (lv_at hl 0 rfl) ?_
      replace h := g_bd h
      obtain ⟨⟨r_6, lat_6, lor_6, laa_6, lbb_6, lnu_6, lwa_6⟩, q_6, h⟩ := h
      try dsimp only at h
      have hq := ct_LI_isOrderRead l E l0 l1 w8 H.size wN lat_4 len_3 llb_4 (-1) 0 0 0 0 ltx r_6 lat_6 lor_6 laa_6 lbb_6 lnu_6 lwa_6 hzC hzN htN q_6
      have hr := jrunV (p := p) (e := e) (below := below) (R := ({ frames := 7, cells := 0, slots := 0, locals := 153 })) (cells := 0) (slots := 0) (As := []) (rest := []) J hJ hA hZ hP hD hS hq [0, 1] rfl (by decide) gl_LI_51 gi_LI_isOrderRead gsel_LI_isOrderRead gini_LI gc_LI_isOrderRead hd_LI_isOrderRead ⟨rfl, rfl, Nat.le_of_ble_eq_true rfl, Nat.le_of_ble_eq_true rfl⟩ rfl rfl hl.1 rfl rfl (Nat.le_of_ble_eq_true rfl) d_LI_isReadFrom_66 ⟨Nat.zero_le _, Nat.zero_le _⟩
      clear hq
      refine jk_i hr hA hP hD hS [0, 1] [] (WR := []) rfl rfl (by decide) (by decide) [0, 1] (WF := [(l0, .inr (3, [.ref l1, .int lat_6, .int len_3, .long llb_4, .int lor_6, .int laa_6, .int lbb_6, .int lnu_6, .long lwa_6])), (l1, .inl (E.2.1 0, 3000, .inl ltx))]) rfl (by decide) ?_
      clear hP hD hS
      intro H locs hP hD hS
      clear hr
      refine lv_if_eq (tgt := 76) J.1 J.2.1 d_LI_isReadFrom_69 (by decide) (fun c_7 => ?_) (fun c_7 => ?_)
      · replace h := g_t c_7 h
        refine lv_iconst (v := 0) J.1 J.2.1 d_LI_isReadFrom_76 (by decide) ?_
        have h := Option.some.inj h
        have e_0 := (Prod.mk.inj h).1
        have h := (Prod.mk.inj h).2
        have e_1 := (Prod.mk.inj h).1
        have h := (Prod.mk.inj h).2
        have e_2 := (Prod.mk.inj h).1
        have h := (Prod.mk.inj h).2
        have e_3 := (Prod.mk.inj h).1
        have h := (Prod.mk.inj h).2
        have e_4 := (Prod.mk.inj h).1
        have h := (Prod.mk.inj h).2
        have e_5 := (Prod.mk.inj h).1
        have h := (Prod.mk.inj h).2
        have e_6 := (Prod.mk.inj h).1
        have h := (Prod.mk.inj h).2
        have e_7 := (Prod.mk.inj h).1
        have h := (Prod.mk.inj h).2
        have e_8 := (Prod.mk.inj h).1
        have h := (Prod.mk.inj h).2
        rw [← e_0, ← e_1, ← e_2, ← e_3, ← e_4, ← e_5, ← e_6, ← e_7, ← e_8, ← h]
        exact jr_i J hS hP hD rfl d_LI_isReadFrom_77
      · replace h := g_f c_7 h
        refine lv_iconst (v := 1) J.1 J.2.1 d_LI_isReadFrom_72 (by decide) ?_
        refine lv_goto (tgt := 77) J.1 J.2.1 d_LI_isReadFrom_73 (by decide) ?_
        have h := Option.some.inj h
        have e_0 := (Prod.mk.inj h).1
        have h := (Prod.mk.inj h).2
        have e_1 := (Prod.mk.inj h).1
        have h := (Prod.mk.inj h).2
        have e_2 := (Prod.mk.inj h).1
        have h := (Prod.mk.inj h).2
        have e_3 := (Prod.mk.inj h).1
        have h := (Prod.mk.inj h).2
        have e_4 := (Prod.mk.inj h).1
        have h := (Prod.mk.inj h).2
        have e_5 := (Prod.mk.inj h).1
        have h := (Prod.mk.inj h).2
        have e_6 := (Prod.mk.inj h).1
        have h := (Prod.mk.inj h).2
        have e_7 := (Prod.mk.inj h).1
        have h := (Prod.mk.inj h).2
        have e_8 := (Prod.mk.inj h).1
        have h := (Prod.mk.inj h).2
        rw [← e_0, ← e_1, ← e_2, ← e_3, ← e_4, ← e_5, ← e_6, ← e_7, ← e_8, ← h]
        exact jr_i J hS hP hD rfl d_LI_isReadFrom_77
  · replace h := g_t c_2 h
    refine lv_iconst (v := 0) J.1 J.2.1 d_LI_isReadFrom_52 (by decide) ?_
    have h := Option.some.inj h
    have e_0 := (Prod.mk.inj h).1
    have h := (Prod.mk.inj h).2
    have e_1 := (Prod.mk.inj h).1
    have h := (Prod.mk.inj h).2
    have e_2 := (Prod.mk.inj h).1
    have h := (Prod.mk.inj h).2
    have e_3 := (Prod.mk.inj h).1
    have h := (Prod.mk.inj h).2
    have e_4 := (Prod.mk.inj h).1
    have h := (Prod.mk.inj h).2
    have e_5 := (Prod.mk.inj h).1
    have h := (Prod.mk.inj h).2
    have e_6 := (Prod.mk.inj h).1
    have h := (Prod.mk.inj h).2
    have e_7 := (Prod.mk.inj h).1
    have h := (Prod.mk.inj h).2
    have e_8 := (Prod.mk.inj h).1
    have h := (Prod.mk.inj h).2
    rw [← e_0, ← e_1, ← e_2, ← e_3, ← e_4, ← e_5, ← e_6, ← e_7, ← e_8, ← h]
    exact jr_i J hS hP hD rfl d_LI_isReadFrom_53
