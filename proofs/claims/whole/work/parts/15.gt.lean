abbrev CTr (l : Launch) (E : jz_E) (y : MethodName) (cc : ByteArray) (mL : Nat) (rt : Option FieldType) (rm : Room) (av : List Value) (WS : va_W) (sz : Nat) (v : Value) (WS' : va_W) : Prop := Met l y (Cond.code y cc mL rt :: G) rm (va_Pc av (PW E WS sz)) (fun _ st oc t => (oc = .returned (some v) ∧ BW E (va_A WS sz) WS' t) ∧ va_F (va_A WS sz) st t) 0 0 (va_A WS sz)
section JGT
variable {p : Program} {l : Launch} {e : Env} {R : Room} {s : State} {m : MethodId} {args : Array Value} {below : List Frame} {meth : Method} {c : Code} {H : Heap} {locs : List Loc} {cells slots : Nat} {Q : State → Prop}
variable {cc : ByteArray} {nL pc : Nat} {ls : Array Slot} {rest st0 : List Value} {E : jz_E} {A : Nat → Prop} {WS WC WR WC' : va_W} {own : String}
theorem jr_r {v : Value} {WS' : va_W} {rt : FieldType} (J : JC p s m args meth c cc nL (some rt) own) (hrt : (∃ n, rt = .object n) ∨ ∃ t, rt = .array t) (hv : v = .null ∨ ∃ a, v = .ref a) (hS : va_S A s.heap H locs) (hP : va_P E.1 classes WS' H) (hD : va_D A WS') (hdg : decode cc pc = .ok (.areturn, 1)) : W p l e R s m args below meth c H locs cells slots (MQ below (fun _ st oc t => (oc = .returned (some v) ∧ BW E A WS' t) ∧ va_F A st t) args s cells slots A) (F0 m pc ls [v]) := by
  obtain ⟨hx, hb, -, hr, -, -, hlocks⟩ := J
  exact W.aret hx hb hr hrt hv (fun t ht hW => ⟨⟨rfl, by rw [ht]; exact hP, hD⟩, hS.F ht⟩) hS.2.2 hdg
theorem jk_r {v : Value} (hr : va_Run p l e R s m args below meth c H locs cells slots 0 0 (F0 m pc ls st0) rest (fun st oc t => (oc = .returned (some v) ∧ BW E (va_A WC H.size) WC' t) ∧ va_F (va_A WC H.size) st t) (va_A WC H.size)) (hA : ∀ q, s.heap.size ≤ q → A q) (hP : va_P E.1 classes WS H) (hD : va_D A WS) (hS : va_S A s.heap H locs) (isC isR : List Nat) (hC : isC.map (fun i => WS[i]?) = WC.map some) (hR : isR.map (fun i => WS[i]?) = WR.map some) (hn2 : va_nd isR = true) (hdis : ∀ i ∈ isR, i ∉ isC) (isF : List Nat) {WF : va_W} (hF : isF.map (fun i => (WR ++ WC')[i]?) = WF.map some) (hn3 : va_nd isF = true)
    (kk : ∀ (H1 : Heap) (locs1 : List Loc), va_P E.1 classes WF H1 → va_D A WF → va_S A s.heap H1 locs1 → W p l e R s m args below meth c H1 locs1 cells slots Q (F0 m (pc + 3) ls (v :: rest))) : W p l e R s m args below meth c H locs cells slots Q (F0 m pc ls st0) := by
  have hFc := va_free hD hS hA isC hC
  intro T hT X
  obtain ⟨w, st₀, t, T', L, h0, X', hL, e1, e2, ⟨⟨hv, hP1, hD1⟩, hz, hk⟩, st⟩ := hr T hT X
  cases hv
  rw [h0] at hz hk
  rw [← e1] at hP1 hz hk
  obtain ⟨hP2, hD2⟩ := va_join hP hD isC isR hC hR hn2 hdis hk hFc hP1 hD1
  obtain ⟨t2, a1, b1⟩ := kk T'.heap (locs ++ L) (hP2.sub isF (jsub hF)) (hD2.sub isF hn3 hF)
    ⟨Nat.le_trans hS.1 hz, fun q h1 h2 => by rw [hk q (Nat.lt_of_lt_of_le h1 hS.1) (fun z => h2 (hFc q z))]; exact hS.2.1 q h1 h2, fun q hq => by
      rcases List.mem_append.mp hq with h | h
      · exact hS.2.2 q h
      · exact hFc _ (hL q h)⟩ T' rfl X'
  exact ⟨t2, st t2 a1, b1⟩
end JGT

theorem hd_GT_isGuest : y_GT_isGuest.cls ≠ "java/lang/invoke/MethodHandle" ∧ y_GT_isGuest.cls ≠ "java/lang/invoke/VarHandle" ∧ (parseMethodDescriptor y_GT_isGuest.desc).map (fun d => d.parameters.length) = some 1 := by decide +kernel
def f_GT_isGuest (p0 : Int32) : Option (Int32) := (if p0 < (0 : Int32) then (some 0) else (if (3 : Int32) ≤ p0 then (some 0) else (some 1)))
set_option maxHeartbeats 4000000 in
set_option maxRecDepth 100000 in
theorem ct_GT_isGuest (l : Launch) (E : jz_E)  (sz : Nat) (p0 : Int32) (o_r : Int32)  (h : f_GT_isGuest p0 = some o_r) : CTi l E y_GT_isGuest c_GT_isGuest 1 (some .boolean) ({ frames := 0, cells := 0, slots := 0, locals := 0 }) [.int p0] [] sz o_r [] := by
  refine jw (by decide +kernel) (Nat.le_of_ble_eq_true rfl) ?_
  intro p e s m below meth c A ls J hJ hAe hsz hA hZ hP hD hl
  rw [← hAe]
  have hS : va_S A s.heap s.heap [] := va_S.rf
  have hl : lv_has ls 1 [(0, .int p0)] := hl
  unfold f_GT_isGuest at h
  refine lv_iload_n J.1 J.2.1 d_GT_isGuest_0 rfl (lv_at hl 0 rfl) ?_
  refine lv_if_lt (tgt := 13) J.1 J.2.1 d_GT_isGuest_1 (by decide) (fun c_1 => ?_) (fun c_1 => ?_)
  · replace h := g_t c_1 h
    refine lv_iconst (v := 0) J.1 J.2.1 d_GT_isGuest_13 (by decide) ?_
    have h := Option.some.inj h
    rw [← h]
    exact jr_i J hS hP hD rfl d_GT_isGuest_14
  · replace h := g_f c_1 h
    refine lv_iload_n J.1 J.2.1 d_GT_isGuest_4 rfl (lv_at hl 0 rfl) ?_
    refine lv_iconst (v := 3) J.1 J.2.1 d_GT_isGuest_5 (by decide) ?_
    refine lv_icmp_ge (tgt := 13) J.1 J.2.1 d_GT_isGuest_6 (by decide) (fun c_2 => ?_) (fun c_2 => ?_)
    · replace h := g_t c_2 h
      refine lv_iconst (v := 0) J.1 J.2.1 d_GT_isGuest_13 (by decide) ?_
      have h := Option.some.inj h
      rw [← h]
      exact jr_i J hS hP hD rfl d_GT_isGuest_14
    · replace h := g_f c_2 h
      refine lv_iconst (v := 1) J.1 J.2.1 d_GT_isGuest_9 (by decide) ?_
      refine lv_goto (tgt := 14) J.1 J.2.1 d_GT_isGuest_10 (by decide) ?_
      have h := Option.some.inj h
      rw [← h]
      exact jr_i J hS hP hD rfl d_GT_isGuest_14

theorem hd_GT_guestAt : y_GT_guestAt.cls ≠ "java/lang/invoke/MethodHandle" ∧ y_GT_guestAt.cls ≠ "java/lang/invoke/VarHandle" ∧ (parseMethodDescriptor y_GT_guestAt.desc).map (fun d => d.parameters.length) = some 1 := by decide +kernel
def f_GT_guestAt (hgs : Nat → Option Nat) (p1 : Int32) : Option Value := (f_GT_isGuest p1).bind fun r => (if r = 0 then some .null else (if ck p1 3 then some (va_rf (hgs p1.toNatClampNeg)) else none))
set_option maxHeartbeats 4000000 in
set_option maxRecDepth 100000 in
theorem ct_GT_guestAt (l : Launch) (E : jz_E) (t0 l1 s0 h2 : Nat) (sz : Nat) (htl hlf hll : Int32) (hgs : Nat → Option Nat) (p1 : Int32) (v : Value) (h : f_GT_guestAt hgs p1 = some v) : CTr l E y_GT_guestAt c_GT_guestAt 2 (some (.object "GuestTower$Guest")) ({ frames := 1, cells := 0, slots := 0, locals := 20 }) [.ref t0, .int p1] [(t0, .inr (5, [.ref l1, .int htl, .ref s0, .ref h2, .int hlf, .int hll])), (h2, .inl (E.2.1 4, 3, .inr (.inr (.inr (.inr hgs)))))] sz v [(t0, .inr (5, [.ref l1, .int htl, .ref s0, .ref h2, .int hlf, .int hll])), (h2, .inl (E.2.1 4, 3, .inr (.inr (.inr (.inr hgs)))))] := by
  refine jw (by decide +kernel) (Nat.le_of_ble_eq_true rfl) ?_
  intro p e s m below meth c A ls J hJ hAe hsz hA hZ hP hD hl
  rw [← hAe]
  have hS : va_S A s.heap s.heap [] := va_S.rf
  have hl : lv_has ls 2 [(0, .ref t0), (1, .int p1)] := hl
  unfold f_GT_guestAt at h
  replace h := g_bd h
  obtain ⟨r_1, q_1, h⟩ := h
  refine lv_iload_n J.1 J.2.1 d_GT_guestAt_0 rfl (lv_at hl 1 rfl) ?_
  have hq := ct_GT_isGuest l E s.heap.size p1 r_1 q_1
  have hr := jrunS (p := p) (e := e) (below := below) (R := ({ frames := 1, cells := 0, slots := 0, locals := 20 })) (cells := 0) (slots := 0) (As := [.int p1]) (rest := []) J hJ hA hZ hP hD hS hq [] rfl (by decide) gl_GT_40 gs_GT_isGuest gini_GT gc_GT_isGuest hd_GT_isGuest ⟨rfl, rfl, Nat.le_of_ble_eq_true rfl, Nat.le_of_ble_eq_true rfl⟩ hl.1 rfl rfl (Nat.le_of_ble_eq_true rfl) d_GT_guestAt_1 ⟨Nat.zero_le _, Nat.zero_le _⟩
  clear hq
  refine jk_i hr hA hP hD hS [] [0, 1] (WR := [(t0, .inr (5, [.ref l1, .int htl, .ref s0, .ref h2, .int hlf, .int hll])), (h2, .inl (E.2.1 4, 3, .inr (.inr (.inr (.inr hgs)))))]) rfl rfl (by decide) (by decide) [0, 1] (WF := [(t0, .inr (5, [.ref l1, .int htl, .ref s0, .ref h2, .int hlf, .int hll])), (h2, .inl (E.2.1 4, 3, .inr (.inr (.inr (.inr hgs)))))]) rfl (by decide) ?_
  clear hP hD hS hr
  intro H locs hP hD hS
  refine lv_if_eq (tgt := 16) J.1 J.2.1 d_GT_guestAt_4 (by decide) (fun c_1 => ?_) (fun c_1 => ?_)
  · replace h := g_t c_1 h
    refine lv_null J.1 J.2.1 d_GT_guestAt_16 ?_
    have h := Option.some.inj h
    rw [← h]
    exact jr_r J (Or.inl ⟨_, rfl⟩) (Or.inl rfl) hS hP hD d_GT_guestAt_17
  · replace h := g_f c_1 h
    replace h := g_ck h
    obtain ⟨k_1, h⟩ := h
    refine lv_aload_n J.1 J.2.1 d_GT_guestAt_7 rfl (lv_at hl 0 rfl) ?_
    refine jg J hJ hP 0 rfl rfl i_GT 3 (by decide) gf_GT_26 rfl d_GT_guestAt_8 ?_
    refine lv_iload_n J.1 J.2.1 d_GT_guestAt_11 rfl (lv_at hl 1 rfl) ?_
    refine va_aldq J.1 J.2.1 hJ.1 hP 1 4 rfl rfl k_1 d_GT_guestAt_12 ?_
    refine lv_goto (tgt := 17) J.1 J.2.1 d_GT_guestAt_13 (by decide) ?_
    have h := Option.some.inj h
    rw [← h]
    refine jr_r J (Or.inl ⟨_, rfl⟩) ?_ hS hP hD d_GT_guestAt_17
    cases hgs p1.toNatClampNeg with
    | none => exact Or.inl rfl
    | some a => exact Or.inr ⟨a, rfl⟩
theorem bz_isTaken {kold kwai : Int32} {ktyp : Nat → Int32} {p1 r : Int32} {w : Int32} {t : Nat → Int32} (h : f_CO_isTaken kold kwai ktyp p1 = some (r, w, t)) : narrow .boolean (.int r) = .int r := by
  unfold f_CO_isTaken at h
  split at h
  · obtain ⟨-, h⟩ := g_ck h
    have h := (Prod.mk.inj (Option.some.inj h)).1
    rw [← h]; rfl
  · have h := (Prod.mk.inj (Option.some.inj h)).1
    rw [← h]; rfl

theorem hd_GT_putOnTape : y_GT_putOnTape.cls ≠ "java/lang/invoke/MethodHandle" ∧ y_GT_putOnTape.cls ≠ "java/lang/invoke/VarHandle" ∧ (parseMethodDescriptor y_GT_putOnTape.desc).map (fun d => d.parameters.length) = some 1 := by decide +kernel
def b_GT_putOnTape_3 : Nat → Int32 → (Nat → Int32) → Int32 → Int32 → Option (Int32 × (Nat → Int32))
  | 0, _, _, _, _ => none
  | n + 1, htl, ltx, x1, x2 => (if x2 < (0 : Int32) then (some (htl, ltx)) else (if ck htl 3000 then b_GT_putOnTape_3 n (htl + 1) (upd ltx htl.toNatClampNeg (((x1.toUInt32 >>> (x2.toUInt32 &&& Int32.toUInt32 31)).toInt32) &&& 255)) x1 (x2 + (-8)) else none))
def f_GT_putOnTape (htl : Int32) (ltx : Nat → Int32) (p1 : Int32) : Option (Int32 × (Nat → Int32)) := b_GT_putOnTape_3 65536 htl ltx p1 24
set_option maxHeartbeats 4000000 in
set_option maxRecDepth 100000 in
theorem kb_GT_putOnTape_3 {p : Program} {l : Launch} {e : Env} {s : State} {m : MethodId} {below : List Frame} {meth : Method} {c : Code} {A : Nat → Prop} {E : jz_E} {h2 l1 s0 t0 : Nat} {p1 : Int32} {o_htl : Int32} {o_ltx : Nat → Int32} (J : JC p s m ([.ref t0, .int p1] : List Value).toArray meth c c_GT_putOnTape 3 none y_GT_putOnTape.cls) (hJ : jE E s) (hA : ∀ q : Nat, s.heap.size ≤ q → A q) (hZ : jz_ok E A s s.heap) : ∀ (n : Nat) (htl : Int32) (hlf : Int32) (hll : Int32) (ltx : Nat → Int32) (x1 : Int32) (x2 : Int32) (H : Heap) (locs : List Loc) (ls : Array Slot), b_GT_putOnTape_3 n htl ltx x1 x2 = some (o_htl, o_ltx) → va_P E.1 classes [(t0, .inr (5, [.ref l1, .int htl, .ref s0, .ref h2, .int hlf, .int hll])), (l1, .inl (E.2.1 0, 3000, .inl ltx))] H → va_D A [(t0, .inr (5, [.ref l1, .int htl, .ref s0, .ref h2, .int hlf, .int hll])), (l1, .inl (E.2.1 0, 3000, .inl ltx))] → va_S A s.heap H locs → lv_has ls 3 [(0, .ref t0), (1, .int x1), (2, .int x2)] → W p l e ({ frames := 0, cells := 0, slots := 0, locals := 0 }) s m ([.ref t0, .int p1] : List Value).toArray below meth c H locs 0 0 (MQ below (va_Qv (fun (u : va_W) => u = [(t0, .inr (5, [.ref l1, .int o_htl, .ref s0, .ref h2, .int hlf, .int hll])), (l1, .inl (E.2.1 0, 3000, .inl o_ltx))]) (BW E A) A) ([.ref t0, .int p1] : List Value).toArray s 0 0 A) (F0 m 3 ls []) := by
  intro n
  induction n with
  | zero => intro htl hlf hll ltx x1 x2 H locs ls h; cases h
  | succ n ih =>
    intro htl hlf hll ltx x1 x2 H locs ls h hP hD hS hl
    rw [b_GT_putOnTape_3] at h
    refine lv_iload_n J.1 J.2.1 d_GT_putOnTape_3 rfl (lv_at hl 2 rfl) ?_
    refine lv_if_lt (tgt := 39) J.1 J.2.1 d_GT_putOnTape_4 (by decide) (fun c_1 => ?_) (fun c_1 => ?_)
    · replace h := g_t c_1 h
      have h := Option.some.inj h
      have e_0 := (Prod.mk.inj h).1
      have h := (Prod.mk.inj h).2
      rw [← e_0, ← h]
      exact jr_v J hS hP hD d_GT_putOnTape_39
    · replace h := g_f c_1 h
      refine lv_aload_n J.1 J.2.1 d_GT_putOnTape_7 rfl (lv_at hl 0 rfl) ?_
      refine jg J hJ hP 0 rfl rfl i_GT 0 (by decide) gf_GT_9 rfl d_GT_putOnTape_8 ?_
      refine lv_aload_n J.1 J.2.1 d_GT_putOnTape_11 rfl (lv_at hl 0 rfl) ?_
      refine jg J hJ hP 0 rfl rfl i_GT 1 (by decide) gf_GT_13 rfl d_GT_putOnTape_12 ?_
      refine lv_iload_n J.1 J.2.1 d_GT_putOnTape_15 rfl (lv_at hl 1 rfl) ?_
      refine lv_iload_n J.1 J.2.1 d_GT_putOnTape_16 rfl (lv_at hl 2 rfl) ?_
      refine lv_iushr J.1 J.2.1 d_GT_putOnTape_17 rfl ?_
      refine lv_sipush (v := 255) J.1 J.2.1 d_GT_putOnTape_18 (by decide) ?_
      refine lv_iand J.1 J.2.1 d_GT_putOnTape_21 ?_
      replace h := g_ck h
      obtain ⟨k_2, h⟩ := h
      refine jsi J hJ hP hD hS 1 rfl k_2 d_GT_putOnTape_22 (WS' := [(t0, .inr (5, [.ref l1, .int htl, .ref s0, .ref h2, .int hlf, .int hll])), (l1, .inl (E.2.1 0, 3000, .inl (upd ltx htl.toNatClampNeg (((x1.toUInt32 >>> (x2.toUInt32 &&& Int32.toUInt32 31)).toInt32) &&& 255))))]) rfl ?_
      clear hP hD hS
      intro H locs hP hD hS
      refine lv_aload_n J.1 J.2.1 d_GT_putOnTape_23 rfl (lv_at hl 0 rfl) ?_
      refine lv_dup J.1 J.2.1 d_GT_putOnTape_24 rfl ?_
      refine jg J hJ hP 0 rfl rfl i_GT 1 (by decide) gf_GT_13 rfl d_GT_putOnTape_25 ?_
      refine lv_iconst (v := 1) J.1 J.2.1 d_GT_putOnTape_28 (by decide) ?_
      refine lv_iadd J.1 J.2.1 d_GT_putOnTape_29 ?_
      refine jp J hJ hP hD hS 0 rfl rfl i_GT t_GT t_GT_ok n_GT 1 (by decide) gf_GT_13 rfl rfl rfl (Nat.le_of_ble_eq_true rfl) d_GT_putOnTape_30 (WS' := [(t0, .inr (5, [.ref l1, .int (htl + 1), .ref s0, .ref h2, .int hlf, .int hll])), (l1, .inl (E.2.1 0, 3000, .inl (upd ltx htl.toNatClampNeg (((x1.toUInt32 >>> (x2.toUInt32 &&& Int32.toUInt32 31)).toInt32) &&& 255))))]) rfl ?_
      clear hP hD hS
      intro H locs hP hD hS
      refine lv_iinc (v := (x2 + (-8))) (lv' := [(2, .int (x2 + (-8))), (0, .ref t0), (1, .int x1)]) J.1 J.2.1 d_GT_putOnTape_33 hl (k := 2) rfl rfl (by decide) rfl ?_
      clear hl
      intro ls hl
      refine lv_goto (tgt := 3) J.1 J.2.1 d_GT_putOnTape_36 (by decide) ?_
      exact ih _ _ _ _ _ _ _ _ _ h hP hD hS (lv_sub hl [1, 2, 0] rfl)
set_option maxHeartbeats 4000000 in
set_option maxRecDepth 100000 in
theorem ct_GT_putOnTape (l : Launch) (E : jz_E) (h2 l1 s0 t0 : Nat) (sz : Nat) (htl : Int32) (hlf : Int32) (hll : Int32) (ltx : Nat → Int32) (p1 : Int32) (o_htl : Int32) (o_ltx : Nat → Int32)  (h : f_GT_putOnTape htl ltx p1 = some (o_htl, o_ltx)) : CTv l E y_GT_putOnTape c_GT_putOnTape 3 none ({ frames := 0, cells := 0, slots := 0, locals := 0 }) [.ref t0, .int p1] [(t0, .inr (5, [.ref l1, .int htl, .ref s0, .ref h2, .int hlf, .int hll])), (l1, .inl (E.2.1 0, 3000, .inl ltx))] sz [(t0, .inr (5, [.ref l1, .int o_htl, .ref s0, .ref h2, .int hlf, .int hll])), (l1, .inl (E.2.1 0, 3000, .inl o_ltx))] := by
  refine jw (by decide +kernel) (Nat.le_of_ble_eq_true rfl) ?_
  intro p e s m below meth c A ls J hJ hAe hsz hA hZ hP hD hl
  rw [← hAe]
  have hS : va_S A s.heap s.heap [] := va_S.rf
  have hl : lv_has ls 3 [(0, .ref t0), (1, .int p1)] := hl
  unfold f_GT_putOnTape at h
  refine lv_bipush (v := 24) J.1 J.2.1 d_GT_putOnTape_0 (by decide) ?_
  refine lv_istore_n (lv' := [(2, .int 24), (0, .ref t0), (1, .int p1)]) J.1 J.2.1 d_GT_putOnTape_2 rfl hl (by decide) rfl ?_
  clear hl
  intro ls hl
  exact kb_GT_putOnTape_3 J hJ hA hZ _ _ _ _ _ _ _ _ _ _ h hP hD hS (lv_sub hl [1, 2, 0] rfl)

theorem hd_GT_feed : y_GT_feed.cls ≠ "java/lang/invoke/MethodHandle" ∧ y_GT_feed.cls ≠ "java/lang/invoke/VarHandle" ∧ (parseMethodDescriptor y_GT_feed.desc).map (fun d => d.parameters.length) = some 5 := by decide +kernel
def f_GT_feed (htl : Int32) (ltx : Nat → Int32) (p1 : Int32) (p2 : Int32) (p3 : Int32) (p4 : Int32) (p5 : Int32) : Option (Int32 × Int32 × (Nat → Int32)) := (if (htl + 20) ≤ (3000 : Int32) then ((f_GT_putOnTape htl ltx p1).bind fun (htl_2, ltx_2) => ((f_GT_putOnTape htl_2 ltx_2 p2).bind fun (htl_3, ltx_3) => ((f_GT_putOnTape htl_3 ltx_3 p3).bind fun (htl_4, ltx_4) => ((f_GT_putOnTape htl_4 ltx_4 p4).bind fun (htl_5, ltx_5) => ((f_GT_putOnTape htl_5 ltx_5 p5).bind fun (htl_6, ltx_6) => (some (htl_6, htl_6, ltx_6))))))) else (some ((-1), htl, ltx)))
set_option maxHeartbeats 4000000 in
set_option maxRecDepth 100000 in
theorem ct_GT_feed (l : Launch) (E : jz_E) (h2 l1 s0 t0 : Nat) (sz : Nat) (htl : Int32) (hlf : Int32) (hll : Int32) (ltx : Nat → Int32) (p1 : Int32) (p2 : Int32) (p3 : Int32) (p4 : Int32) (p5 : Int32) (o_r : Int32) (o_htl : Int32) (o_ltx : Nat → Int32)  (h : f_GT_feed htl ltx p1 p2 p3 p4 p5 = some (o_r, o_htl, o_ltx)) : CTi l E y_GT_feed c_GT_feed 6 (some .int) ({ frames := 1, cells := 0, slots := 0, locals := 22 }) [.ref t0, .int p1, .int p2, .int p3, .int p4, .int p5] [(t0, .inr (5, [.ref l1, .int htl, .ref s0, .ref h2, .int hlf, .int hll])), (l1, .inl (E.2.1 0, 3000, .inl ltx))] sz o_r [(t0, .inr (5, [.ref l1, .int o_htl, .ref s0, .ref h2, .int hlf, .int hll])), (l1, .inl (E.2.1 0, 3000, .inl o_ltx))] := by
  refine jw (by decide +kernel) (Nat.le_of_ble_eq_true rfl) ?_
  intro p e s m below meth c A ls J hJ hAe hsz hA hZ hP hD hl
  rw [← hAe]
  have hS : va_S A s.heap s.heap [] := va_S.rf
  have hl : lv_has ls 6 [(0, .ref t0), (1, .int p1), (2, .int p2), (3, .int p3), (4, .int p4), (5, .int p5)] := hl
  unfold f_GT_feed at h
  refine lv_aload_n J.1 J.2.1 d_GT_feed_0 rfl (lv_at hl 0 rfl) ?_
  refine jg J hJ hP 0 rfl rfl i_GT 1 (by decide) gf_GT_13 rfl d_GT_feed_1 ?_
  refine lv_bipush (v := 20) J.1 J.2.1 d_GT_feed_4 (by decide) ?_
  refine lv_iadd J.1 J.2.1 d_GT_feed_6 ?_
  refine lv_sipush (v := 3000) J.1 J.2.1 d_GT_feed_7 (by decide) ?_
  refine lv_icmp_le (tgt := 15) J.1 J.2.1 d_GT_feed_10 (by decide) (fun c_1 => ?_) (fun c_1 => ?_)
  · replace h := g_t c_1 h
    refine lv_aload_n J.1 J.2.1 d_GT_feed_15 rfl (lv_at hl 0 rfl) ?_
    refine lv_iload_n J.1 J.2.1 d_GT_feed_16 rfl (lv_at hl 1 rfl) ?_
    replace h := g_bd h
    obtain ⟨⟨htl_2, ltx_2⟩, q_2, h⟩ := h
    try dsimp only at h
    have hq := ct_GT_putOnTape l E h2 l1 s0 t0 s.heap.size htl hlf hll ltx p1 htl_2 ltx_2 q_2
    have hr := jrunV (p := p) (e := e) (below := below) (R := ({ frames := 1, cells := 0, slots := 0, locals := 22 })) (cells := 0) (slots := 0) (As := [.int p1]) (rest := []) J hJ hA hZ hP hD hS hq [0, 1] rfl (by decide) gl_GT_36 gi_GT_putOnTape gsel_GT_putOnTape gini_GT gc_GT_putOnTape hd_GT_putOnTape ⟨rfl, rfl, Nat.le_of_ble_eq_true rfl, Nat.le_of_ble_eq_true rfl⟩ rfl rfl hl.1 rfl rfl (Nat.le_of_ble_eq_true rfl) d_GT_feed_17 ⟨Nat.zero_le _, Nat.zero_le _⟩
    clear hq
    refine jk_v hr hA hP hD hS [0, 1] [] (WR := []) rfl rfl (by decide) (by decide) [0, 1] (WF := [(t0, .inr (5, [.ref l1, .int htl_2, .ref s0, .ref h2, .int hlf, .int hll])), (l1, .inl (E.2.1 0, 3000, .inl ltx_2))]) rfl (by decide) ?_
    clear hP hD hS
    intro H locs hP hD hS
    clear hr
    refine lv_aload_n J.1 J.2.1 d_GT_feed_20 rfl (lv_at hl 0 rfl) ?_
    refine lv_iload_n J.1 J.2.1 d_GT_feed_21 rfl (lv_at hl 2 rfl) ?_
    replace h := g_bd h
    obtain ⟨⟨htl_3, ltx_3⟩, q_3, h⟩ := h
    try dsimp only at h
    have hq := ct_GT_putOnTape l E h2 l1 s0 t0 H.size htl_2 hlf hll ltx_2 p2 htl_3 ltx_3 q_3
    have hr := jrunV (p := p) (e := e) (below := below) (R := ({ frames := 1, cells := 0, slots := 0, locals := 22 })) (cells := 0) (slots := 0) (As := [.int p2]) (rest := []) J hJ hA hZ hP hD hS hq [0, 1] rfl (by decide) gl_GT_36 gi_GT_putOnTape gsel_GT_putOnTape gini_GT gc_GT_putOnTape hd_GT_putOnTape ⟨rfl, rfl, Nat.le_of_ble_eq_true rfl, Nat.le_of_ble_eq_true rfl⟩ rfl rfl hl.1 rfl rfl (Nat.le_of_ble_eq_true rfl) d_GT_feed_22 ⟨Nat.zero_le _, Nat.zero_le _⟩
    clear hq
    refine jk_v hr hA hP hD hS [0, 1] [] (WR := []) rfl rfl (by decide) (by decide) [0, 1] (WF := [(t0, .inr (5, [.ref l1, .int htl_3, .ref s0, .ref h2, .int hlf, .int hll])), (l1, .inl (E.2.1 0, 3000, .inl ltx_3))]) rfl (by decide) ?_
    clear hP hD hS
    intro H locs hP hD hS
    clear hr
    refine lv_aload_n J.1 J.2.1 d_GT_feed_25 rfl (lv_at hl 0 rfl) ?_
    refine lv_iload_n J.1 J.2.1 d_GT_feed_26 rfl (lv_at hl 3 rfl) ?_
    replace h := g_bd h
    obtain ⟨⟨htl_4, ltx_4⟩, q_4, h⟩ := h
    try dsimp only at h
    have hq := ct_GT_putOnTape l E h2 l1 s0 t0 H.size htl_3 hlf hll ltx_3 p3 htl_4 ltx_4 q_4
    have hr := jrunV (p := p) (e := e) (below := below) (R := ({ frames := 1, cells := 0, slots := 0, locals := 22 })) (cells := 0) (slots := 0) (As := [.int p3]) (rest := []) J hJ hA hZ hP hD hS hq [0, 1] rfl (by decide) gl_GT_36 gi_GT_putOnTape gsel_GT_putOnTape gini_GT gc_GT_putOnTape hd_GT_putOnTape ⟨rfl, rfl, Nat.le_of_ble_eq_true rfl, Nat.le_of_ble_eq_true rfl⟩ rfl rfl hl.1 rfl rfl (Nat.le_of_ble_eq_true rfl) d_GT_feed_27 ⟨Nat.zero_le _, Nat.zero_le _⟩
    clear hq
    refine jk_v hr hA hP hD hS [0, 1] [] (WR := []) rfl rfl (by decide) (by decide) [0, 1] (WF := [(t0, .inr (5, [.ref l1, .int htl_4, .ref s0, .ref h2, .int hlf, .int hll])), (l1, .inl (E.2.1 0, 3000, .inl ltx_4))]) rfl (by decide) ?_
    clear hP hD hS
    intro H locs hP hD hS
    clear hr
    refine lv_aload_n J.1 J.2.1 d_GT_feed_30 rfl (lv_at hl 0 rfl) ?_
    refine lv_iload J.1 J.2.1 d_GT_feed_31 (lv_at hl 4 rfl) ?_
    replace h := g_bd h
    obtain ⟨⟨htl_5, ltx_5⟩, q_5, h⟩ := h
    try dsimp only at h
    have hq := ct_GT_putOnTape l E h2 l1 s0 t0 H.size htl_4 hlf hll ltx_4 p4 htl_5 ltx_5 q_5
    have hr := jrunV (p := p) (e := e) (below := below) (R := ({ frames := 1, cells := 0, slots := 0, locals := 22 })) (cells := 0) (slots := 0) (As := [.int p4]) (rest := []) J hJ hA hZ hP hD hS hq [0, 1] rfl (by decide) gl_GT_36 gi_GT_putOnTape gsel_GT_putOnTape gini_GT gc_GT_putOnTape hd_GT_putOnTape ⟨rfl, rfl, Nat.le_of_ble_eq_true rfl, Nat.le_of_ble_eq_true rfl⟩ rfl rfl hl.1 rfl rfl (Nat.le_of_ble_eq_true rfl) d_GT_feed_33 ⟨Nat.zero_le _, Nat.zero_le _⟩
    clear hq
    refine jk_v hr hA hP hD hS [0, 1] [] (WR := []) rfl rfl (by decide) (by decide) [0, 1] (WF := [(t0, .inr (5, [.ref l1, .int htl_5, .ref s0, .ref h2, .int hlf, .int hll])), (l1, .inl (E.2.1 0, 3000, .inl ltx_5))]) rfl (by decide) ?_
    clear hP hD hS
    intro H locs hP hD hS
    clear hr
    refine lv_aload_n J.1 J.2.1 d_GT_feed_36 rfl (lv_at hl 0 rfl) ?_
    refine lv_iload J.1 J.2.1 d_GT_feed_37 (lv_at hl 5 rfl) ?_
    replace h := g_bd h
    obtain ⟨⟨htl_6, ltx_6⟩, q_6, h⟩ := h
    try dsimp only at h
    have hq := ct_GT_putOnTape l E h2 l1 s0 t0 H.size htl_5 hlf hll ltx_5 p5 htl_6 ltx_6 q_6
    have hr := jrunV (p := p) (e := e) (below := below) (R := ({ frames := 1, cells := 0, slots := 0, locals := 22 })) (cells := 0) (slots := 0) (As := [.int p5]) (rest := []) J hJ hA hZ hP hD hS hq [0, 1] rfl (by decide) gl_GT_36 gi_GT_putOnTape gsel_GT_putOnTape gini_GT gc_GT_putOnTape hd_GT_putOnTape ⟨rfl, rfl, Nat.le_of_ble_eq_true rfl, Nat.le_of_ble_eq_true rfl⟩ rfl rfl hl.1 rfl rfl (Nat.le_of_ble_eq_true rfl) d_GT_feed_39 ⟨Nat.zero_le _, Nat.zero_le _⟩
    clear hq
    refine jk_v hr hA hP hD hS [0, 1] [] (WR := []) rfl rfl (by decide) (by decide) [0, 1] (WF := [(t0, .inr (5, [.ref l1, .int htl_6, .ref s0, .ref h2, .int hlf, .int hll])), (l1, .inl (E.2.1 0, 3000, .inl ltx_6))]) rfl (by decide) ?_
    clear hP hD hS
    intro H locs hP hD hS
    clear hr
    refine lv_aload_n J.1 J.2.1 d_GT_feed_42 rfl (lv_at hl 0 rfl) ?_
    refine jg J hJ hP 0 rfl rfl i_GT 1 (by decide) gf_GT_13 rfl d_GT_feed_43 ?_
    have h := Option.some.inj h
    have e_0 := (Prod.mk.inj h).1
    have h := (Prod.mk.inj h).2
    have e_1 := (Prod.mk.inj h).1
    have h := (Prod.mk.inj h).2
    rw [← e_0, ← e_1, ← h]
    exact jr_i J hS hP hD rfl d_GT_feed_46
  · replace h := g_f c_1 h
    refine lv_iconst (v := (-1)) J.1 J.2.1 d_GT_feed_13 (by decide) ?_
    have h := Option.some.inj h
    have e_0 := (Prod.mk.inj h).1
    have h := (Prod.mk.inj h).2
    have e_1 := (Prod.mk.inj h).1
    have h := (Prod.mk.inj h).2
    rw [← e_0, ← e_1, ← h]
    exact jr_i J hS hP hD rfl d_GT_feed_14

theorem hd_GT_fault : y_GT_fault.cls ≠ "java/lang/invoke/MethodHandle" ∧ y_GT_fault.cls ≠ "java/lang/invoke/VarHandle" ∧ (parseMethodDescriptor y_GT_fault.desc).map (fun d => d.parameters.length) = some 1 := by decide +kernel
def f_GT_fault (hlf : Int32) (hll : Int32) (p1 : Int32) : Option (Int32) := (if (p1) = 0 then (some hlf) else (if (p1) = 1 then (some hll) else (some (-1))))
set_option maxHeartbeats 4000000 in
set_option maxRecDepth 100000 in
theorem ct_GT_fault (l : Launch) (E : jz_E) (h2 l1 s0 t0 : Nat) (sz : Nat) (htl : Int32) (hlf : Int32) (hll : Int32) (p1 : Int32) (o_r : Int32)  (h : f_GT_fault hlf hll p1 = some o_r) : CTi l E y_GT_fault c_GT_fault 2 (some .int) ({ frames := 0, cells := 0, slots := 0, locals := 0 }) [.ref t0, .int p1] [(t0, .inr (5, [.ref l1, .int htl, .ref s0, .ref h2, .int hlf, .int hll]))] sz o_r [(t0, .inr (5, [.ref l1, .int htl, .ref s0, .ref h2, .int hlf, .int hll]))] := by
  refine jw (by decide +kernel) (Nat.le_of_ble_eq_true rfl) ?_
  intro p e s m below meth c A ls J hJ hAe hsz hA hZ hP hD hl
  rw [← hAe]
  have hS : va_S A s.heap s.heap [] := va_S.rf
  have hl : lv_has ls 2 [(0, .ref t0), (1, .int p1)] := hl
  unfold f_GT_fault at h
  refine lv_iload_n J.1 J.2.1 d_GT_fault_0 rfl (lv_at hl 1 rfl) ?_
  by_cases c_1 : (p1) = 0
  · replace h := g_t c_1 h
    refine lv_lookup (off := 27) (tgt := 28) J.1 J.2.1 d_GT_fault_1 (by decide) (by rw [c_1]; rfl) (by decide) ?_
    refine lv_aload_n J.1 J.2.1 d_GT_fault_28 rfl (lv_at hl 0 rfl) ?_
    refine jg J hJ hP 0 rfl rfl i_GT 4 (by decide) gf_GT_30 rfl d_GT_fault_29 ?_
    have h := Option.some.inj h
    rw [← h]
    exact jr_i J hS hP hD rfl d_GT_fault_32
  replace h := g_f c_1 h
  by_cases c_2 : (p1) = 1
  · replace h := g_t c_2 h
    refine lv_lookup (off := 32) (tgt := 33) J.1 J.2.1 d_GT_fault_1 (by decide) (by rw [c_2]; rfl) (by decide) ?_
    refine lv_aload_n J.1 J.2.1 d_GT_fault_33 rfl (lv_at hl 0 rfl) ?_
    refine jg J hJ hP 0 rfl rfl i_GT 5 (by decide) gf_GT_33 rfl d_GT_fault_34 ?_
    have h := Option.some.inj h
    rw [← h]
    exact jr_i J hS hP hD rfl d_GT_fault_37
  replace h := g_f c_2 h
  refine lv_lookup (off := 37) (tgt := 38) J.1 J.2.1 d_GT_fault_1 (by decide) (by show Op.lookupswitch.offset [(0, 27), (1, 32)] (37) _ = _; rw [lv_osw c_1 (by decide)]; rw [lv_osw c_2 (by decide)]; rfl) (by decide) ?_
  refine lv_iconst (v := (-1)) J.1 J.2.1 d_GT_fault_38 (by decide) ?_
  have h := Option.some.inj h
  rw [← h]
  exact jr_i J hS hP hD rfl d_GT_fault_39

def f_GT_runn (p1 : Int32) (p2 : Int32) : Option (Int32) := (some (-1))
set_option maxHeartbeats 4000000 in
set_option maxRecDepth 100000 in
theorem ct_GT_runn (l : Launch) (E : jz_E) (h2 l1 s0 t0 : Nat) (sz : Nat) (htl : Int32) (hlf : Int32) (hll : Int32) (hgs : Nat → Option Nat) (p1 : Int32) (p2 : Int32) (o_r : Int32)  (hg : f_GT_guestAt hgs p1 = some .null) (h : f_GT_runn p1 p2 = some o_r) : CTi l E y_GT_run c_GT_run 4 (some .int) ({ frames := 2, cells := 0, slots := 0, locals := 41 }) [.ref t0, .int p1, .int p2] [(t0, .inr (5, [.ref l1, .int htl, .ref s0, .ref h2, .int hlf, .int hll])), (h2, .inl (E.2.1 4, 3, .inr (.inr (.inr (.inr hgs)))))] sz o_r [(t0, .inr (5, [.ref l1, .int htl, .ref s0, .ref h2, .int hlf, .int hll])), (h2, .inl (E.2.1 4, 3, .inr (.inr (.inr (.inr hgs)))))] := by
  refine jw (by decide +kernel) (Nat.le_of_ble_eq_true rfl) ?_
  intro p e s m below meth c A ls J hJ hAe hsz hA hZ hP hD hl
  rw [← hAe]
  have hS : va_S A s.heap s.heap [] := va_S.rf
  have hl : lv_has ls 4 [(0, .ref t0), (1, .int p1), (2, .int p2)] := hl
  unfold f_GT_runn at h
  refine lv_aload_n J.1 J.2.1 d_GT_run_0 rfl (lv_at hl 0 rfl) ?_
  refine lv_iload_n J.1 J.2.1 d_GT_run_1 rfl (lv_at hl 1 rfl) ?_
  have hq := ct_GT_guestAt l E t0 l1 s0 h2 s.heap.size htl hlf hll hgs p1 (.null) hg
  have hr := jrunV (p := p) (e := e) (below := below) (R := ({ frames := 2, cells := 0, slots := 0, locals := 41 })) (cells := 0) (slots := 0) (As := [.int p1]) (rest := []) J hJ hA hZ hP hD hS hq [0, 1] rfl (by decide) gl_GT_65 gi_GT_guestAt gsel_GT_guestAt gini_GT gc_GT_guestAt hd_GT_guestAt ⟨rfl, rfl, Nat.le_of_ble_eq_true rfl, Nat.le_of_ble_eq_true rfl⟩ rfl rfl hl.1 rfl rfl (Nat.le_of_ble_eq_true rfl) d_GT_run_2 ⟨Nat.zero_le _, Nat.zero_le _⟩
  clear hq
  refine jk_r hr hA hP hD hS [0, 1] [] (WR := []) rfl rfl (by decide) (by decide) [0, 1] (WF := [(t0, .inr (5, [.ref l1, .int htl, .ref s0, .ref h2, .int hlf, .int hll])), (h2, .inl (E.2.1 4, 3, .inr (.inr (.inr (.inr hgs)))))]) rfl (by decide) ?_
  clear hP hD hS
  intro H locs hP hD hS
  clear hr
  refine lv_astore_nN (lv' := [(3, .null), (0, .ref t0), (1, .int p1), (2, .int p2)]) J.1 J.2.1 d_GT_run_5 rfl hl (by decide) rfl ?_
  clear hl
  intro ls hl
  refine lv_aload_nN J.1 J.2.1 d_GT_run_6 rfl (lv_at hl 0 rfl) ?_
  refine lv_ifnullN (tgt := 21) J.1 J.2.1 d_GT_run_7 (by decide) ?_
  refine lv_iconst (v := (-1)) J.1 J.2.1 d_GT_run_21 (by decide) ?_
  have h := Option.some.inj h
  rw [← h]
  exact jr_i J hS hP hD rfl d_GT_run_22

def f_GT_rung (gdp : Int32) (gsp : Int32) (vsz : Int32) (vmd : Int32) (vpc : Int32) (vba : Int32) (vbo : Int32) (vre : Int32) (vti : Int32) (vro : Int32) (vha : Int32) (vmem : Nat → Int32) (vreg : Nat → Int32) (vblk : Nat → Int32) (kold : Int32) (kwai : Int32) (ksnt : Int32) (ktyp : Nat → Int32) (ksen : Nat → Int32) (p1 : Int32) (p2 : Int32) : Option (Int32 × Int32 × Int32 × Int32 × Int32 × Int32 × Int32 × Int32 × Int32 × Int32 × (Nat → Int32) × (Nat → Int32) × (Nat → Int32) × Int32 × Int32 × Int32 × (Nat → Int32)) := (if p2 < (0 : Int32) then (some ((-1), gsp, vmd, vpc, vba, vbo, vre, vti, vro, vha, vmem, vreg, vblk, kold, kwai, ksnt, ksen)) else (if p2 ≤ (5000 : Int32) then ((f_GU_advance gdp gsp vsz vmd vpc vba vbo vre vti vro vha vmem vreg vblk kold kwai ksnt ktyp ksen p2).bind fun (r_3, gsp_3, vmd_3, vpc_3, vba_3, vbo_3, vre_3, vti_3, vro_3, vha_3, vmem_3, vreg_3, vblk_3, kold_3, kwai_3, ksnt_3, ksen_3) => (some (r_3, gsp_3, vmd_3, vpc_3, vba_3, vbo_3, vre_3, vti_3, vro_3, vha_3, vmem_3, vreg_3, vblk_3, kold_3, kwai_3, ksnt_3, ksen_3))) else (some ((-1), gsp, vmd, vpc, vba, vbo, vre, vti, vro, vha, vmem, vreg, vblk, kold, kwai, ksnt, ksen))))
set_option maxHeartbeats 4000000 in
set_option maxRecDepth 100000 in
theorem ct_GT_rung (l : Launch) (E : jz_E) (a0 a1 a2 a3 g0 h2 k0 k1 k2 l1 s0 t0 : Nat) (sz : Nat) (htl : Int32) (hlf : Int32) (hll : Int32) (hgs : Nat → Option Nat) (gsz : Int32) (gdp : Int32) (gst : Int32) (gsp : Int32) (vsz : Int32) (vmd : Int32) (vpc : Int32) (vba : Int32) (vbo : Int32) (vre : Int32) (vti : Int32) (vro : Int32) (vha : Int32) (vmem : Nat → Int32) (vreg : Nat → Int32) (vblk : Nat → Int32) (kold : Int32) (kwai : Int32) (ksnt : Int32) (ktyp : Nat → Int32) (ksen : Nat → Int32) (p1 : Int32) (p2 : Int32) (o_r : Int32) (o_gsp : Int32) (o_vmd : Int32) (o_vpc : Int32) (o_vba : Int32) (o_vbo : Int32) (o_vre : Int32) (o_vti : Int32) (o_vro : Int32) (o_vha : Int32) (o_vmem : Nat → Int32) (o_vreg : Nat → Int32) (o_vblk : Nat → Int32) (o_kold : Int32) (o_kwai : Int32) (o_ksnt : Int32) (o_ksen : Nat → Int32)  (hg : f_GT_guestAt hgs p1 = some (.ref g0)) (h : f_GT_rung gdp gsp vsz vmd vpc vba vbo vre vti vro vha vmem vreg vblk kold kwai ksnt ktyp ksen p1 p2 = some (o_r, o_gsp, o_vmd, o_vpc, o_vba, o_vbo, o_vre, o_vti, o_vro, o_vha, o_vmem, o_vreg, o_vblk, o_kold, o_kwai, o_ksnt, o_ksen)) : CTi l E y_GT_run c_GT_run 4 (some .int) ({ frames := 6, cells := 0, slots := 0, locals := 197 }) [.ref t0, .int p1, .int p2] [(t0, .inr (5, [.ref l1, .int htl, .ref s0, .ref h2, .int hlf, .int hll])), (h2, .inl (E.2.1 4, 3, .inr (.inr (.inr (.inr hgs))))), (g0, .inr (2, [.ref a0, .int gsz, .int gdp, .int gst, .int gsp])), (a0, .inr (0, [.ref a1, .ref a2, .ref a3, .ref k0, .int vsz, .int vmd, .int vpc, .int vba, .int vbo, .int vre, .int vti, .int vro, .int vha])), (a1, .inl (E.2.1 0, 1844, .inl vmem)), (a2, .inl (E.2.1 0, 8, .inl vreg)), (a3, .inl (E.2.1 0, 128, .inl vblk)), (k0, .inr (1, [.ref k1, .ref k2, .int kold, .int kwai, .int ksnt])), (k1, .inl (E.2.1 0, 100, .inl ktyp)), (k2, .inl (E.2.1 0, 500, .inl ksen))] sz o_r [(t0, .inr (5, [.ref l1, .int htl, .ref s0, .ref h2, .int hlf, .int hll])), (h2, .inl (E.2.1 4, 3, .inr (.inr (.inr (.inr hgs))))), (g0, .inr (2, [.ref a0, .int gsz, .int gdp, .int gst, .int o_gsp])), (a0, .inr (0, [.ref a1, .ref a2, .ref a3, .ref k0, .int vsz, .int o_vmd, .int o_vpc, .int o_vba, .int o_vbo, .int o_vre, .int o_vti, .int o_vro, .int o_vha])), (a1, .inl (E.2.1 0, 1844, .inl o_vmem)), (a2, .inl (E.2.1 0, 8, .inl o_vreg)), (a3, .inl (E.2.1 0, 128, .inl o_vblk)), (k0, .inr (1, [.ref k1, .ref k2, .int o_kold, .int o_kwai, .int o_ksnt])), (k1, .inl (E.2.1 0, 100, .inl ktyp)), (k2, .inl (E.2.1 0, 500, .inl o_ksen))] := by
  refine jw (by decide +kernel) (Nat.le_of_ble_eq_true rfl) ?_
  intro p e s m below meth c A ls J hJ hAe hsz hA hZ hP hD hl
  rw [← hAe]
  have hS : va_S A s.heap s.heap [] := va_S.rf
  have hl : lv_has ls 4 [(0, .ref t0), (1, .int p1), (2, .int p2)] := hl
  unfold f_GT_rung at h
  refine lv_aload_n J.1 J.2.1 d_GT_run_0 rfl (lv_at hl 0 rfl) ?_
  refine lv_iload_n J.1 J.2.1 d_GT_run_1 rfl (lv_at hl 1 rfl) ?_
  have hq := ct_GT_guestAt l E t0 l1 s0 h2 s.heap.size htl hlf hll hgs p1 (.ref g0) hg
  have hr := jrunV (p := p) (e := e) (below := below) (R := ({ frames := 6, cells := 0, slots := 0, locals := 197 })) (cells := 0) (slots := 0) (As := [.int p1]) (rest := []) J hJ hA hZ hP hD hS hq [0, 1] rfl (by decide) gl_GT_65 gi_GT_guestAt gsel_GT_guestAt gini_GT gc_GT_guestAt hd_GT_guestAt ⟨rfl, rfl, Nat.le_of_ble_eq_true rfl, Nat.le_of_ble_eq_true rfl⟩ rfl rfl hl.1 rfl rfl (Nat.le_of_ble_eq_true rfl) d_GT_run_2 ⟨Nat.zero_le _, Nat.zero_le _⟩
  clear hq
  refine jk_r hr hA hP hD hS [0, 1] [2, 3, 4, 5, 6, 7, 8, 9] (WR := [(g0, .inr (2, [.ref a0, .int gsz, .int gdp, .int gst, .int gsp])), (a0, .inr (0, [.ref a1, .ref a2, .ref a3, .ref k0, .int vsz, .int vmd, .int vpc, .int vba, .int vbo, .int vre, .int vti, .int vro, .int vha])), (a1, .inl (E.2.1 0, 1844, .inl vmem)), (a2, .inl (E.2.1 0, 8, .inl vreg)), (a3, .inl (E.2.1 0, 128, .inl vblk)), (k0, .inr (1, [.ref k1, .ref k2, .int kold, .int kwai, .int ksnt])), (k1, .inl (E.2.1 0, 100, .inl ktyp)), (k2, .inl (E.2.1 0, 500, .inl ksen))]) rfl rfl (by decide) (by decide) [8, 9, 0, 1, 2, 3, 4, 5, 6, 7] (WF := [(t0, .inr (5, [.ref l1, .int htl, .ref s0, .ref h2, .int hlf, .int hll])), (h2, .inl (E.2.1 4, 3, .inr (.inr (.inr (.inr hgs))))), (g0, .inr (2, [.ref a0, .int gsz, .int gdp, .int gst, .int gsp])), (a0, .inr (0, [.ref a1, .ref a2, .ref a3, .ref k0, .int vsz, .int vmd, .int vpc, .int vba, .int vbo, .int vre, .int vti, .int vro, .int vha])), (a1, .inl (E.2.1 0, 1844, .inl vmem)), (a2, .inl (E.2.1 0, 8, .inl vreg)), (a3, .inl (E.2.1 0, 128, .inl vblk)), (k0, .inr (1, [.ref k1, .ref k2, .int kold, .int kwai, .int ksnt])), (k1, .inl (E.2.1 0, 100, .inl ktyp)), (k2, .inl (E.2.1 0, 500, .inl ksen))]) rfl (by decide) ?_
  clear hP hD hS
  intro H locs hP hD hS
  clear hr
  refine lv_astore_n (lv' := [(3, .ref g0), (0, .ref t0), (1, .int p1), (2, .int p2)]) J.1 J.2.1 d_GT_run_5 rfl hl (by decide) rfl ?_
  clear hl
  intro ls hl
  refine lv_aload_n J.1 J.2.1 d_GT_run_6 rfl (lv_at hl 0 rfl) ?_
  refine lv_ifnull J.1 J.2.1 d_GT_run_7 ?_
  refine lv_iload_n J.1 J.2.1 d_GT_run_10 rfl (lv_at hl 3 rfl) ?_
  refine lv_if_lt (tgt := 21) J.1 J.2.1 d_GT_run_11 (by decide) (fun c_1 => ?_) (fun c_1 => ?_)
  · replace h := g_t c_1 h
    refine lv_iconst (v := (-1)) J.1 J.2.1 d_GT_run_21 (by decide) ?_
    have h := Option.some.inj h
    have e_0 := (Prod.mk.inj h).1
    have h := (Prod.mk.inj h).2
    have e_1 := (Prod.mk.inj h).1
    have h := (Prod.mk.inj h).2
    have e_2 := (Prod.mk.inj h).1
    have h := (Prod.mk.inj h).2
    have e_3 := (Prod.mk.inj h).1
    have h := (Prod.mk.inj h).2
    have e_4 := (Prod.mk.inj h).1
    have h := (Prod.mk.inj h).2
    have e_5 := (Prod.mk.inj h).1
    have h := (Prod.mk.inj h).2
    have e_6 := (Prod.mk.inj h).1
    have h := (Prod.mk.inj h).2
    have e_7 := (Prod.mk.inj h).1
    have h := (Prod.mk.inj h).2
    have e_8 := (Prod.mk.inj h).1
    have h := (Prod.mk.inj h).2
    have e_9 := (Prod.mk.inj h).1
    have h := (Prod.mk.inj h).2
    have e_10 := (Prod.mk.inj h).1
    have h := (Prod.mk.inj h).2
    have e_11 := (Prod.mk.inj h).1
    have h := (Prod.mk.inj h).2
    have e_12 := (Prod.mk.inj h).1
    have h := (Prod.mk.inj h).2
    have e_13 := (Prod.mk.inj h).1
    have h := (Prod.mk.inj h).2
    have e_14 := (Prod.mk.inj h).1
    have h := (Prod.mk.inj h).2
    have e_15 := (Prod.mk.inj h).1
    have h := (Prod.mk.inj h).2
    rw [← e_0, ← e_1, ← e_2, ← e_3, ← e_4, ← e_5, ← e_6, ← e_7, ← e_8, ← e_9, ← e_10, ← e_11, ← e_12, ← e_13, ← e_14, ← e_15, ← h]
    exact jr_i J hS hP hD rfl d_GT_run_22
  · replace h := g_f c_1 h
    refine lv_iload_n J.1 J.2.1 d_GT_run_14 rfl (lv_at hl 3 rfl) ?_
    refine lv_sipush (v := 5000) J.1 J.2.1 d_GT_run_15 (by decide) ?_
    refine lv_icmp_le (tgt := 23) J.1 J.2.1 d_GT_run_18 (by decide) (fun c_2 => ?_) (fun c_2 => ?_)
    · replace h := g_t c_2 h
      refine lv_aload_n J.1 J.2.1 d_GT_run_23 rfl (lv_at hl 0 rfl) ?_
      refine lv_iload_n J.1 J.2.1 d_GT_run_24 rfl (lv_at hl 3 rfl) ?_
      replace h := g_bd h
      obtain ⟨⟨r_3, gsp_3, vmd_3, vpc_3, vba_3, vbo_3, vre_3, vti_3, vro_3, vha_3, vmem_3, vreg_3, vblk_3, kold_3, kwai_3, ksnt_3, ksen_3⟩, q_3, h⟩ := h
      try dsimp only at h
      have hq := ct_GU_advance l E a0 a1 a2 a3 g0 k0 k1 k2 H.size gsz gdp gst gsp vsz vmd vpc vba vbo vre vti vro vha vmem vreg vblk kold kwai ksnt ktyp ksen p2 r_3 gsp_3 vmd_3 vpc_3 vba_3 vbo_3 vre_3 vti_3 vro_3 vha_3 vmem_3 vreg_3 vblk_3 kold_3 kwai_3 ksnt_3 ksen_3 q_3
      have hr := jrunV (p := p) (e := e) (below := below) (R := ({ frames := 6, cells := 0, slots := 0, locals := 197 })) (cells := 0) (slots := 0) (As := [.int p2]) (rest := []) J hJ hA hZ hP hD hS hq [2, 3, 4, 5, 6, 7, 8, 9] rfl (by decide) gl_GT_69 gi_GU_advance gsel_GU_advance gini_GU gc_GU_advance hd_GU_advance ⟨rfl, rfl, Nat.le_of_ble_eq_true rfl, Nat.le_of_ble_eq_true rfl⟩ rfl rfl hl.1 rfl rfl (Nat.le_of_ble_eq_true rfl) d_GT_run_25 ⟨Nat.zero_le _, Nat.zero_le _⟩
      clear hq
      refine jk_i hr hA hP hD hS [2, 3, 4, 5, 6, 7, 8, 9] [0, 1] (WR := [(t0, .inr (5, [.ref l1, .int htl, .ref s0, .ref h2, .int hlf, .int hll])), (h2, .inl (E.2.1 4, 3, .inr (.inr (.inr (.inr hgs)))))]) rfl rfl (by decide) (by decide) [0, 1, 2, 3, 4, 5, 6, 7, 8, 9] (WF := [(t0, .inr (5, [.ref l1, .int htl, .ref s0, .ref h2, .int hlf, .int hll])), (h2, .inl (E.2.1 4, 3, .inr (.inr (.inr (.inr hgs))))), (g0, .inr (2, [.ref a0, .int gsz, .int gdp, .int gst, .int gsp_3])), (a0, .inr (0, [.ref a1, .ref a2, .ref a3, .ref k0, .int vsz, .int vmd_3, .int vpc_3, .int vba_3, .int vbo_3, .int vre_3, .int vti_3, .int vro_3, .int vha_3])), (a1, .inl (E.2.1 0, 1844, .inl vmem_3)), (a2, .inl (E.2.1 0, 8, .inl vreg_3)), (a3, .inl (E.2.1 0, 128, .inl vblk_3)), (k0, .inr (1, [.ref k1, .ref k2, .int kold_3, .int kwai_3, .int ksnt_3])), (k1, .inl (E.2.1 0, 100, .inl ktyp)), (k2, .inl (E.2.1 0, 500, .inl ksen_3))]) rfl (by decide) ?_
      clear hP hD hS
      intro H locs hP hD hS
      clear hr
      have h := Option.some.inj h
      have e_0 := (Prod.mk.inj h).1
      have h := (Prod.mk.inj h).2
      have e_1 := (Prod.mk.inj h).1
      have h := (Prod.mk.inj h).2
      have e_2 := (Prod.mk.inj h).1
      have h := (Prod.mk.inj h).2
      have e_3 := (Prod.mk.inj h).1
      have h := (Prod.mk.inj h).2
      have e_4 := (Prod.mk.inj h).1
      have h := (Prod.mk.inj h).2
      have e_5 := (Prod.mk.inj h).1
      have h := (Prod.mk.inj h).2
      have e_6 := (Prod.mk.inj h).1
      have h := (Prod.mk.inj h).2
      have e_7 := (Prod.mk.inj h).1
      have h := (Prod.mk.inj h).2
      have e_8 := (Prod.mk.inj h).1
      have h := (Prod.mk.inj h).2
      have e_9 := (Prod.mk.inj h).1
      have h := (Prod.mk.inj h).2
      have e_10 := (Prod.mk.inj h).1
      have h := (Prod.mk.inj h).2
      have e_11 := (Prod.mk.inj h).1
      have h := (Prod.mk.inj h).2
      have e_12 := (Prod.mk.inj h).1
      have h := (Prod.mk.inj h).2
      have e_13 := (Prod.mk.inj h).1
      have h := (Prod.mk.inj h).2
      have e_14 := (Prod.mk.inj h).1
      have h := (Prod.mk.inj h).2
      have e_15 := (Prod.mk.inj h).1
      have h := (Prod.mk.inj h).2
      rw [← e_0, ← e_1, ← e_2, ← e_3, ← e_4, ← e_5, ← e_6, ← e_7, ← e_8, ← e_9, ← e_10, ← e_11, ← e_12, ← e_13, ← e_14, ← e_15, ← h]
      exact jr_i J hS hP hD rfl d_GT_run_28
    · replace h := g_f c_2 h
      refine lv_iconst (v := (-1)) J.1 J.2.1 d_GT_run_21 (by decide) ?_
      have h := Option.some.inj h
      have e_0 := (Prod.mk.inj h).1
      have h := (Prod.mk.inj h).2
      have e_1 := (Prod.mk.inj h).1
      have h := (Prod.mk.inj h).2
      have e_2 := (Prod.mk.inj h).1
      have h := (Prod.mk.inj h).2
      have e_3 := (Prod.mk.inj h).1
      have h := (Prod.mk.inj h).2
      have e_4 := (Prod.mk.inj h).1
      have h := (Prod.mk.inj h).2
      have e_5 := (Prod.mk.inj h).1
      have h := (Prod.mk.inj h).2
      have e_6 := (Prod.mk.inj h).1
      have h := (Prod.mk.inj h).2
      have e_7 := (Prod.mk.inj h).1
      have h := (Prod.mk.inj h).2
      have e_8 := (Prod.mk.inj h).1
      have h := (Prod.mk.inj h).2
      have e_9 := (Prod.mk.inj h).1
      have h := (Prod.mk.inj h).2
      have e_10 := (Prod.mk.inj h).1
      have h := (Prod.mk.inj h).2
      have e_11 := (Prod.mk.inj h).1
      have h := (Prod.mk.inj h).2
      have e_12 := (Prod.mk.inj h).1
      have h := (Prod.mk.inj h).2
      have e_13 := (Prod.mk.inj h).1
      have h := (Prod.mk.inj h).2
      have e_14 := (Prod.mk.inj h).1
      have h := (Prod.mk.inj h).2
      have e_15 := (Prod.mk.inj h).1
      have h := (Prod.mk.inj h).2
      rw [← e_0, ← e_1, ← e_2, ← e_3, ← e_4, ← e_5, ← e_6, ← e_7, ← e_8, ← e_9, ← e_10, ← e_11, ← e_12, ← e_13, ← e_14, ← e_15, ← h]
      exact jr_i J hS hP hD rfl d_GT_run_22

def f_GT_typen (p1 : Int32) (p2 : Int32) : Option (Int32) := (some 0)
set_option maxHeartbeats 4000000 in
set_option maxRecDepth 100000 in
theorem ct_GT_typen (l : Launch) (E : jz_E) (h2 l1 s0 t0 : Nat) (sz : Nat) (htl : Int32) (hlf : Int32) (hll : Int32) (hgs : Nat → Option Nat) (p1 : Int32) (p2 : Int32) (o_r : Int32)  (hg : f_GT_guestAt hgs p1 = some .null) (h : f_GT_typen p1 p2 = some o_r) : CTi l E y_GT_type c_GT_type 4 (some .boolean) ({ frames := 2, cells := 0, slots := 0, locals := 41 }) [.ref t0, .int p1, .int p2] [(t0, .inr (5, [.ref l1, .int htl, .ref s0, .ref h2, .int hlf, .int hll])), (h2, .inl (E.2.1 4, 3, .inr (.inr (.inr (.inr hgs)))))] sz o_r [(t0, .inr (5, [.ref l1, .int htl, .ref s0, .ref h2, .int hlf, .int hll])), (h2, .inl (E.2.1 4, 3, .inr (.inr (.inr (.inr hgs)))))] := by
  refine jw (by decide +kernel) (Nat.le_of_ble_eq_true rfl) ?_
  intro p e s m below meth c A ls J hJ hAe hsz hA hZ hP hD hl
  rw [← hAe]
  have hS : va_S A s.heap s.heap [] := va_S.rf
  have hl : lv_has ls 4 [(0, .ref t0), (1, .int p1), (2, .int p2)] := hl
  unfold f_GT_typen at h
  refine lv_aload_n J.1 J.2.1 d_GT_type_0 rfl (lv_at hl 0 rfl) ?_
  refine lv_iload_n J.1 J.2.1 d_GT_type_1 rfl (lv_at hl 1 rfl) ?_
  have hq := ct_GT_guestAt l E t0 l1 s0 h2 s.heap.size htl hlf hll hgs p1 (.null) hg
  have hr := jrunV (p := p) (e := e) (below := below) (R := ({ frames := 2, cells := 0, slots := 0, locals := 41 })) (cells := 0) (slots := 0) (As := [.int p1]) (rest := []) J hJ hA hZ hP hD hS hq [0, 1] rfl (by decide) gl_GT_65 gi_GT_guestAt gsel_GT_guestAt gini_GT gc_GT_guestAt hd_GT_guestAt ⟨rfl, rfl, Nat.le_of_ble_eq_true rfl, Nat.le_of_ble_eq_true rfl⟩ rfl rfl hl.1 rfl rfl (Nat.le_of_ble_eq_true rfl) d_GT_type_2 ⟨Nat.zero_le _, Nat.zero_le _⟩
  clear hq
  refine jk_r hr hA hP hD hS [0, 1] [] (WR := []) rfl rfl (by decide) (by decide) [0, 1] (WF := [(t0, .inr (5, [.ref l1, .int htl, .ref s0, .ref h2, .int hlf, .int hll])), (h2, .inl (E.2.1 4, 3, .inr (.inr (.inr (.inr hgs)))))]) rfl (by decide) ?_
  clear hP hD hS
  intro H locs hP hD hS
  clear hr
  refine lv_astore_nN (lv' := [(3, .null), (0, .ref t0), (1, .int p1), (2, .int p2)]) J.1 J.2.1 d_GT_type_5 rfl hl (by decide) rfl ?_
  clear hl
  intro ls hl
  refine lv_aload_nN J.1 J.2.1 d_GT_type_6 rfl (lv_at hl 0 rfl) ?_
  refine lv_ifnullN (tgt := 21) J.1 J.2.1 d_GT_type_7 (by decide) ?_
  refine lv_iconst (v := 0) J.1 J.2.1 d_GT_type_21 (by decide) ?_
  have h := Option.some.inj h
  rw [← h]
  exact jr_i J hS hP hD rfl d_GT_type_22

def f_GT_typeg (kold : Int32) (kwai : Int32) (ktyp : Nat → Int32) (p1 : Int32) (p2 : Int32) : Option (Int32 × Int32 × (Nat → Int32)) := (if p2 < (0 : Int32) then (some (0, kwai, ktyp)) else (if p2 ≤ (255 : Int32) then ((f_CO_isTaken kold kwai ktyp p2).bind fun (r_3, kwai_3, ktyp_3) => (some (r_3, kwai_3, ktyp_3))) else (some (0, kwai, ktyp))))
set_option maxHeartbeats 4000000 in
set_option maxRecDepth 100000 in
theorem ct_GT_typeg (l : Launch) (E : jz_E) (a0 a1 a2 a3 g0 h2 k0 k1 k2 l1 s0 t0 : Nat) (sz : Nat) (htl : Int32) (hlf : Int32) (hll : Int32) (hgs : Nat → Option Nat) (gsz : Int32) (gdp : Int32) (gst : Int32) (gsp : Int32) (vsz : Int32) (vmd : Int32) (vpc : Int32) (vba : Int32) (vbo : Int32) (vre : Int32) (vti : Int32) (vro : Int32) (vha : Int32) (kold : Int32) (kwai : Int32) (ksnt : Int32) (ktyp : Nat → Int32) (p1 : Int32) (p2 : Int32) (o_r : Int32) (o_kwai : Int32) (o_ktyp : Nat → Int32)  (hg : f_GT_guestAt hgs p1 = some (.ref g0)) (h : f_GT_typeg kold kwai ktyp p1 p2 = some (o_r, o_kwai, o_ktyp)) : CTi l E y_GT_type c_GT_type 4 (some .boolean) ({ frames := 2, cells := 0, slots := 0, locals := 41 }) [.ref t0, .int p1, .int p2] [(t0, .inr (5, [.ref l1, .int htl, .ref s0, .ref h2, .int hlf, .int hll])), (h2, .inl (E.2.1 4, 3, .inr (.inr (.inr (.inr hgs))))), (g0, .inr (2, [.ref a0, .int gsz, .int gdp, .int gst, .int gsp])), (a0, .inr (0, [.ref a1, .ref a2, .ref a3, .ref k0, .int vsz, .int vmd, .int vpc, .int vba, .int vbo, .int vre, .int vti, .int vro, .int vha])), (k0, .inr (1, [.ref k1, .ref k2, .int kold, .int kwai, .int ksnt])), (k1, .inl (E.2.1 0, 100, .inl ktyp))] sz o_r [(t0, .inr (5, [.ref l1, .int htl, .ref s0, .ref h2, .int hlf, .int hll])), (h2, .inl (E.2.1 4, 3, .inr (.inr (.inr (.inr hgs))))), (g0, .inr (2, [.ref a0, .int gsz, .int gdp, .int gst, .int gsp])), (a0, .inr (0, [.ref a1, .ref a2, .ref a3, .ref k0, .int vsz, .int vmd, .int vpc, .int vba, .int vbo, .int vre, .int vti, .int vro, .int vha])), (k0, .inr (1, [.ref k1, .ref k2, .int kold, .int o_kwai, .int ksnt])), (k1, .inl (E.2.1 0, 100, .inl o_ktyp))] := by
  refine jw (by decide +kernel) (Nat.le_of_ble_eq_true rfl) ?_
  intro p e s m below meth c A ls J hJ hAe hsz hA hZ hP hD hl
  rw [← hAe]
  have hS : va_S A s.heap s.heap [] := va_S.rf
  have hl : lv_has ls 4 [(0, .ref t0), (1, .int p1), (2, .int p2)] := hl
  unfold f_GT_typeg at h
  refine lv_aload_n J.1 J.2.1 d_GT_type_0 rfl (lv_at hl 0 rfl) ?_
  refine lv_iload_n J.1 J.2.1 d_GT_type_1 rfl (lv_at hl 1 rfl) ?_
  have hq := ct_GT_guestAt l E t0 l1 s0 h2 s.heap.size htl hlf hll hgs p1 (.ref g0) hg
  have hr := jrunV (p := p) (e := e) (below := below) (R := ({ frames := 2, cells := 0, slots := 0, locals := 41 })) (cells := 0) (slots := 0) (As := [.int p1]) (rest := []) J hJ hA hZ hP hD hS hq [0, 1] rfl (by decide) gl_GT_65 gi_GT_guestAt gsel_GT_guestAt gini_GT gc_GT_guestAt hd_GT_guestAt ⟨rfl, rfl, Nat.le_of_ble_eq_true rfl, Nat.le_of_ble_eq_true rfl⟩ rfl rfl hl.1 rfl rfl (Nat.le_of_ble_eq_true rfl) d_GT_type_2 ⟨Nat.zero_le _, Nat.zero_le _⟩
  clear hq
  refine jk_r hr hA hP hD hS [0, 1] [2, 3, 4, 5] (WR := [(g0, .inr (2, [.ref a0, .int gsz, .int gdp, .int gst, .int gsp])), (a0, .inr (0, [.ref a1, .ref a2, .ref a3, .ref k0, .int vsz, .int vmd, .int vpc, .int vba, .int vbo, .int vre, .int vti, .int vro, .int vha])), (k0, .inr (1, [.ref k1, .ref k2, .int kold, .int kwai, .int ksnt])), (k1, .inl (E.2.1 0, 100, .inl ktyp))]) rfl rfl (by decide) (by decide) [4, 5, 0, 1, 2, 3] (WF := [(t0, .inr (5, [.ref l1, .int htl, .ref s0, .ref h2, .int hlf, .int hll])), (h2, .inl (E.2.1 4, 3, .inr (.inr (.inr (.inr hgs))))), (g0, .inr (2, [.ref a0, .int gsz, .int gdp, .int gst, .int gsp])), (a0, .inr (0, [.ref a1, .ref a2, .ref a3, .ref k0, .int vsz, .int vmd, .int vpc, .int vba, .int vbo, .int vre, .int vti, .int vro, .int vha])), (k0, .inr (1, [.ref k1, .ref k2, .int kold, .int kwai, .int ksnt])), (k1, .inl (E.2.1 0, 100, .inl ktyp))]) rfl (by decide) ?_
  clear hP hD hS
  intro H locs hP hD hS
  clear hr
  refine lv_astore_n (lv' := [(3, .ref g0), (0, .ref t0), (1, .int p1), (2, .int p2)]) J.1 J.2.1 d_GT_type_5 rfl hl (by decide) rfl ?_
  clear hl
  intro ls hl
  refine lv_aload_n J.1 J.2.1 d_GT_type_6 rfl (lv_at hl 0 rfl) ?_
  refine lv_ifnull J.1 J.2.1 d_GT_type_7 ?_
  refine lv_iload_n J.1 J.2.1 d_GT_type_10 rfl (lv_at hl 3 rfl) ?_
  refine lv_if_lt (tgt := 21) J.1 J.2.1 d_GT_type_11 (by decide) (fun c_1 => ?_) (fun c_1 => ?_)
  · replace h := g_t c_1 h
    refine lv_iconst (v := 0) J.1 J.2.1 d_GT_type_21 (by decide) ?_
    have h := Option.some.inj h
    have e_0 := (Prod.mk.inj h).1
    have h := (Prod.mk.inj h).2
    have e_1 := (Prod.mk.inj h).1
    have h := (Prod.mk.inj h).2
    rw [← e_0, ← e_1, ← h]
    exact jr_i J hS hP hD rfl d_GT_type_22
  · replace h := g_f c_1 h
    refine lv_iload_n J.1 J.2.1 d_GT_type_14 rfl (lv_at hl 3 rfl) ?_
    refine lv_sipush (v := 255) J.1 J.2.1 d_GT_type_15 (by decide) ?_
    refine lv_icmp_le (tgt := 23) J.1 J.2.1 d_GT_type_18 (by decide) (fun c_2 => ?_) (fun c_2 => ?_)
    · replace h := g_t c_2 h
      refine lv_aload_n J.1 J.2.1 d_GT_type_23 rfl (lv_at hl 0 rfl) ?_
      refine jgN J hJ hP 2 rfl rfl i_GU 0 (by decide) gn_GT_73 rfl d_GT_type_24 ?_
      refine jgN J hJ hP 3 rfl rfl i_MA 3 (by decide) gn_GT_77 rfl d_GT_type_27 ?_
      refine lv_iload_n J.1 J.2.1 d_GT_type_30 rfl (lv_at hl 3 rfl) ?_
      replace h := g_bd h
      obtain ⟨⟨r_3, kwai_3, ktyp_3⟩, q_3, h⟩ := h
      try dsimp only at h
      have hq := ct_CO_isTaken l E k0 k1 k2 H.size kold kwai ksnt ktyp p2 r_3 kwai_3 ktyp_3 q_3
      have hr := jrunV (p := p) (e := e) (below := below) (R := ({ frames := 2, cells := 0, slots := 0, locals := 41 })) (cells := 0) (slots := 0) (As := [.int p2]) (rest := []) J hJ hA hZ hP hD hS hq [4, 5] rfl (by decide) gl_GT_83 gi_CO_isTaken gsel_CO_isTaken gini_CO gc_CO_isTaken hd_CO_isTaken ⟨rfl, rfl, Nat.le_of_ble_eq_true rfl, Nat.le_of_ble_eq_true rfl⟩ rfl rfl hl.1 rfl rfl (Nat.le_of_ble_eq_true rfl) d_GT_type_31 ⟨Nat.zero_le _, Nat.zero_le _⟩
      clear hq
      refine jk_i hr hA hP hD hS [4, 5] [0, 1, 2, 3] (WR := [(t0, .inr (5, [.ref l1, .int htl, .ref s0, .ref h2, .int hlf, .int hll])), (h2, .inl (E.2.1 4, 3, .inr (.inr (.inr (.inr hgs))))), (g0, .inr (2, [.ref a0, .int gsz, .int gdp, .int gst, .int gsp])), (a0, .inr (0, [.ref a1, .ref a2, .ref a3, .ref k0, .int vsz, .int vmd, .int vpc, .int vba, .int vbo, .int vre, .int vti, .int vro, .int vha]))]) rfl rfl (by decide) (by decide) [0, 1, 2, 3, 4, 5] (WF := [(t0, .inr (5, [.ref l1, .int htl, .ref s0, .ref h2, .int hlf, .int hll])), (h2, .inl (E.2.1 4, 3, .inr (.inr (.inr (.inr hgs))))), (g0, .inr (2, [.ref a0, .int gsz, .int gdp, .int gst, .int gsp])), (a0, .inr (0, [.ref a1, .ref a2, .ref a3, .ref k0, .int vsz, .int vmd, .int vpc, .int vba, .int vbo, .int vre, .int vti, .int vro, .int vha])), (k0, .inr (1, [.ref k1, .ref k2, .int kold, .int kwai_3, .int ksnt])), (k1, .inl (E.2.1 0, 100, .inl ktyp_3))]) rfl (by decide) ?_
      clear hP hD hS
      intro H locs hP hD hS
      clear hr
      have h := Option.some.inj h
      have e_0 := (Prod.mk.inj h).1
      have h := (Prod.mk.inj h).2
      have e_1 := (Prod.mk.inj h).1
      have h := (Prod.mk.inj h).2
      rw [← e_0, ← e_1, ← h]
      exact jr_i J hS hP hD (bz_isTaken q_3) d_GT_type_34
    · replace h := g_f c_2 h
      refine lv_iconst (v := 0) J.1 J.2.1 d_GT_type_21 (by decide) ?_
      have h := Option.some.inj h
      have e_0 := (Prod.mk.inj h).1
      have h := (Prod.mk.inj h).2
      have e_1 := (Prod.mk.inj h).1
      have h := (Prod.mk.inj h).2
      rw [← e_0, ← e_1, ← h]
      exact jr_i J hS hP hD rfl d_GT_type_22

def f_GT_lookn (p1 : Int32) (p2 : Int32) : Option (Int32) := (some (-1))
set_option maxHeartbeats 4000000 in
set_option maxRecDepth 100000 in
theorem ct_GT_lookn (l : Launch) (E : jz_E) (h2 l1 s0 t0 : Nat) (sz : Nat) (htl : Int32) (hlf : Int32) (hll : Int32) (hgs : Nat → Option Nat) (p1 : Int32) (p2 : Int32) (o_r : Int32)  (hg : f_GT_guestAt hgs p1 = some .null) (h : f_GT_lookn p1 p2 = some o_r) : CTi l E y_GT_look c_GT_look 4 (some .int) ({ frames := 2, cells := 0, slots := 0, locals := 41 }) [.ref t0, .int p1, .int p2] [(t0, .inr (5, [.ref l1, .int htl, .ref s0, .ref h2, .int hlf, .int hll])), (h2, .inl (E.2.1 4, 3, .inr (.inr (.inr (.inr hgs)))))] sz o_r [(t0, .inr (5, [.ref l1, .int htl, .ref s0, .ref h2, .int hlf, .int hll])), (h2, .inl (E.2.1 4, 3, .inr (.inr (.inr (.inr hgs)))))] := by
  refine jw (by decide +kernel) (Nat.le_of_ble_eq_true rfl) ?_
  intro p e s m below meth c A ls J hJ hAe hsz hA hZ hP hD hl
  rw [← hAe]
  have hS : va_S A s.heap s.heap [] := va_S.rf
  have hl : lv_has ls 4 [(0, .ref t0), (1, .int p1), (2, .int p2)] := hl
  unfold f_GT_lookn at h
  refine lv_aload_n J.1 J.2.1 d_GT_look_0 rfl (lv_at hl 0 rfl) ?_
  refine lv_iload_n J.1 J.2.1 d_GT_look_1 rfl (lv_at hl 1 rfl) ?_
  have hq := ct_GT_guestAt l E t0 l1 s0 h2 s.heap.size htl hlf hll hgs p1 (.null) hg
  have hr := jrunV (p := p) (e := e) (below := below) (R := ({ frames := 2, cells := 0, slots := 0, locals := 41 })) (cells := 0) (slots := 0) (As := [.int p1]) (rest := []) J hJ hA hZ hP hD hS hq [0, 1] rfl (by decide) gl_GT_65 gi_GT_guestAt gsel_GT_guestAt gini_GT gc_GT_guestAt hd_GT_guestAt ⟨rfl, rfl, Nat.le_of_ble_eq_true rfl, Nat.le_of_ble_eq_true rfl⟩ rfl rfl hl.1 rfl rfl (Nat.le_of_ble_eq_true rfl) d_GT_look_2 ⟨Nat.zero_le _, Nat.zero_le _⟩
  clear hq
  refine jk_r hr hA hP hD hS [0, 1] [] (WR := []) rfl rfl (by decide) (by decide) [0, 1] (WF := [(t0, .inr (5, [.ref l1, .int htl, .ref s0, .ref h2, .int hlf, .int hll])), (h2, .inl (E.2.1 4, 3, .inr (.inr (.inr (.inr hgs)))))]) rfl (by decide) ?_
  clear hP hD hS
  intro H locs hP hD hS
  clear hr
  refine lv_astore_nN (lv' := [(3, .null), (0, .ref t0), (1, .int p1), (2, .int p2)]) J.1 J.2.1 d_GT_look_5 rfl hl (by decide) rfl ?_
  clear hl
  intro ls hl
  refine lv_aload_nN J.1 J.2.1 d_GT_look_6 rfl (lv_at hl 0 rfl) ?_
  refine lv_ifnonnullN J.1 J.2.1 d_GT_look_7 ?_
  refine lv_iconst (v := (-1)) J.1 J.2.1 d_GT_look_10 (by decide) ?_
  refine lv_goto (tgt := 19) J.1 J.2.1 d_GT_look_11 (by decide) ?_
  have h := Option.some.inj h
  rw [← h]
  exact jr_i J hS hP hD rfl d_GT_look_19

def f_GT_lookg (gsz : Int32) (gdp : Int32) (gst : Int32) (gsp : Int32) (vmd : Int32) (vpc : Int32) (vba : Int32) (vbo : Int32) (vti : Int32) (vro : Int32) (vha : Int32) (vmem : Nat → Int32) (vreg : Nat → Int32) (kwai : Int32) (ksnt : Int32) (p1 : Int32) (p2 : Int32) : Option (Int32) := ((f_GU_told gsz gdp gst gsp vmd vpc vba vbo vti vro vha vmem vreg kwai ksnt p2).bind fun r_1 => (some r_1))
set_option maxHeartbeats 4000000 in
set_option maxRecDepth 100000 in
theorem ct_GT_lookg (l : Launch) (E : jz_E) (a0 a1 a2 a3 g0 h2 k0 k1 k2 l1 s0 t0 : Nat) (sz : Nat) (htl : Int32) (hlf : Int32) (hll : Int32) (hgs : Nat → Option Nat) (gsz : Int32) (gdp : Int32) (gst : Int32) (gsp : Int32) (vsz : Int32) (vmd : Int32) (vpc : Int32) (vba : Int32) (vbo : Int32) (vre : Int32) (vti : Int32) (vro : Int32) (vha : Int32) (vmem : Nat → Int32) (vreg : Nat → Int32) (kold : Int32) (kwai : Int32) (ksnt : Int32) (p1 : Int32) (p2 : Int32) (o_r : Int32)  (hg : f_GT_guestAt hgs p1 = some (.ref g0)) (h : f_GT_lookg gsz gdp gst gsp vmd vpc vba vbo vti vro vha vmem vreg kwai ksnt p1 p2 = some o_r) : CTi l E y_GT_look c_GT_look 4 (some .int) ({ frames := 4, cells := 0, slots := 0, locals := 83 }) [.ref t0, .int p1, .int p2] [(t0, .inr (5, [.ref l1, .int htl, .ref s0, .ref h2, .int hlf, .int hll])), (h2, .inl (E.2.1 4, 3, .inr (.inr (.inr (.inr hgs))))), (g0, .inr (2, [.ref a0, .int gsz, .int gdp, .int gst, .int gsp])), (a0, .inr (0, [.ref a1, .ref a2, .ref a3, .ref k0, .int vsz, .int vmd, .int vpc, .int vba, .int vbo, .int vre, .int vti, .int vro, .int vha])), (a1, .inl (E.2.1 0, 1844, .inl vmem)), (a2, .inl (E.2.1 0, 8, .inl vreg)), (k0, .inr (1, [.ref k1, .ref k2, .int kold, .int kwai, .int ksnt]))] sz o_r [(t0, .inr (5, [.ref l1, .int htl, .ref s0, .ref h2, .int hlf, .int hll])), (h2, .inl (E.2.1 4, 3, .inr (.inr (.inr (.inr hgs))))), (g0, .inr (2, [.ref a0, .int gsz, .int gdp, .int gst, .int gsp])), (a0, .inr (0, [.ref a1, .ref a2, .ref a3, .ref k0, .int vsz, .int vmd, .int vpc, .int vba, .int vbo, .int vre, .int vti, .int vro, .int vha])), (a1, .inl (E.2.1 0, 1844, .inl vmem)), (a2, .inl (E.2.1 0, 8, .inl vreg)), (k0, .inr (1, [.ref k1, .ref k2, .int kold, .int kwai, .int ksnt]))] := by
  refine jw (by decide +kernel) (Nat.le_of_ble_eq_true rfl) ?_
  intro p e s m below meth c A ls J hJ hAe hsz hA hZ hP hD hl
  rw [← hAe]
  have hS : va_S A s.heap s.heap [] := va_S.rf
  have hl : lv_has ls 4 [(0, .ref t0), (1, .int p1), (2, .int p2)] := hl
  unfold f_GT_lookg at h
  refine lv_aload_n J.1 J.2.1 d_GT_look_0 rfl (lv_at hl 0 rfl) ?_
  refine lv_iload_n J.1 J.2.1 d_GT_look_1 rfl (lv_at hl 1 rfl) ?_
  have hq := ct_GT_guestAt l E t0 l1 s0 h2 s.heap.size htl hlf hll hgs p1 (.ref g0) hg
  have hr := jrunV (p := p) (e := e) (below := below) (R := ({ frames := 4, cells := 0, slots := 0, locals := 83 })) (cells := 0) (slots := 0) (As := [.int p1]) (rest := []) J hJ hA hZ hP hD hS hq [0, 1] rfl (by decide) gl_GT_65 gi_GT_guestAt gsel_GT_guestAt gini_GT gc_GT_guestAt hd_GT_guestAt ⟨rfl, rfl, Nat.le_of_ble_eq_true rfl, Nat.le_of_ble_eq_true rfl⟩ rfl rfl hl.1 rfl rfl (Nat.le_of_ble_eq_true rfl) d_GT_look_2 ⟨Nat.zero_le _, Nat.zero_le _⟩
  clear hq
  refine jk_r hr hA hP hD hS [0, 1] [2, 3, 4, 5, 6] (WR := [(g0, .inr (2, [.ref a0, .int gsz, .int gdp, .int gst, .int gsp])), (a0, .inr (0, [.ref a1, .ref a2, .ref a3, .ref k0, .int vsz, .int vmd, .int vpc, .int vba, .int vbo, .int vre, .int vti, .int vro, .int vha])), (a1, .inl (E.2.1 0, 1844, .inl vmem)), (a2, .inl (E.2.1 0, 8, .inl vreg)), (k0, .inr (1, [.ref k1, .ref k2, .int kold, .int kwai, .int ksnt]))]) rfl rfl (by decide) (by decide) [5, 6, 0, 1, 2, 3, 4] (WF := [(t0, .inr (5, [.ref l1, .int htl, .ref s0, .ref h2, .int hlf, .int hll])), (h2, .inl (E.2.1 4, 3, .inr (.inr (.inr (.inr hgs))))), (g0, .inr (2, [.ref a0, .int gsz, .int gdp, .int gst, .int gsp])), (a0, .inr (0, [.ref a1, .ref a2, .ref a3, .ref k0, .int vsz, .int vmd, .int vpc, .int vba, .int vbo, .int vre, .int vti, .int vro, .int vha])), (a1, .inl (E.2.1 0, 1844, .inl vmem)), (a2, .inl (E.2.1 0, 8, .inl vreg)), (k0, .inr (1, [.ref k1, .ref k2, .int kold, .int kwai, .int ksnt]))]) rfl (by decide) ?_
  clear hP hD hS
  intro H locs hP hD hS
  clear hr
  refine lv_astore_n (lv' := [(3, .ref g0), (0, .ref t0), (1, .int p1), (2, .int p2)]) J.1 J.2.1 d_GT_look_5 rfl hl (by decide) rfl ?_
  clear hl
  intro ls hl
  refine lv_aload_n J.1 J.2.1 d_GT_look_6 rfl (lv_at hl 0 rfl) ?_
  refine lv_ifnonnull (tgt := 14) J.1 J.2.1 d_GT_look_7 (by decide) ?_
  refine lv_aload_n J.1 J.2.1 d_GT_look_14 rfl (lv_at hl 0 rfl) ?_
  refine lv_iload_n J.1 J.2.1 d_GT_look_15 rfl (lv_at hl 3 rfl) ?_
  replace h := g_bd h
  obtain ⟨r_1, q_1, h⟩ := h
  have hq := ct_GU_told l E a0 a1 a2 a3 g0 k0 k1 k2 H.size gsz gdp gst gsp vsz vmd vpc vba vbo vre vti vro vha vmem vreg kold kwai ksnt p2 r_1 q_1
  have hr := jrunV (p := p) (e := e) (below := below) (R := ({ frames := 4, cells := 0, slots := 0, locals := 83 })) (cells := 0) (slots := 0) (As := [.int p2]) (rest := []) J hJ hA hZ hP hD hS hq [2, 3, 4, 5, 6] rfl (by decide) gl_GT_88 gi_GU_told gsel_GU_told gini_GU gc_GU_told hd_GU_told ⟨rfl, rfl, Nat.le_of_ble_eq_true rfl, Nat.le_of_ble_eq_true rfl⟩ rfl rfl hl.1 rfl rfl (Nat.le_of_ble_eq_true rfl) d_GT_look_16 ⟨Nat.zero_le _, Nat.zero_le _⟩
  clear hq
  refine jk_i hr hA hP hD hS [2, 3, 4, 5, 6] [0, 1] (WR := [(t0, .inr (5, [.ref l1, .int htl, .ref s0, .ref h2, .int hlf, .int hll])), (h2, .inl (E.2.1 4, 3, .inr (.inr (.inr (.inr hgs)))))]) rfl rfl (by decide) (by decide) [0, 1, 2, 3, 4, 5, 6] (WF := [(t0, .inr (5, [.ref l1, .int htl, .ref s0, .ref h2, .int hlf, .int hll])), (h2, .inl (E.2.1 4, 3, .inr (.inr (.inr (.inr hgs))))), (g0, .inr (2, [.ref a0, .int gsz, .int gdp, .int gst, .int gsp])), (a0, .inr (0, [.ref a1, .ref a2, .ref a3, .ref k0, .int vsz, .int vmd, .int vpc, .int vba, .int vbo, .int vre, .int vti, .int vro, .int vha])), (a1, .inl (E.2.1 0, 1844, .inl vmem)), (a2, .inl (E.2.1 0, 8, .inl vreg)), (k0, .inr (1, [.ref k1, .ref k2, .int kold, .int kwai, .int ksnt]))]) rfl (by decide) ?_
  clear hP hD hS
  intro H locs hP hD hS
  clear hr
  have h := Option.some.inj h
  rw [← h]
  exact jr_i J hS hP hD rfl d_GT_look_19

def f_GT_wordn (p1 : Int32) (p2 : Int32) : Option (Int32) := (some (-1))
set_option maxHeartbeats 4000000 in
set_option maxRecDepth 100000 in
theorem ct_GT_wordn (l : Launch) (E : jz_E) (h2 l1 s0 t0 : Nat) (sz : Nat) (htl : Int32) (hlf : Int32) (hll : Int32) (hgs : Nat → Option Nat) (p1 : Int32) (p2 : Int32) (o_r : Int32)  (hg : f_GT_guestAt hgs p1 = some .null) (h : f_GT_wordn p1 p2 = some o_r) : CTi l E y_GT_word c_GT_word 4 (some .int) ({ frames := 2, cells := 0, slots := 0, locals := 41 }) [.ref t0, .int p1, .int p2] [(t0, .inr (5, [.ref l1, .int htl, .ref s0, .ref h2, .int hlf, .int hll])), (h2, .inl (E.2.1 4, 3, .inr (.inr (.inr (.inr hgs)))))] sz o_r [(t0, .inr (5, [.ref l1, .int htl, .ref s0, .ref h2, .int hlf, .int hll])), (h2, .inl (E.2.1 4, 3, .inr (.inr (.inr (.inr hgs)))))] := by
  refine jw (by decide +kernel) (Nat.le_of_ble_eq_true rfl) ?_
  intro p e s m below meth c A ls J hJ hAe hsz hA hZ hP hD hl
  rw [← hAe]
  have hS : va_S A s.heap s.heap [] := va_S.rf
  have hl : lv_has ls 4 [(0, .ref t0), (1, .int p1), (2, .int p2)] := hl
  unfold f_GT_wordn at h
  refine lv_aload_n J.1 J.2.1 d_GT_word_0 rfl (lv_at hl 0 rfl) ?_
  refine lv_iload_n J.1 J.2.1 d_GT_word_1 rfl (lv_at hl 1 rfl) ?_
  have hq := ct_GT_guestAt l E t0 l1 s0 h2 s.heap.size htl hlf hll hgs p1 (.null) hg
  have hr := jrunV (p := p) (e := e) (below := below) (R := ({ frames := 2, cells := 0, slots := 0, locals := 41 })) (cells := 0) (slots := 0) (As := [.int p1]) (rest := []) J hJ hA hZ hP hD hS hq [0, 1] rfl (by decide) gl_GT_65 gi_GT_guestAt gsel_GT_guestAt gini_GT gc_GT_guestAt hd_GT_guestAt ⟨rfl, rfl, Nat.le_of_ble_eq_true rfl, Nat.le_of_ble_eq_true rfl⟩ rfl rfl hl.1 rfl rfl (Nat.le_of_ble_eq_true rfl) d_GT_word_2 ⟨Nat.zero_le _, Nat.zero_le _⟩
  clear hq
  refine jk_r hr hA hP hD hS [0, 1] [] (WR := []) rfl rfl (by decide) (by decide) [0, 1] (WF := [(t0, .inr (5, [.ref l1, .int htl, .ref s0, .ref h2, .int hlf, .int hll])), (h2, .inl (E.2.1 4, 3, .inr (.inr (.inr (.inr hgs)))))]) rfl (by decide) ?_
  clear hP hD hS
  intro H locs hP hD hS
  clear hr
  refine lv_astore_nN (lv' := [(3, .null), (0, .ref t0), (1, .int p1), (2, .int p2)]) J.1 J.2.1 d_GT_word_5 rfl hl (by decide) rfl ?_
  clear hl
  intro ls hl
  refine lv_aload_nN J.1 J.2.1 d_GT_word_6 rfl (lv_at hl 0 rfl) ?_
  refine lv_ifnonnullN J.1 J.2.1 d_GT_word_7 ?_
  refine lv_iconst (v := (-1)) J.1 J.2.1 d_GT_word_10 (by decide) ?_
  refine lv_goto (tgt := 19) J.1 J.2.1 d_GT_word_11 (by decide) ?_
  have h := Option.some.inj h
  rw [← h]
  exact jr_i J hS hP hD rfl d_GT_word_19

def f_GT_wordg (gsz : Int32) (gst : Int32) (vmem : Nat → Int32) (p1 : Int32) (p2 : Int32) : Option (Int32) := ((f_GU_wordAt gsz gst vmem p2).bind fun r_1 => (some r_1))
set_option maxHeartbeats 4000000 in
set_option maxRecDepth 100000 in
theorem ct_GT_wordg (l : Launch) (E : jz_E) (a0 a1 a2 a3 g0 h2 k0 l1 s0 t0 : Nat) (sz : Nat) (htl : Int32) (hlf : Int32) (hll : Int32) (hgs : Nat → Option Nat) (gsz : Int32) (gdp : Int32) (gst : Int32) (gsp : Int32) (vsz : Int32) (vmd : Int32) (vpc : Int32) (vba : Int32) (vbo : Int32) (vre : Int32) (vti : Int32) (vro : Int32) (vha : Int32) (vmem : Nat → Int32) (p1 : Int32) (p2 : Int32) (o_r : Int32)  (hg : f_GT_guestAt hgs p1 = some (.ref g0)) (h : f_GT_wordg gsz gst vmem p1 p2 = some o_r) : CTi l E y_GT_word c_GT_word 4 (some .int) ({ frames := 2, cells := 0, slots := 0, locals := 41 }) [.ref t0, .int p1, .int p2] [(t0, .inr (5, [.ref l1, .int htl, .ref s0, .ref h2, .int hlf, .int hll])), (h2, .inl (E.2.1 4, 3, .inr (.inr (.inr (.inr hgs))))), (g0, .inr (2, [.ref a0, .int gsz, .int gdp, .int gst, .int gsp])), (a0, .inr (0, [.ref a1, .ref a2, .ref a3, .ref k0, .int vsz, .int vmd, .int vpc, .int vba, .int vbo, .int vre, .int vti, .int vro, .int vha])), (a1, .inl (E.2.1 0, 1844, .inl vmem))] sz o_r [(t0, .inr (5, [.ref l1, .int htl, .ref s0, .ref h2, .int hlf, .int hll])), (h2, .inl (E.2.1 4, 3, .inr (.inr (.inr (.inr hgs))))), (g0, .inr (2, [.ref a0, .int gsz, .int gdp, .int gst, .int gsp])), (a0, .inr (0, [.ref a1, .ref a2, .ref a3, .ref k0, .int vsz, .int vmd, .int vpc, .int vba, .int vbo, .int vre, .int vti, .int vro, .int vha])), (a1, .inl (E.2.1 0, 1844, .inl vmem))] := by
  refine jw (by decide +kernel) (Nat.le_of_ble_eq_true rfl) ?_
  intro p e s m below meth c A ls J hJ hAe hsz hA hZ hP hD hl
  rw [← hAe]
  have hS : va_S A s.heap s.heap [] := va_S.rf
  have hl : lv_has ls 4 [(0, .ref t0), (1, .int p1), (2, .int p2)] := hl
  unfold f_GT_wordg at h
  refine lv_aload_n J.1 J.2.1 d_GT_word_0 rfl (lv_at hl 0 rfl) ?_
  refine lv_iload_n J.1 J.2.1 d_GT_word_1 rfl (lv_at hl 1 rfl) ?_
  have hq := ct_GT_guestAt l E t0 l1 s0 h2 s.heap.size htl hlf hll hgs p1 (.ref g0) hg
  have hr := jrunV (p := p) (e := e) (below := below) (R := ({ frames := 2, cells := 0, slots := 0, locals := 41 })) (cells := 0) (slots := 0) (As := [.int p1]) (rest := []) J hJ hA hZ hP hD hS hq [0, 1] rfl (by decide) gl_GT_65 gi_GT_guestAt gsel_GT_guestAt gini_GT gc_GT_guestAt hd_GT_guestAt ⟨rfl, rfl, Nat.le_of_ble_eq_true rfl, Nat.le_of_ble_eq_true rfl⟩ rfl rfl hl.1 rfl rfl (Nat.le_of_ble_eq_true rfl) d_GT_word_2 ⟨Nat.zero_le _, Nat.zero_le _⟩
  clear hq
  refine jk_r hr hA hP hD hS [0, 1] [2, 3, 4] (WR := [(g0, .inr (2, [.ref a0, .int gsz, .int gdp, .int gst, .int gsp])), (a0, .inr (0, [.ref a1, .ref a2, .ref a3, .ref k0, .int vsz, .int vmd, .int vpc, .int vba, .int vbo, .int vre, .int vti, .int vro, .int vha])), (a1, .inl (E.2.1 0, 1844, .inl vmem))]) rfl rfl (by decide) (by decide) [3, 4, 0, 1, 2] (WF := [(t0, .inr (5, [.ref l1, .int htl, .ref s0, .ref h2, .int hlf, .int hll])), (h2, .inl (E.2.1 4, 3, .inr (.inr (.inr (.inr hgs))))), (g0, .inr (2, [.ref a0, .int gsz, .int gdp, .int gst, .int gsp])), (a0, .inr (0, [.ref a1, .ref a2, .ref a3, .ref k0, .int vsz, .int vmd, .int vpc, .int vba, .int vbo, .int vre, .int vti, .int vro, .int vha])), (a1, .inl (E.2.1 0, 1844, .inl vmem))]) rfl (by decide) ?_
  clear hP hD hS
  intro H locs hP hD hS
  clear hr
  refine lv_astore_n (lv' := [(3, .ref g0), (0, .ref t0), (1, .int p1), (2, .int p2)]) J.1 J.2.1 d_GT_word_5 rfl hl (by decide) rfl ?_
  clear hl
  intro ls hl
  refine lv_aload_n J.1 J.2.1 d_GT_word_6 rfl (lv_at hl 0 rfl) ?_
  refine lv_ifnonnull (tgt := 14) J.1 J.2.1 d_GT_word_7 (by decide) ?_
  refine lv_aload_n J.1 J.2.1 d_GT_word_14 rfl (lv_at hl 0 rfl) ?_
  refine lv_iload_n J.1 J.2.1 d_GT_word_15 rfl (lv_at hl 3 rfl) ?_
  replace h := g_bd h
  obtain ⟨r_1, q_1, h⟩ := h
  have hq := ct_GU_wordAt l E a0 a1 a2 a3 g0 k0 H.size gsz gdp gst gsp vsz vmd vpc vba vbo vre vti vro vha vmem p2 r_1 q_1
  have hr := jrunV (p := p) (e := e) (below := below) (R := ({ frames := 2, cells := 0, slots := 0, locals := 41 })) (cells := 0) (slots := 0) (As := [.int p2]) (rest := []) J hJ hA hZ hP hD hS hq [2, 3, 4] rfl (by decide) gl_GT_91 gi_GU_wordAt gsel_GU_wordAt gini_GU gc_GU_wordAt hd_GU_wordAt ⟨rfl, rfl, Nat.le_of_ble_eq_true rfl, Nat.le_of_ble_eq_true rfl⟩ rfl rfl hl.1 rfl rfl (Nat.le_of_ble_eq_true rfl) d_GT_word_16 ⟨Nat.zero_le _, Nat.zero_le _⟩
  clear hq
  refine jk_i hr hA hP hD hS [2, 3, 4] [0, 1] (WR := [(t0, .inr (5, [.ref l1, .int htl, .ref s0, .ref h2, .int hlf, .int hll])), (h2, .inl (E.2.1 4, 3, .inr (.inr (.inr (.inr hgs)))))]) rfl rfl (by decide) (by decide) [0, 1, 2, 3, 4] (WF := [(t0, .inr (5, [.ref l1, .int htl, .ref s0, .ref h2, .int hlf, .int hll])), (h2, .inl (E.2.1 4, 3, .inr (.inr (.inr (.inr hgs))))), (g0, .inr (2, [.ref a0, .int gsz, .int gdp, .int gst, .int gsp])), (a0, .inr (0, [.ref a1, .ref a2, .ref a3, .ref k0, .int vsz, .int vmd, .int vpc, .int vba, .int vbo, .int vre, .int vti, .int vro, .int vha])), (a1, .inl (E.2.1 0, 1844, .inl vmem))]) rfl (by decide) ?_
  clear hP hD hS
  intro H locs hP hD hS
  clear hr
  have h := Option.some.inj h
  rw [← h]
  exact jr_i J hS hP hD rfl d_GT_word_19

def f_GT_outputn (p1 : Int32) (p2 : Int32) : Option (Int32) := (some (-1))
set_option maxHeartbeats 4000000 in
set_option maxRecDepth 100000 in
theorem ct_GT_outputn (l : Launch) (E : jz_E) (h2 l1 s0 t0 : Nat) (sz : Nat) (htl : Int32) (hlf : Int32) (hll : Int32) (hgs : Nat → Option Nat) (p1 : Int32) (p2 : Int32) (o_r : Int32)  (hg : f_GT_guestAt hgs p1 = some .null) (h : f_GT_outputn p1 p2 = some o_r) : CTi l E y_GT_output c_GT_output 4 (some .int) ({ frames := 2, cells := 0, slots := 0, locals := 41 }) [.ref t0, .int p1, .int p2] [(t0, .inr (5, [.ref l1, .int htl, .ref s0, .ref h2, .int hlf, .int hll])), (h2, .inl (E.2.1 4, 3, .inr (.inr (.inr (.inr hgs)))))] sz o_r [(t0, .inr (5, [.ref l1, .int htl, .ref s0, .ref h2, .int hlf, .int hll])), (h2, .inl (E.2.1 4, 3, .inr (.inr (.inr (.inr hgs)))))] := by
  refine jw (by decide +kernel) (Nat.le_of_ble_eq_true rfl) ?_
  intro p e s m below meth c A ls J hJ hAe hsz hA hZ hP hD hl
  rw [← hAe]
  have hS : va_S A s.heap s.heap [] := va_S.rf
  have hl : lv_has ls 4 [(0, .ref t0), (1, .int p1), (2, .int p2)] := hl
  unfold f_GT_outputn at h
  refine lv_aload_n J.1 J.2.1 d_GT_output_0 rfl (lv_at hl 0 rfl) ?_
  refine lv_iload_n J.1 J.2.1 d_GT_output_1 rfl (lv_at hl 1 rfl) ?_
  have hq := ct_GT_guestAt l E t0 l1 s0 h2 s.heap.size htl hlf hll hgs p1 (.null) hg
  have hr := jrunV (p := p) (e := e) (below := below) (R := ({ frames := 2, cells := 0, slots := 0, locals := 41 })) (cells := 0) (slots := 0) (As := [.int p1]) (rest := []) J hJ hA hZ hP hD hS hq [0, 1] rfl (by decide) gl_GT_65 gi_GT_guestAt gsel_GT_guestAt gini_GT gc_GT_guestAt hd_GT_guestAt ⟨rfl, rfl, Nat.le_of_ble_eq_true rfl, Nat.le_of_ble_eq_true rfl⟩ rfl rfl hl.1 rfl rfl (Nat.le_of_ble_eq_true rfl) d_GT_output_2 ⟨Nat.zero_le _, Nat.zero_le _⟩
  clear hq
  refine jk_r hr hA hP hD hS [0, 1] [] (WR := []) rfl rfl (by decide) (by decide) [0, 1] (WF := [(t0, .inr (5, [.ref l1, .int htl, .ref s0, .ref h2, .int hlf, .int hll])), (h2, .inl (E.2.1 4, 3, .inr (.inr (.inr (.inr hgs)))))]) rfl (by decide) ?_
  clear hP hD hS
  intro H locs hP hD hS
  clear hr
  refine lv_astore_nN (lv' := [(3, .null), (0, .ref t0), (1, .int p1), (2, .int p2)]) J.1 J.2.1 d_GT_output_5 rfl hl (by decide) rfl ?_
  clear hl
  intro ls hl
  refine lv_aload_nN J.1 J.2.1 d_GT_output_6 rfl (lv_at hl 0 rfl) ?_
  refine lv_ifnonnullN J.1 J.2.1 d_GT_output_7 ?_
  refine lv_iconst (v := (-1)) J.1 J.2.1 d_GT_output_10 (by decide) ?_
  refine lv_goto (tgt := 25) J.1 J.2.1 d_GT_output_11 (by decide) ?_
  have h := Option.some.inj h
  rw [← h]
  exact jr_i J hS hP hD rfl d_GT_output_25

def f_GT_outputg (ksnt : Int32) (ksen : Nat → Int32) (p1 : Int32) (p2 : Int32) : Option (Int32) := ((f_CO_sentByte ksnt ksen p2).bind fun r_1 => (some r_1))
set_option maxHeartbeats 4000000 in
set_option maxRecDepth 100000 in
theorem ct_GT_outputg (l : Launch) (E : jz_E) (a0 a1 a2 a3 g0 h2 k0 k1 k2 l1 s0 t0 : Nat) (sz : Nat) (htl : Int32) (hlf : Int32) (hll : Int32) (hgs : Nat → Option Nat) (gsz : Int32) (gdp : Int32) (gst : Int32) (gsp : Int32) (vsz : Int32) (vmd : Int32) (vpc : Int32) (vba : Int32) (vbo : Int32) (vre : Int32) (vti : Int32) (vro : Int32) (vha : Int32) (kold : Int32) (kwai : Int32) (ksnt : Int32) (ksen : Nat → Int32) (p1 : Int32) (p2 : Int32) (o_r : Int32)  (hg : f_GT_guestAt hgs p1 = some (.ref g0)) (h : f_GT_outputg ksnt ksen p1 p2 = some o_r) : CTi l E y_GT_output c_GT_output 4 (some .int) ({ frames := 2, cells := 0, slots := 0, locals := 41 }) [.ref t0, .int p1, .int p2] [(t0, .inr (5, [.ref l1, .int htl, .ref s0, .ref h2, .int hlf, .int hll])), (h2, .inl (E.2.1 4, 3, .inr (.inr (.inr (.inr hgs))))), (g0, .inr (2, [.ref a0, .int gsz, .int gdp, .int gst, .int gsp])), (a0, .inr (0, [.ref a1, .ref a2, .ref a3, .ref k0, .int vsz, .int vmd, .int vpc, .int vba, .int vbo, .int vre, .int vti, .int vro, .int vha])), (k0, .inr (1, [.ref k1, .ref k2, .int kold, .int kwai, .int ksnt])), (k2, .inl (E.2.1 0, 500, .inl ksen))] sz o_r [(t0, .inr (5, [.ref l1, .int htl, .ref s0, .ref h2, .int hlf, .int hll])), (h2, .inl (E.2.1 4, 3, .inr (.inr (.inr (.inr hgs))))), (g0, .inr (2, [.ref a0, .int gsz, .int gdp, .int gst, .int gsp])), (a0, .inr (0, [.ref a1, .ref a2, .ref a3, .ref k0, .int vsz, .int vmd, .int vpc, .int vba, .int vbo, .int vre, .int vti, .int vro, .int vha])), (k0, .inr (1, [.ref k1, .ref k2, .int kold, .int kwai, .int ksnt])), (k2, .inl (E.2.1 0, 500, .inl ksen))] := by
  refine jw (by decide +kernel) (Nat.le_of_ble_eq_true rfl) ?_
  intro p e s m below meth c A ls J hJ hAe hsz hA hZ hP hD hl
  rw [← hAe]
  have hS : va_S A s.heap s.heap [] := va_S.rf
  have hl : lv_has ls 4 [(0, .ref t0), (1, .int p1), (2, .int p2)] := hl
  unfold f_GT_outputg at h
  refine lv_aload_n J.1 J.2.1 d_GT_output_0 rfl (lv_at hl 0 rfl) ?_
  refine lv_iload_n J.1 J.2.1 d_GT_output_1 rfl (lv_at hl 1 rfl) ?_
  have hq := ct_GT_guestAt l E t0 l1 s0 h2 s.heap.size htl hlf hll hgs p1 (.ref g0) hg
  have hr := jrunV (p := p) (e := e) (below := below) (R := ({ frames := 2, cells := 0, slots := 0, locals := 41 })) (cells := 0) (slots := 0) (As := [.int p1]) (rest := []) J hJ hA hZ hP hD hS hq [0, 1] rfl (by decide) gl_GT_65 gi_GT_guestAt gsel_GT_guestAt gini_GT gc_GT_guestAt hd_GT_guestAt ⟨rfl, rfl, Nat.le_of_ble_eq_true rfl, Nat.le_of_ble_eq_true rfl⟩ rfl rfl hl.1 rfl rfl (Nat.le_of_ble_eq_true rfl) d_GT_output_2 ⟨Nat.zero_le _, Nat.zero_le _⟩
  clear hq
  refine jk_r hr hA hP hD hS [0, 1] [2, 3, 4, 5] (WR := [(g0, .inr (2, [.ref a0, .int gsz, .int gdp, .int gst, .int gsp])), (a0, .inr (0, [.ref a1, .ref a2, .ref a3, .ref k0, .int vsz, .int vmd, .int vpc, .int vba, .int vbo, .int vre, .int vti, .int vro, .int vha])), (k0, .inr (1, [.ref k1, .ref k2, .int kold, .int kwai, .int ksnt])), (k2, .inl (E.2.1 0, 500, .inl ksen))]) rfl rfl (by decide) (by decide) [4, 5, 0, 1, 2, 3] (WF := [(t0, .inr (5, [.ref l1, .int htl, .ref s0, .ref h2, .int hlf, .int hll])), (h2, .inl (E.2.1 4, 3, .inr (.inr (.inr (.inr hgs))))), (g0, .inr (2, [.ref a0, .int gsz, .int gdp, .int gst, .int gsp])), (a0, .inr (0, [.ref a1, .ref a2, .ref a3, .ref k0, .int vsz, .int vmd, .int vpc, .int vba, .int vbo, .int vre, .int vti, .int vro, .int vha])), (k0, .inr (1, [.ref k1, .ref k2, .int kold, .int kwai, .int ksnt])), (k2, .inl (E.2.1 0, 500, .inl ksen))]) rfl (by decide) ?_
  clear hP hD hS
  intro H locs hP hD hS
  clear hr
  refine lv_astore_n (lv' := [(3, .ref g0), (0, .ref t0), (1, .int p1), (2, .int p2)]) J.1 J.2.1 d_GT_output_5 rfl hl (by decide) rfl ?_
  clear hl
  intro ls hl
  refine lv_aload_n J.1 J.2.1 d_GT_output_6 rfl (lv_at hl 0 rfl) ?_
  refine lv_ifnonnull (tgt := 14) J.1 J.2.1 d_GT_output_7 (by decide) ?_
  refine lv_aload_n J.1 J.2.1 d_GT_output_14 rfl (lv_at hl 0 rfl) ?_
  refine jgN J hJ hP 2 rfl rfl i_GU 0 (by decide) gn_GT_73 rfl d_GT_output_15 ?_
  refine jgN J hJ hP 3 rfl rfl i_MA 3 (by decide) gn_GT_77 rfl d_GT_output_18 ?_
  refine lv_iload_n J.1 J.2.1 d_GT_output_21 rfl (lv_at hl 3 rfl) ?_
  replace h := g_bd h
  obtain ⟨r_1, q_1, h⟩ := h
  have hq := ct_CO_sentByte l E k0 k1 k2 H.size kold kwai ksnt ksen p2 r_1 q_1
  have hr := jrunV (p := p) (e := e) (below := below) (R := ({ frames := 2, cells := 0, slots := 0, locals := 41 })) (cells := 0) (slots := 0) (As := [.int p2]) (rest := []) J hJ hA hZ hP hD hS hq [4, 5] rfl (by decide) gl_GT_94 gi_CO_sentByte gsel_CO_sentByte gini_CO gc_CO_sentByte hd_CO_sentByte ⟨rfl, rfl, Nat.le_of_ble_eq_true rfl, Nat.le_of_ble_eq_true rfl⟩ rfl rfl hl.1 rfl rfl (Nat.le_of_ble_eq_true rfl) d_GT_output_22 ⟨Nat.zero_le _, Nat.zero_le _⟩
  clear hq
  refine jk_i hr hA hP hD hS [4, 5] [0, 1, 2, 3] (WR := [(t0, .inr (5, [.ref l1, .int htl, .ref s0, .ref h2, .int hlf, .int hll])), (h2, .inl (E.2.1 4, 3, .inr (.inr (.inr (.inr hgs))))), (g0, .inr (2, [.ref a0, .int gsz, .int gdp, .int gst, .int gsp])), (a0, .inr (0, [.ref a1, .ref a2, .ref a3, .ref k0, .int vsz, .int vmd, .int vpc, .int vba, .int vbo, .int vre, .int vti, .int vro, .int vha]))]) rfl rfl (by decide) (by decide) [0, 1, 2, 3, 4, 5] (WF := [(t0, .inr (5, [.ref l1, .int htl, .ref s0, .ref h2, .int hlf, .int hll])), (h2, .inl (E.2.1 4, 3, .inr (.inr (.inr (.inr hgs))))), (g0, .inr (2, [.ref a0, .int gsz, .int gdp, .int gst, .int gsp])), (a0, .inr (0, [.ref a1, .ref a2, .ref a3, .ref k0, .int vsz, .int vmd, .int vpc, .int vba, .int vbo, .int vre, .int vti, .int vro, .int vha])), (k0, .inr (1, [.ref k1, .ref k2, .int kold, .int kwai, .int ksnt])), (k2, .inl (E.2.1 0, 500, .inl ksen))]) rfl (by decide) ?_
  clear hP hD hS
  intro H locs hP hD hS
  clear hr
  have h := Option.some.inj h
  rw [← h]
  exact jr_i J hS hP hD rfl d_GT_output_25

def f_GT_diskn (p1 : Int32) (p2 : Int32) (p3 : Int32) : Option (Int32) := (some (-1))
set_option maxHeartbeats 4000000 in
set_option maxRecDepth 100000 in
theorem ct_GT_diskn (l : Launch) (E : jz_E) (h2 l1 s0 t0 : Nat) (sz : Nat) (htl : Int32) (hlf : Int32) (hll : Int32) (hgs : Nat → Option Nat) (p1 : Int32) (p2 : Int32) (p3 : Int32) (o_r : Int32)  (hg : f_GT_guestAt hgs p1 = some .null) (h : f_GT_diskn p1 p2 p3 = some o_r) : CTi l E y_GT_disk c_GT_disk 5 (some .int) ({ frames := 2, cells := 0, slots := 0, locals := 41 }) [.ref t0, .int p1, .int p2, .int p3] [(t0, .inr (5, [.ref l1, .int htl, .ref s0, .ref h2, .int hlf, .int hll])), (h2, .inl (E.2.1 4, 3, .inr (.inr (.inr (.inr hgs)))))] sz o_r [(t0, .inr (5, [.ref l1, .int htl, .ref s0, .ref h2, .int hlf, .int hll])), (h2, .inl (E.2.1 4, 3, .inr (.inr (.inr (.inr hgs)))))] := by
  refine jw (by decide +kernel) (Nat.le_of_ble_eq_true rfl) ?_
  intro p e s m below meth c A ls J hJ hAe hsz hA hZ hP hD hl
  rw [← hAe]
  have hS : va_S A s.heap s.heap [] := va_S.rf
  have hl : lv_has ls 5 [(0, .ref t0), (1, .int p1), (2, .int p2), (3, .int p3)] := hl
  unfold f_GT_diskn at h
  refine lv_aload_n J.1 J.2.1 d_GT_disk_0 rfl (lv_at hl 0 rfl) ?_
  refine lv_iload_n J.1 J.2.1 d_GT_disk_1 rfl (lv_at hl 1 rfl) ?_
  have hq := ct_GT_guestAt l E t0 l1 s0 h2 s.heap.size htl hlf hll hgs p1 (.null) hg
  have hr := jrunV (p := p) (e := e) (below := below) (R := ({ frames := 2, cells := 0, slots := 0, locals := 41 })) (cells := 0) (slots := 0) (As := [.int p1]) (rest := []) J hJ hA hZ hP hD hS hq [0, 1] rfl (by decide) gl_GT_65 gi_GT_guestAt gsel_GT_guestAt gini_GT gc_GT_guestAt hd_GT_guestAt ⟨rfl, rfl, Nat.le_of_ble_eq_true rfl, Nat.le_of_ble_eq_true rfl⟩ rfl rfl hl.1 rfl rfl (Nat.le_of_ble_eq_true rfl) d_GT_disk_2 ⟨Nat.zero_le _, Nat.zero_le _⟩
  clear hq
  refine jk_r hr hA hP hD hS [0, 1] [] (WR := []) rfl rfl (by decide) (by decide) [0, 1] (WF := [(t0, .inr (5, [.ref l1, .int htl, .ref s0, .ref h2, .int hlf, .int hll])), (h2, .inl (E.2.1 4, 3, .inr (.inr (.inr (.inr hgs)))))]) rfl (by decide) ?_
  clear hP hD hS
  intro H locs hP hD hS
  clear hr
  refine lv_astoreN (lv' := [(4, .null), (0, .ref t0), (1, .int p1), (2, .int p2), (3, .int p3)]) J.1 J.2.1 d_GT_disk_5 hl (by decide) rfl ?_
  clear hl
  intro ls hl
  refine lv_aloadN J.1 J.2.1 d_GT_disk_7 (lv_at hl 0 rfl) ?_
  refine lv_ifnonnullN J.1 J.2.1 d_GT_disk_9 ?_
  refine lv_iconst (v := (-1)) J.1 J.2.1 d_GT_disk_12 (by decide) ?_
  refine lv_goto (tgt := 26) J.1 J.2.1 d_GT_disk_13 (by decide) ?_
  have h := Option.some.inj h
  rw [← h]
  exact jr_i J hS hP hD rfl d_GT_disk_26

def f_GT_diskg (vblk : Nat → Int32) (p1 : Int32) (p2 : Int32) (p3 : Int32) : Option (Int32) := ((f_MA_blockWord vblk p2 p3).bind fun r_1 => (some r_1))
set_option maxHeartbeats 4000000 in
set_option maxRecDepth 100000 in
theorem ct_GT_diskg (l : Launch) (E : jz_E) (a0 a1 a2 a3 g0 h2 k0 l1 s0 t0 : Nat) (sz : Nat) (htl : Int32) (hlf : Int32) (hll : Int32) (hgs : Nat → Option Nat) (gsz : Int32) (gdp : Int32) (gst : Int32) (gsp : Int32) (vsz : Int32) (vmd : Int32) (vpc : Int32) (vba : Int32) (vbo : Int32) (vre : Int32) (vti : Int32) (vro : Int32) (vha : Int32) (vblk : Nat → Int32) (p1 : Int32) (p2 : Int32) (p3 : Int32) (o_r : Int32)  (hg : f_GT_guestAt hgs p1 = some (.ref g0)) (h : f_GT_diskg vblk p1 p2 p3 = some o_r) : CTi l E y_GT_disk c_GT_disk 5 (some .int) ({ frames := 2, cells := 0, slots := 0, locals := 41 }) [.ref t0, .int p1, .int p2, .int p3] [(t0, .inr (5, [.ref l1, .int htl, .ref s0, .ref h2, .int hlf, .int hll])), (h2, .inl (E.2.1 4, 3, .inr (.inr (.inr (.inr hgs))))), (g0, .inr (2, [.ref a0, .int gsz, .int gdp, .int gst, .int gsp])), (a0, .inr (0, [.ref a1, .ref a2, .ref a3, .ref k0, .int vsz, .int vmd, .int vpc, .int vba, .int vbo, .int vre, .int vti, .int vro, .int vha])), (a3, .inl (E.2.1 0, 128, .inl vblk))] sz o_r [(t0, .inr (5, [.ref l1, .int htl, .ref s0, .ref h2, .int hlf, .int hll])), (h2, .inl (E.2.1 4, 3, .inr (.inr (.inr (.inr hgs))))), (g0, .inr (2, [.ref a0, .int gsz, .int gdp, .int gst, .int gsp])), (a0, .inr (0, [.ref a1, .ref a2, .ref a3, .ref k0, .int vsz, .int vmd, .int vpc, .int vba, .int vbo, .int vre, .int vti, .int vro, .int vha])), (a3, .inl (E.2.1 0, 128, .inl vblk))] := by
  refine jw (by decide +kernel) (Nat.le_of_ble_eq_true rfl) ?_
  intro p e s m below meth c A ls J hJ hAe hsz hA hZ hP hD hl
  rw [← hAe]
  have hS : va_S A s.heap s.heap [] := va_S.rf
  have hl : lv_has ls 5 [(0, .ref t0), (1, .int p1), (2, .int p2), (3, .int p3)] := hl
  unfold f_GT_diskg at h
  refine lv_aload_n J.1 J.2.1 d_GT_disk_0 rfl (lv_at hl 0 rfl) ?_
  refine lv_iload_n J.1 J.2.1 d_GT_disk_1 rfl (lv_at hl 1 rfl) ?_
  have hq := ct_GT_guestAt l E t0 l1 s0 h2 s.heap.size htl hlf hll hgs p1 (.ref g0) hg
  have hr := jrunV (p := p) (e := e) (below := below) (R := ({ frames := 2, cells := 0, slots := 0, locals := 41 })) (cells := 0) (slots := 0) (As := [.int p1]) (rest := []) J hJ hA hZ hP hD hS hq [0, 1] rfl (by decide) gl_GT_65 gi_GT_guestAt gsel_GT_guestAt gini_GT gc_GT_guestAt hd_GT_guestAt ⟨rfl, rfl, Nat.le_of_ble_eq_true rfl, Nat.le_of_ble_eq_true rfl⟩ rfl rfl hl.1 rfl rfl (Nat.le_of_ble_eq_true rfl) d_GT_disk_2 ⟨Nat.zero_le _, Nat.zero_le _⟩
  clear hq
  refine jk_r hr hA hP hD hS [0, 1] [2, 3, 4] (WR := [(g0, .inr (2, [.ref a0, .int gsz, .int gdp, .int gst, .int gsp])), (a0, .inr (0, [.ref a1, .ref a2, .ref a3, .ref k0, .int vsz, .int vmd, .int vpc, .int vba, .int vbo, .int vre, .int vti, .int vro, .int vha])), (a3, .inl (E.2.1 0, 128, .inl vblk))]) rfl rfl (by decide) (by decide) [3, 4, 0, 1, 2] (WF := [(t0, .inr (5, [.ref l1, .int htl, .ref s0, .ref h2, .int hlf, .int hll])), (h2, .inl (E.2.1 4, 3, .inr (.inr (.inr (.inr hgs))))), (g0, .inr (2, [.ref a0, .int gsz, .int gdp, .int gst, .int gsp])), (a0, .inr (0, [.ref a1, .ref a2, .ref a3, .ref k0, .int vsz, .int vmd, .int vpc, .int vba, .int vbo, .int vre, .int vti, .int vro, .int vha])), (a3, .inl (E.2.1 0, 128, .inl vblk))]) rfl (by decide) ?_
  clear hP hD hS
  intro H locs hP hD hS
  clear hr
  refine lv_astore (lv' := [(4, .ref g0), (0, .ref t0), (1, .int p1), (2, .int p2), (3, .int p3)]) J.1 J.2.1 d_GT_disk_5 hl (by decide) rfl ?_
  clear hl
  intro ls hl
  refine lv_aload J.1 J.2.1 d_GT_disk_7 (lv_at hl 0 rfl) ?_
  refine lv_ifnonnull (tgt := 16) J.1 J.2.1 d_GT_disk_9 (by decide) ?_
  refine lv_aload J.1 J.2.1 d_GT_disk_16 (lv_at hl 0 rfl) ?_
  refine jgN J hJ hP 2 rfl rfl i_GU 0 (by decide) gn_GT_73 rfl d_GT_disk_18 ?_
  refine lv_iload_n J.1 J.2.1 d_GT_disk_21 rfl (lv_at hl 3 rfl) ?_
  refine lv_iload_n J.1 J.2.1 d_GT_disk_22 rfl (lv_at hl 4 rfl) ?_
  replace h := g_bd h
  obtain ⟨r_1, q_1, h⟩ := h
  have hq := ct_MA_blockWord l E a0 a1 a2 a3 k0 H.size vsz vmd vpc vba vbo vre vti vro vha vblk p2 p3 r_1 q_1
  have hr := jrunV (p := p) (e := e) (below := below) (R := ({ frames := 2, cells := 0, slots := 0, locals := 41 })) (cells := 0) (slots := 0) (As := [.int p2, .int p3]) (rest := []) J hJ hA hZ hP hD hS hq [3, 4] rfl (by decide) gl_GT_97 gi_MA_blockWord gsel_MA_blockWord gini_MA gc_MA_blockWord hd_MA_blockWord ⟨rfl, rfl, Nat.le_of_ble_eq_true rfl, Nat.le_of_ble_eq_true rfl⟩ rfl rfl hl.1 rfl rfl (Nat.le_of_ble_eq_true rfl) d_GT_disk_23 ⟨Nat.zero_le _, Nat.zero_le _⟩
  clear hq
  refine jk_i hr hA hP hD hS [3, 4] [0, 1, 2] (WR := [(t0, .inr (5, [.ref l1, .int htl, .ref s0, .ref h2, .int hlf, .int hll])), (h2, .inl (E.2.1 4, 3, .inr (.inr (.inr (.inr hgs))))), (g0, .inr (2, [.ref a0, .int gsz, .int gdp, .int gst, .int gsp]))]) rfl rfl (by decide) (by decide) [0, 1, 2, 3, 4] (WF := [(t0, .inr (5, [.ref l1, .int htl, .ref s0, .ref h2, .int hlf, .int hll])), (h2, .inl (E.2.1 4, 3, .inr (.inr (.inr (.inr hgs))))), (g0, .inr (2, [.ref a0, .int gsz, .int gdp, .int gst, .int gsp])), (a0, .inr (0, [.ref a1, .ref a2, .ref a3, .ref k0, .int vsz, .int vmd, .int vpc, .int vba, .int vbo, .int vre, .int vti, .int vro, .int vha])), (a3, .inl (E.2.1 0, 128, .inl vblk))]) rfl (by decide) ?_
  clear hP hD hS
  intro H locs hP hD hS
  clear hr
  have h := Option.some.inj h
  rw [← h]
  exact jr_i J hS hP hD rfl d_GT_disk_26
theorem hd_GT_run : y_GT_run.cls ≠ "java/lang/invoke/MethodHandle" ∧ y_GT_run.cls ≠ "java/lang/invoke/VarHandle" ∧ (parseMethodDescriptor y_GT_run.desc).map (fun d => d.parameters.length) = some 2 := by decide +kernel
theorem hd_GT_type : y_GT_type.cls ≠ "java/lang/invoke/MethodHandle" ∧ y_GT_type.cls ≠ "java/lang/invoke/VarHandle" ∧ (parseMethodDescriptor y_GT_type.desc).map (fun d => d.parameters.length) = some 2 := by decide +kernel
theorem hd_GT_look : y_GT_look.cls ≠ "java/lang/invoke/MethodHandle" ∧ y_GT_look.cls ≠ "java/lang/invoke/VarHandle" ∧ (parseMethodDescriptor y_GT_look.desc).map (fun d => d.parameters.length) = some 2 := by decide +kernel
theorem hd_GT_word : y_GT_word.cls ≠ "java/lang/invoke/MethodHandle" ∧ y_GT_word.cls ≠ "java/lang/invoke/VarHandle" ∧ (parseMethodDescriptor y_GT_word.desc).map (fun d => d.parameters.length) = some 2 := by decide +kernel
theorem hd_GT_output : y_GT_output.cls ≠ "java/lang/invoke/MethodHandle" ∧ y_GT_output.cls ≠ "java/lang/invoke/VarHandle" ∧ (parseMethodDescriptor y_GT_output.desc).map (fun d => d.parameters.length) = some 2 := by decide +kernel
theorem hd_GT_disk : y_GT_disk.cls ≠ "java/lang/invoke/MethodHandle" ∧ y_GT_disk.cls ≠ "java/lang/invoke/VarHandle" ∧ (parseMethodDescriptor y_GT_disk.desc).map (fun d => d.parameters.length) = some 3 := by decide +kernel
