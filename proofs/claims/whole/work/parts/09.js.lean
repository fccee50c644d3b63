/-! THE ONE TEXT: String.charAt on it -/
theorem dj_c0 : decode c_JS_charAt 0 = .ok (.aload_n 0, 1) := by decide +kernel
theorem dj_c1 : decode c_JS_charAt 1 = .ok (.invokevirtual 492, 3) := by decide +kernel
theorem dj_c4 : decode c_JS_charAt 4 = .ok (.ifCond .eq 12, 3) := by decide +kernel
theorem dj_c7 : decode c_JS_charAt 7 = .ok (.aload_n 0, 1) := by decide +kernel
theorem dj_c8 : decode c_JS_charAt 8 = .ok (.getfield 9, 3) := by decide +kernel
theorem dj_c11 : decode c_JS_charAt 11 = .ok (.iload_n 1, 1) := by decide +kernel
theorem dj_c12 : decode c_JS_charAt 12 = .ok (.invokestatic 495, 3) := by decide +kernel
theorem dj_c15 : decode c_JS_charAt 15 = .ok (.ireturn, 1) := by decide +kernel
theorem dj_l0 : decode c_JS_isLatin1 0 = .ok (.getstatic 38, 3) := by decide +kernel
theorem dj_l3 : decode c_JS_isLatin1 3 = .ok (.ifCond .eq 14, 3) := by decide +kernel
theorem dj_l6 : decode c_JS_isLatin1 6 = .ok (.aload_n 0, 1) := by decide +kernel
theorem dj_l7 : decode c_JS_isLatin1 7 = .ok (.getfield 15, 3) := by decide +kernel
theorem dj_l10 : decode c_JS_isLatin1 10 = .ok (.ifCond .ne 7, 3) := by decide +kernel
theorem dj_l13 : decode c_JS_isLatin1 13 = .ok (.iconst 1, 1) := by decide +kernel
theorem dj_l14 : decode c_JS_isLatin1 14 = .ok (.goto 4, 3) := by decide +kernel
theorem dj_l18 : decode c_JS_isLatin1 18 = .ok (.ireturn, 1) := by decide +kernel
theorem dj_x0 : decode c_JS_checkIndex 0 = .ok (.iload_n 0, 1) := by decide +kernel
theorem dj_x1 : decode c_JS_checkIndex 1 = .ok (.iload_n 1, 1) := by decide +kernel
theorem dj_x2 : decode c_JS_checkIndex 2 = .ok (.getstatic 1053, 3) := by decide +kernel
theorem dj_x5 : decode c_JS_checkIndex 5 = .ok (.invokestatic 1059, 3) := by decide +kernel
theorem dj_x8 : decode c_JS_checkIndex 8 = .ok (.pop, 1) := by decide +kernel
theorem dj_x9 : decode c_JS_checkIndex 9 = .ok (.return_, 1) := by decide +kernel
theorem dj_t0 : decode c_JL_charAt 0 = .ok (.iload_n 1, 1) := by decide +kernel
theorem dj_t1 : decode c_JL_charAt 1 = .ok (.aload_n 0, 1) := by decide +kernel
theorem dj_t2 : decode c_JL_charAt 2 = .ok (.arraylength, 1) := by decide +kernel
theorem dj_t3 : decode c_JL_charAt 3 = .ok (.invokestatic 9, 3) := by decide +kernel
theorem dj_t6 : decode c_JL_charAt 6 = .ok (.aload_n 0, 1) := by decide +kernel
theorem dj_t7 : decode c_JL_charAt 7 = .ok (.iload_n 1, 1) := by decide +kernel
theorem dj_t8 : decode c_JL_charAt 8 = .ok (.baload, 1) := by decide +kernel
theorem dj_t9 : decode c_JL_charAt 9 = .ok (.sipush 255, 3) := by decide +kernel
theorem dj_t12 : decode c_JL_charAt 12 = .ok (.iand, 1) := by decide +kernel
theorem dj_t13 : decode c_JL_charAt 13 = .ok (.i2c, 1) := by decide +kernel
theorem dj_t14 : decode c_JL_charAt 14 = .ok (.ireturn, 1) := by decide +kernel
theorem dj_p0 : decode c_JP_checkIndex 0 = .ok (.iload_n 0, 1) := by decide +kernel
theorem dj_p1 : decode c_JP_checkIndex 1 = .ok (.ifCond .lt 8, 3) := by decide +kernel
theorem dj_p4 : decode c_JP_checkIndex 4 = .ok (.iload_n 0, 1) := by decide +kernel
theorem dj_p5 : decode c_JP_checkIndex 5 = .ok (.iload_n 1, 1) := by decide +kernel
theorem dj_p6 : decode c_JP_checkIndex 6 = .ok (.if_icmp .lt 10, 3) := by decide +kernel
theorem dj_p16 : decode c_JP_checkIndex 16 = .ok (.iload_n 0, 1) := by decide +kernel
theorem dj_p17 : decode c_JP_checkIndex 17 = .ok (.ireturn, 1) := by decide +kernel
theorem hd_JS_charAt : y_JS_charAt.cls ≠ "java/lang/invoke/MethodHandle" ∧ y_JS_charAt.cls ≠ "java/lang/invoke/VarHandle" ∧ (parseMethodDescriptor y_JS_charAt.desc).map (fun d => d.parameters.length) = some 1 := by decide +kernel
theorem hd_JS_isLatin1 : y_JS_isLatin1.cls ≠ "java/lang/invoke/MethodHandle" ∧ y_JS_isLatin1.cls ≠ "java/lang/invoke/VarHandle" ∧ (parseMethodDescriptor y_JS_isLatin1.desc).map (fun d => d.parameters.length) = some 0 := by decide +kernel
theorem hd_JS_checkIndex : y_JS_checkIndex.cls ≠ "java/lang/invoke/MethodHandle" ∧ y_JS_checkIndex.cls ≠ "java/lang/invoke/VarHandle" ∧ (parseMethodDescriptor y_JS_checkIndex.desc).map (fun d => d.parameters.length) = some 2 := by decide +kernel
theorem hd_JL_charAt : y_JL_charAt.cls ≠ "java/lang/invoke/MethodHandle" ∧ y_JL_charAt.cls ≠ "java/lang/invoke/VarHandle" ∧ (parseMethodDescriptor y_JL_charAt.desc).map (fun d => d.parameters.length) = some 2 := by decide +kernel
theorem hd_JP_checkIndex : y_JP_checkIndex.cls ≠ "java/lang/invoke/MethodHandle" ∧ y_JP_checkIndex.cls ≠ "java/lang/invoke/VarHandle" ∧ (parseMethodDescriptor y_JP_checkIndex.desc).map (fun d => d.parameters.length) = some 3 := by decide +kernel
def f_JS_charAt (p1 : Int32) : Option Int32 := if ck p1 168 then some (((sByt.getD 0 []).getD p1.toNatClampNeg 0 &&& 255).toUInt32 % 65536).toInt32 else none
theorem ck_lt {i n : Int32} {N : Nat} (hn : n.toInt = N) (h : ck i N) : ¬ i < 0 ∧ i < n := by
  have h0 : ¬ i < 0 := fun q => h (Or.inl q)
  refine ⟨h0, ?_⟩
  have h1 : i.toNatClampNeg < N := Nat.not_le.mp fun q => h (Or.inr q)
  rw [Int32.lt_iff_toInt_lt, hn]
  have h2 : ¬ i.toInt < 0 := fun q => h0 (by rw [Int32.lt_iff_toInt_lt]; simpa using q)
  have h3 : i.toNatClampNeg = i.toInt.toNat := rfl
  omega
set_option maxHeartbeats 4000000 in
set_option maxRecDepth 100000 in
theorem ct_JP_checkIndex (l : Launch) (E : jz_E) (sz : Nat) (p0 p1 : Int32) (v : Value) (hv : v = .null ∨ ∃ a, v = .ref a) (h : ¬ p0 < 0 ∧ p0 < p1) : CTi l E y_JP_checkIndex c_JP_checkIndex 3 (some .int) ({ frames := 0, cells := 0, slots := 0, locals := 0 }) [.int p0, .int p1, v] [] sz p0 [] := by
  refine jw (by decide +kernel) (by rcases hv with rfl | ⟨a, rfl⟩ <;> exact Nat.le_of_ble_eq_true rfl) ?_
  intro p e s m below meth c A ls J hJ hAe hsz hA hZ hP hD hl
  rw [← hAe]
  have hS : va_S A s.heap s.heap [] := va_S.rf
  have hl : lv_has ls 3 [(0, .int p0), (1, .int p1)] := lv_sub hl [0, 1] rfl
  refine lv_iload_n J.1 J.2.1 dj_p0 rfl (lv_at hl 0 rfl) ?_
  refine lv_if_lt (tgt := 9) J.1 J.2.1 dj_p1 (by decide) (fun c_1 => ?_) (fun c_1 => ?_)
  · exact absurd c_1 h.1
  refine lv_iload_n J.1 J.2.1 dj_p4 rfl (lv_at hl 0 rfl) ?_
  refine lv_iload_n J.1 J.2.1 dj_p5 rfl (lv_at hl 1 rfl) ?_
  refine lv_icmp_lt (tgt := 16) J.1 J.2.1 dj_p6 (by decide) (fun c_2 => ?_) (fun c_2 => ?_)
  · refine lv_iload_n J.1 J.2.1 dj_p16 rfl (lv_at hl 0 rfl) ?_
    exact jr_i J hS hP hD rfl dj_p17
  · exact absurd h.2 c_2
set_option maxHeartbeats 4000000 in
set_option maxRecDepth 100000 in
theorem ct_JS_checkIndex (l : Launch) (E : jz_E) (sz : Nat) (p0 p1 : Int32) (h : ¬ p0 < 0 ∧ p0 < p1) : CTv l E y_JS_checkIndex c_JS_checkIndex 2 none ({ frames := 1, cells := 0, slots := 0, locals := 22 }) [.int p0, .int p1] [] sz [] := by
  refine jw (by decide +kernel) (Nat.le_of_ble_eq_true rfl) ?_
  intro p e s m below meth c A ls J hJ hAe hsz hA hZ hP hD hl
  rw [← hAe]
  have hS : va_S A s.heap s.heap [] := va_S.rf
  have hl : lv_has ls 2 [(0, .int p0), (1, .int p1)] := hl
  refine lv_iload_n J.1 J.2.1 dj_x0 rfl (lv_at hl 0 rfl) ?_
  refine lv_iload_n J.1 J.2.1 dj_x1 rfl (lv_at hl 1 rfl) ?_
  obtain ⟨v, hq, hv⟩ : ∃ v : Value, (v = .null ∨ ∃ a, v = .ref a) ∧ va_Z "jdk/internal/util/Preconditions" "SIOOBE_FORMATTER" "Ljava/util/function/BiFunction;" v A s s.heap := by
    rcases hZ.2.2.2.2 with q | ⟨t, q⟩
    · exact ⟨_, Or.inl rfl, q⟩
    · exact ⟨_, Or.inr ⟨t, rfl⟩, q⟩
  refine va_gets J.1 J.2.1 hv hS J.2.2.2.2.1 (J.2.2.2.2.2.1 _ gf_JS_1053) (fun _ h => h) dj_x2 ?_
  refine jk_i (jrunS (As := [.int p0, .int p1, v]) (rest := []) J hJ hA hZ hP hD hS (ct_JP_checkIndex l E _ p0 p1 v hq h) [] rfl (by decide) gl_JS_1059 gs_JP_checkIndex gini_JP gc_JP_checkIndex hd_JP_checkIndex ⟨rfl, rfl, Nat.le_of_ble_eq_true rfl, Nat.le_of_ble_eq_true rfl⟩ hl.1 rfl rfl (Nat.le_of_ble_eq_true rfl) dj_x5 ⟨Nat.zero_le _, Nat.zero_le _⟩) hA hP hD hS [] [] (WR := []) rfl rfl (by decide) (by decide) [] (WF := []) rfl (by decide) (fun H locs hP hD hS => ?_)
  refine lv_pop J.1 J.2.1 dj_x8 rfl ?_
  exact jr_v J hS hP hD dj_x9
set_option maxHeartbeats 4000000 in
set_option maxRecDepth 100000 in
theorem ct_JL_charAt (l : Launch) (E : jz_E) (sz : Nat) (p1 o_r : Int32) (h : f_JS_charAt p1 = some o_r) : CTi l E y_JL_charAt c_JL_charAt 2 (some .char) ({ frames := 2, cells := 0, slots := 0, locals := 43 }) [.ref E.2.2.2.2.2, .int p1] [] sz o_r [] := by
  refine jw (by decide +kernel) (Nat.le_of_ble_eq_true rfl) ?_
  intro p e s m below meth c A ls J hJ hAe hsz hA hZ hP hD hl
  rw [← hAe]
  have hS : va_S A s.heap s.heap [] := va_S.rf
  have hl : lv_has ls 2 [(0, .ref E.2.2.2.2.2), (1, .int p1)] := hl
  obtain ⟨k_1, h⟩ := g_ck h
  have hT := (hZ.2.2.1.1 0 (by decide)).2.2.2
  refine lv_iload_n J.1 J.2.1 dj_t0 rfl (lv_at hl 1 rfl) ?_
  refine lv_aload_n J.1 J.2.1 dj_t1 rfl (lv_at hl 0 rfl) ?_
  refine va_tlen J.1 J.2.1 hT hS (v := 168) rfl dj_t2 ?_
  refine jk_v (jrunS (As := [.int p1, .int 168]) (rest := []) J hJ hA hZ hP hD hS (ct_JS_checkIndex l E _ p1 168 (ck_lt rfl k_1)) [] rfl (by decide) gl_JL_9 gs_JS_checkIndex gini_JS gc_JS_checkIndex hd_JS_checkIndex ⟨rfl, rfl, Nat.le_of_ble_eq_true rfl, Nat.le_of_ble_eq_true rfl⟩ hl.1 rfl rfl (Nat.le_of_ble_eq_true rfl) dj_t3 ⟨Nat.zero_le _, Nat.zero_le _⟩) hA hP hD hS [] [] (WR := []) rfl rfl (by decide) (by decide) [] (WF := []) rfl (by decide) (fun H locs hP hD hS => ?_)
  refine lv_aload_n J.1 J.2.1 dj_t6 rfl (lv_at hl 0 rfl) ?_
  refine lv_iload_n J.1 J.2.1 dj_t7 rfl (lv_at hl 1 rfl) ?_
  refine va_tb J.1 J.2.1 hT hS k_1 rfl dj_t8 ?_
  refine lv_sipush (v := 255) J.1 J.2.1 dj_t9 (by decide) ?_
  refine lv_iand J.1 J.2.1 dj_t12 ?_
  refine lv_i2c J.1 J.2.1 dj_t13 rfl ?_
  cases h
  exact jr_i J hS hP hD (pk_nc _) dj_t14
section JS
variable {p : Program} {l : Launch} {e : Env} {R : Room} {s : State} {m : MethodId} {args : Array Value} {below : List Frame} {meth : Method} {c : Code} {H : Heap} {locs : List Loc} {cells slots : Nat} {Q : State → Prop}
variable {cc : ByteArray} {nL pc : Nat} {ls : Array Slot} {rest st0 : List Value} {E : jz_E} {A : Nat → Prop} {WS : va_W} {rt0 : Option FieldType} {own : String}
variable {y : MethodName} {cy : ByteArray} {mL idx n : Nat} {rt : Option FieldType} {rm : Room} {As : List Value} {Qc : Array Value → State → Outcome → State → Prop}
/-- a call on the text -/
theorem jrunT (J : JC p s m args meth c cc nL rt0 own) (hJ : jE E s) (hA : ∀ q, s.heap.size ≤ q → A q) (hZ : jz_ok E A s s.heap) (hP : va_P E.1 classes WS H) (hD : va_D A WS) (hS : va_S A s.heap H locs)
    (hM : Met l y (Cond.code y cy mL rt :: G) rm (va_Pc (.ref E.2.2.2.2.1 :: As) (PW E [] H.size)) Qc 0 0 (va_A [] H.size)) (hcls : y.cls = "java/lang/String")
    (gl : Cond.methodLink own idx y ∈ G) (gi : Cond.instanceMethod y ∈ G) (gs : Cond.selects y.cls y y ∈ G) (gini : Cond.initialized y.cls ∈ G) (gc : Cond.code y cy mL rt ∈ G) (hd : y.cls ≠ "java/lang/invoke/MethodHandle" ∧ y.cls ≠ "java/lang/invoke/VarHandle" ∧ (parseMethodDescriptor y.desc).map (fun d => d.parameters.length) = some n)
    (hrm : rm.cells = 0 ∧ rm.slots = 0 ∧ rm.frames + 1 ≤ R.frames ∧ 8 + (mL + 11) + rm.locals ≤ R.locals)
    (hls : ls.size = nL) (hn : As.length = n) (hst : st0 = As.reverse ++ .ref E.2.2.2.2.1 :: rest) (hroom : (rest.map fun v => v.category).sum ≤ 8) (hdg : decode cc pc = .ok (.invokevirtual idx, 3)) (hcs : cells ≤ R.cells ∧ slots ≤ R.slots) :
    va_Run p l e R s m args below meth c H locs cells slots 0 0 (F0 m pc ls st0) rest (Qc (Value.ref E.2.2.2.2.1 :: As).toArray) (va_A [] H.size) := by
  obtain ⟨hx, hb, hml, hr, hown, hts, hlk⟩ := J
  have hrv := vk_recv (i := 0) hZ.2.2.1 (by decide) hS
  exact va_runV (Ts := G) (As := As) (rest := rest) (C := y.cls) ⟨hx, hb, hml, hown, hts⟩ hM ⟨callB_of n hts (gG gc) rfl hrm.1 hrm.2.1 (hts _ gini) (hts _ gl) hd hrm.2.2, hts _ gi, hts _ gs⟩ ⟨PW.blind, by rw [hcls]; exact hrv, jpre hJ hA hZ hP hD hS [] rfl (by decide)⟩ rfl hn hls hst (lv_room hroom) hdg hcs
end JS
set_option maxHeartbeats 4000000 in
set_option maxRecDepth 100000 in
theorem ct_JS_isLatin1 (l : Launch) (E : jz_E) (sz : Nat) (hzC : ("java/lang/String", "COMPACT_STRINGS", "Z", Value.int 1) ∈ E.2.2.1) : CTi l E y_JS_isLatin1 c_JS_isLatin1 1 (some .boolean) ({ frames := 0, cells := 0, slots := 0, locals := 0 }) [.ref E.2.2.2.2.1] [] sz 1 [] := by
  refine jw (by decide +kernel) (Nat.le_of_ble_eq_true rfl) ?_
  intro p e s m below meth c A ls J hJ hAe hsz hA hZ hP hD hl
  rw [← hAe]
  have hS : va_S A s.heap s.heap [] := va_S.rf
  have hl : lv_has ls 1 [(0, .ref E.2.2.2.2.1)] := hl
  refine va_gets J.1 J.2.1 (hZ.1 _ hzC) hS J.2.2.2.2.1 (J.2.2.2.2.2.1 _ gf_JS_38) (fun _ h => h) dj_l0 ?_
  refine lv_if_eq (tgt := 17) J.1 J.2.1 dj_l3 (by decide) (fun c_1 => ?_) (fun c_1 => ?_)
  · exact absurd c_1 (by decide)
  refine lv_aload_n J.1 J.2.1 dj_l6 rfl (lv_at hl 0 rfl) ?_
  refine vk_getf J.1 J.2.1 (hZ.2.2.1.1 0 (by decide)).2.1 hS J.2.2.2.2.1 (J.2.2.2.2.2.1 _ gf_JS_15) (fun _ h => h) dj_l7 ?_
  refine lv_if_ne (tgt := 17) J.1 J.2.1 dj_l10 (by decide) (fun c_2 => ?_) (fun c_2 => ?_)
  · exact absurd rfl c_2
  refine lv_iconst (v := 1) J.1 J.2.1 dj_l13 (by decide) ?_
  refine lv_goto (tgt := 18) J.1 J.2.1 dj_l14 (by decide) ?_
  exact jr_i J hS hP hD rfl dj_l18
set_option maxHeartbeats 4000000 in
set_option maxRecDepth 100000 in
theorem ct_JS_charAt (l : Launch) (E : jz_E) (sz : Nat) (p1 o_r : Int32) (hzC : ("java/lang/String", "COMPACT_STRINGS", "Z", Value.int 1) ∈ E.2.2.1) (h : f_JS_charAt p1 = some o_r) : CTi l E y_JS_charAt c_JS_charAt 2 (some .char) ({ frames := 3, cells := 0, slots := 0, locals := 64 }) [.ref E.2.2.2.2.1, .int p1] [] sz o_r [] := by
  refine jw (by decide +kernel) (Nat.le_of_ble_eq_true rfl) ?_
  intro p e s m below meth c A ls J hJ hAe hsz hA hZ hP hD hl
  rw [← hAe]
  have hS : va_S A s.heap s.heap [] := va_S.rf
  have hl : lv_has ls 2 [(0, .ref E.2.2.2.2.1), (1, .int p1)] := hl
  refine lv_aload_n J.1 J.2.1 dj_c0 rfl (lv_at hl 0 rfl) ?_
  refine jk_i (jrunT (As := []) (rest := []) J hJ hA hZ hP hD hS (ct_JS_isLatin1 l E _ hzC) rfl gl_JS_492 gi_JS_isLatin1 gsel_JS_isLatin1 gini_JS gc_JS_isLatin1 hd_JS_isLatin1 ⟨rfl, rfl, Nat.le_of_ble_eq_true rfl, Nat.le_of_ble_eq_true rfl⟩ hl.1 rfl rfl (Nat.le_of_ble_eq_true rfl) dj_c1 ⟨Nat.zero_le _, Nat.zero_le _⟩) hA hP hD hS [] [] (WR := []) rfl rfl (by decide) (by decide) [] (WF := []) rfl (by decide) (fun H locs hP hD hS => ?_)
  refine lv_if_eq (tgt := 16) J.1 J.2.1 dj_c4 (by decide) (fun c_1 => ?_) (fun c_1 => ?_)
  · exact absurd c_1 (by decide)
  refine lv_aload_n J.1 J.2.1 dj_c7 rfl (lv_at hl 0 rfl) ?_
  refine vk_getf J.1 J.2.1 (hZ.2.2.1.1 0 (by decide)).2.2.1 hS J.2.2.2.2.1 (J.2.2.2.2.2.1 _ gf_JS_9) (fun _ h => h) dj_c8 ?_
  refine lv_iload_n J.1 J.2.1 dj_c11 rfl (lv_at hl 1 rfl) ?_
  have hn : narrow .char (.int o_r) = .int o_r := by
    obtain ⟨-, h⟩ := g_ck h
    cases h
    exact pk_nc _
  refine jk_i (jrunS (As := [.ref E.2.2.2.2.2, .int p1]) (rest := []) J hJ hA hZ hP hD hS (ct_JL_charAt l E _ p1 o_r h) [] rfl (by decide) gl_JS_495 gs_JL_charAt gini_JL gc_JL_charAt hd_JL_charAt ⟨rfl, rfl, Nat.le_of_ble_eq_true rfl, Nat.le_of_ble_eq_true rfl⟩ hl.1 rfl rfl (Nat.le_of_ble_eq_true rfl) dj_c12 ⟨Nat.zero_le _, Nat.zero_le _⟩) hA hP hD hS [] [] (WR := []) rfl rfl (by decide) (by decide) [] (WF := []) rfl (by decide) (fun H locs hP hD hS => ?_)
  exact jr_i J hS hP hD hn dj_c15
