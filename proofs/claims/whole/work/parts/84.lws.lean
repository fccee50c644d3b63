/-! THE LAW: from its entry -/
section LWS
theorem PWA.blind {E : jz_E} {av : List Value} {WS : va_W} {sz : Nat} {C : String} : FrameBlind (va_Pc av (fun U => PW E WS sz U ∧ va_AO C U)) := by
  intro a U g mk q
  obtain ⟨q0, ⟨q1, qP, qK, qD, qZ⟩, qA⟩ := q
  exact ⟨q0, ⟨q1, qP, jE.same (u := U) (U := U.calling g mk a) rfl qK, qD, jz_ok.same (u := U) (U := U.calling g mk a) rfl qZ⟩, va_AO.moved (u := U) (U := U.calling g mk a) (Vm.Alike.refl U.vm) qA⟩
theorem jrunA {p : Program} {l : Launch} {e : Env} {R : Room} {s : State} {m : MethodId} {args : Array Value} {below : List Frame} {meth : Method} {c : Code} {H : Heap} {locs : List Loc} {cells slots : Nat} {cc : ByteArray} {nL pc : Nat} {ls : Array Slot} {rest st0 : List Value} {E : jz_E} {A : Nat → Prop} {WS : va_W} {rt0 : Option FieldType} {own : String} {y : MethodName} {cy : ByteArray} {mL idx n mc ms : Nat} {rm : Room} {WC : va_W} {b : Addr} {As : List Value} {Qc : Array Value → State → Outcome → State → Prop} {C : String} (hAO : va_AO C s) (J : JC p s m args meth c cc nL rt0 own) (hJ : jE E s) (hA : ∀ q, s.heap.size ≤ q → A q) (hZ : jz_ok E A s s.heap) (hP : va_P E.1 classes WS H) (hD : va_D A WS) (hS : va_S A s.heap H locs)
    (hM : Met l y (Cond.code y cy mL none :: G) rm (va_Pc (.ref b :: As) (fun U => PW E WC H.size U ∧ va_AO C U)) Qc mc ms (va_A WC H.size)) (isC : List Nat) (hC : isC.map (fun i => WS[i]?) = WC.map some) (hn1 : va_nd isC = true)
    (gl : Cond.methodLink own idx y ∈ G) (gi : Cond.instanceMethod y ∈ G) (gini : Cond.initialized y.cls ∈ G) (gc : Cond.code y cy mL none ∈ G) (hy1 : y.name = "<init>") (hd : y.cls ≠ "java/lang/invoke/MethodHandle" ∧ y.cls ≠ "java/lang/invoke/VarHandle" ∧ (parseMethodDescriptor y.desc).map (fun d => d.parameters.length) = some n)
    (hrm : rm.cells = mc ∧ rm.slots = ms ∧ rm.frames + 1 ≤ R.frames ∧ 8 + (mL + 11) + rm.locals ≤ R.locals)
    (hls : ls.size = nL) (hn : As.length = n) (hst : st0 = As.reverse ++ .ref b :: rest) (hroom : (rest.map fun v => v.category).sum ≤ 8) (hdg : decode cc pc = .ok (.invokespecial idx, 3)) (hcs : cells + mc ≤ R.cells ∧ slots + ms ≤ R.slots) :
    va_Run p l e R s m args below meth c H locs cells slots mc ms (F0 m pc ls st0) rest (Qc (Value.ref b :: As).toArray) (va_A WC H.size) := by
  obtain ⟨hx, hb, hml, hr, hown, hts, hlk⟩ := J
  refine va_runI (Ts := G) (As := As) (rest := rest) ⟨hx, hb, hml, hown, hts⟩ hM ⟨callB_of n hts (gG gc) rfl hrm.1 hrm.2.1 (hts _ gini) (hts _ gl) hd hrm.2.2, hy1, hts _ gi⟩ ⟨PWA.blind, fun U hU hW => ?_⟩ rfl hn hls hst (lv_room hroom) hdg hcs
  have h1 := jpre (av := .ref b :: As) hJ hA hZ hP hD hS isC hC hn1 U hU hW
  exact ⟨h1.1, h1.2, va_AO.moved hW.alike hAO⟩
set_option maxHeartbeats 4000000 in
set_option maxRecDepth 100000 in
/-- THE LAW, from its entry -/
theorem whole_start {p : Program} {e : Env} {s : State} {m : MethodId} {below : List Frame} {meth : Method} {c : Code} (l : Launch) {b L : Nat} {xs : Nat → Int32} (hL : L ≤ 3072) (C0 : lw_At p s m meth c b L xs) : W p l e room_1 s m #[Value.ref b] below meth c s.heap [] 0 0 (lw_Z below #[Value.ref b] s) (entryFrame m ([Value.ref b] : List Value).toArray 4) := by
  obtain ⟨hx, hb, hr, hml, hown, hts, hX, hbl, hlocks, hgv⟩ := id C0
  obtain ⟨E, w8, w9, hJ, hZ, z1, z2, z3, z4, z5, hAO⟩ := lw_env C0
  have J := lwJ C0
  have hA : ∀ q : Nat, s.heap.size ≤ q → (fun q : Nat => s.heap.size ≤ q) q := fun _ h => h
  have hS : va_S (fun q : Nat => s.heap.size ≤ q) s.heap s.heap [] := va_S.rf
  have hP : va_P E.1 classes [] s.heap := fun k q h => by simp at h
  have hD : va_D (fun q : Nat => s.heap.size ≤ q) [] := ⟨fun i j p q h => by simp at h, fun k q h => by simp at h⟩
  have hl := lv_entry ([.ref b]) (n := 4) (Nat.le_of_ble_eq_true rfl)
  rw [lg_entry_eq]
  generalize (lg_sl ([.ref b]) ++ List.replicate (4 - (lg_sl ([.ref b])).length) Slot.unset).toArray = ls at hl ⊢
  have hl : lv_has ls 4 [(0, .ref b)] := hl
  refine jnew J hJ hA hP hD hS (ci := 5) rfl i_GT t_GT t_GT_ok gcl_LW_7 ginst_GT gini_GT df_GT (Nat.le_of_ble_eq_true rfl) (Nat.le_of_ble_eq_true rfl) d_LW_law_0 ?_
  clear hP hD hS
  intro t0 H hP hD hS
  have hP : va_P E.1 classes [(t0, .inr (5, [.null, .int 0, .null, .null, .int 0, .int 0]))] H := hP
  have hD : va_D (fun q : Nat => s.heap.size ≤ q) [(t0, .inr (5, [.null, .int 0, .null, .null, .int 0, .int 0]))] := hD
  refine lv_dup hx hb d_LW_law_3 rfl ?_
  have hq := ct_GT_init l E t0 H.size
  have hr := jrunA (p := p) (e := e) (below := below) (R := room_1) (cells := 1) (slots := 6) (As := []) (rest := [.ref t0]) hAO J hJ hA hZ hP hD hS hq [0] rfl (by decide) gl_LW_9 gi_GT_init gini_GT gc_GT_init rfl hd_GT_init ⟨rfl, rfl, Nat.le_of_ble_eq_true rfl, Nat.le_of_ble_eq_true rfl⟩ hl.1 rfl rfl (Nat.le_of_ble_eq_true rfl) d_LW_law_4 ⟨Nat.le_of_ble_eq_true rfl, Nat.le_of_ble_eq_true rfl⟩
  clear hq
  refine jk_n (S := Nat × Nat × Nat × Nat × Nat × Nat × Nat × Nat × Nat × Nat × Nat) (WF := fun u => match u with | (q1, q2, q3, q4, q5, q6, q7, q8, q9, q10, q11) => wGT E (fun j => [t0, q11, q2, q3, q6, q7, q8, q9, q10, q4, q1].getD j 0) 0 (fun _ => 0) (-1) (-1) (fun _ => none) (fun _ => 0) 0 0 0 0 0 (fun _ => 0) (fun _ => 0) (fun _ => 0) (fun _ => 0) (fun _ => 0) q5 0 0 0 0 0 0 0 0) (WR := []) hr hA hP hD hS [0] [] rfl rfl (by decide) (by decide) [0, 11, 2, 3, 6, 7, 8, 9, 10, 4, 1] (fun ⟨q1, q2, q3, q4, q5, q6, q7, q8, q9, q10, q11⟩ => rfl) (by decide) ?_
  clear hP hD hS hr
  intro u H locs hP hD hS
  obtain ⟨q1, q2, q3, q4, q5, q6, q7, q8, q9, q10, q11⟩ := u
  have hP : va_P E.1 classes (wGT E (fun j => [t0, q11, q2, q3, q6, q7, q8, q9, q10, q4, q1].getD j 0) 0 (fun _ => 0) (-1) (-1) (fun _ => none) (fun _ => 0) 0 0 0 0 0 (fun _ => 0) (fun _ => 0) (fun _ => 0) (fun _ => 0) (fun _ => 0) q5 0 0 0 0 0 0 0 0) H := hP
  have hD : va_D (fun q : Nat => s.heap.size ≤ q) (wGT E (fun j => [t0, q11, q2, q3, q6, q7, q8, q9, q10, q4, q1].getD j 0) 0 (fun _ => 0) (-1) (-1) (fun _ => none) (fun _ => 0) 0 0 0 0 0 (fun _ => 0) (fun _ => 0) (fun _ => 0) (fun _ => 0) (fun _ => 0) q5 0 0 0 0 0 0 0 0) := hD
  refine lv_astore_n (lv' := [(1, .ref t0), (0, .ref b)]) hx hb d_LW_law_7 rfl hl (by decide) rfl (fun ls hl => ?_)
  refine jnew J hJ hA hP hD hS (ci := 6) rfl i_MD t_MD t_MD_ok gcl_LW_10 ginst_MD gini_MD df_MD (Nat.le_of_ble_eq_true rfl) (Nat.le_of_ble_eq_true rfl) d_LW_law_8 ?_
  clear hP hD hS
  intro n0 H hP hD hS
  have hP : va_P E.1 classes (wGT E (fun j => [t0, q11, q2, q3, q6, q7, q8, q9, q10, q4, q1].getD j 0) 0 (fun _ => 0) (-1) (-1) (fun _ => none) (fun _ => 0) 0 0 0 0 0 (fun _ => 0) (fun _ => 0) (fun _ => 0) (fun _ => 0) (fun _ => 0) q5 0 0 0 0 0 0 0 0 ++ [(n0, .inr (6, [.null, .int 0, .null, .null, .null, .null, .null, .null, .null, .null, .null, .null, .null, .null, .null, .null, .null, .null, .null, .null, .null, .int 0, .int 0, .int 0, .null, .null, .null, .int 0, .int 0, .int 0, .int 0, .int 0, .null, .int 0, .int 0, .int 0, .int 0, .int 0, .int 0]))]) H := hP
  have hD : va_D (fun q : Nat => s.heap.size ≤ q) (wGT E (fun j => [t0, q11, q2, q3, q6, q7, q8, q9, q10, q4, q1].getD j 0) 0 (fun _ => 0) (-1) (-1) (fun _ => none) (fun _ => 0) 0 0 0 0 0 (fun _ => 0) (fun _ => 0) (fun _ => 0) (fun _ => 0) (fun _ => 0) q5 0 0 0 0 0 0 0 0 ++ [(n0, .inr (6, [.null, .int 0, .null, .null, .null, .null, .null, .null, .null, .null, .null, .null, .null, .null, .null, .null, .null, .null, .null, .null, .null, .int 0, .int 0, .int 0, .null, .null, .null, .int 0, .int 0, .int 0, .int 0, .int 0, .null, .int 0, .int 0, .int 0, .int 0, .int 0, .int 0]))]) := hD
  refine lv_dup hx hb d_LW_law_11 rfl ?_
  obtain ⟨zw, hzw, hwn⟩ := md_init
  have hq := ct_MD_init l E n0 H.size zw hzw
  have hr := jrunI (p := p) (e := e) (below := below) (R := room_1) (cells := 13) (slots := 7365) (As := []) (rest := [.ref n0]) J hJ hA hZ hP hD hS hq [11] rfl (by decide) gl_LW_12 gi_MD_init gini_MD gc_MD_init rfl hd_MD_init ⟨rfl, rfl, Nat.le_of_ble_eq_true rfl, Nat.le_of_ble_eq_true rfl⟩ hl.1 rfl rfl (Nat.le_of_ble_eq_true rfl) d_LW_law_12 ⟨Nat.le_of_ble_eq_true rfl, Nat.le_of_ble_eq_true rfl⟩
  clear hq
  refine jk_n (S := Nat × Nat × Nat × Nat × Nat × Nat × Nat × Nat × Nat × Nat × Nat × Nat × Nat × Nat × Nat × Nat × Nat × Nat × Nat × Nat × Nat × Nat × Nat × Nat) (WF := fun u => match u with | (r1, r2, r3, r4, r5, r6, r7, r8, r9, r10, r11, r12, r13, r14, r15, r16, r17, r18, r19, r20, r21, r22, r23, r24) => (wGT E (fun j => [t0, q11, q2, q3, q6, q7, q8, q9, q10, q4, q1].getD j 0) 0 (fun _ => 0) (-1) (-1) (fun _ => none) (fun _ => 0) 0 0 0 0 0 (fun _ => 0) (fun _ => 0) (fun _ => 0) (fun _ => 0) (fun _ => 0) q5 0 0 0 0 0 0 0 0 ++ wMD E (fun j => [n0, r1, r2, r3, r4, r5, r6, r7, r8, r9, r10, r11, r12, r13, r14, r15, r16, r17, r18, r19, r20, r21, r22, r23, r24].getD j 0) (fun _ => 0) (up1 (fun _ _ => 0) 20 zw)) ++ pool (fun _ => [])) (WR := wGT E (fun j => [t0, q11, q2, q3, q6, q7, q8, q9, q10, q4, q1].getD j 0) 0 (fun _ => 0) (-1) (-1) (fun _ => none) (fun _ => 0) 0 0 0 0 0 (fun _ => 0) (fun _ => 0) (fun _ => 0) (fun _ => 0) (fun _ => 0) q5 0 0 0 0 0 0 0 0) hr hA hP hD hS [11] [0, 1, 2, 3, 4, 5, 6, 7, 8, 9, 10] rfl rfl (by decide) (by decide) [0, 1, 2, 3, 4, 5, 6, 7, 8, 9, 10, 11, 12, 13, 14, 15, 16, 17, 18, 19, 20, 21, 22, 23, 24, 25, 26, 27, 28, 29, 30, 31, 32, 33, 34, 35] (fun ⟨r1, r2, r3, r4, r5, r6, r7, r8, r9, r10, r11, r12, r13, r14, r15, r16, r17, r18, r19, r20, r21, r22, r23, r24⟩ => rfl) (by decide) ?_
  clear hP hD hS hr
  intro u H locs hP hD hS
  obtain ⟨r1, r2, r3, r4, r5, r6, r7, r8, r9, r10, r11, r12, r13, r14, r15, r16, r17, r18, r19, r20, r21, r22, r23, r24⟩ := u
  have hP : va_P E.1 classes ((wGT E (fun j => [t0, q11, q2, q3, q6, q7, q8, q9, q10, q4, q1].getD j 0) 0 (fun _ => 0) (-1) (-1) (fun _ => none) (fun _ => 0) 0 0 0 0 0 (fun _ => 0) (fun _ => 0) (fun _ => 0) (fun _ => 0) (fun _ => 0) q5 0 0 0 0 0 0 0 0 ++ wMD E (fun j => [n0, r1, r2, r3, r4, r5, r6, r7, r8, r9, r10, r11, r12, r13, r14, r15, r16, r17, r18, r19, r20, r21, r22, r23, r24].getD j 0) (fun _ => 0) (up1 (fun _ _ => 0) 20 zw)) ++ pool (fun _ => [])) H := hP
  have hD : va_D (fun q : Nat => s.heap.size ≤ q) ((wGT E (fun j => [t0, q11, q2, q3, q6, q7, q8, q9, q10, q4, q1].getD j 0) 0 (fun _ => 0) (-1) (-1) (fun _ => none) (fun _ => 0) 0 0 0 0 0 (fun _ => 0) (fun _ => 0) (fun _ => 0) (fun _ => 0) (fun _ => 0) q5 0 0 0 0 0 0 0 0 ++ wMD E (fun j => [n0, r1, r2, r3, r4, r5, r6, r7, r8, r9, r10, r11, r12, r13, r14, r15, r16, r17, r18, r19, r20, r21, r22, r23, r24].getD j 0) (fun _ => 0) (up1 (fun _ _ => 0) 20 zw)) ++ pool (fun _ => [])) := hD
  refine lv_astore_n (lv' := [(2, .ref n0), (1, .ref t0), (0, .ref b)]) hx hb d_LW_law_15 rfl hl (by decide) rfl (fun ls hl => ?_)
  refine lv_iconst (v := nI 0) hx hb d_LW_law_16 (by decide) ?_
  refine lv_istore_n (lv' := [(3, .int (nI 0)), (2, .ref n0), (1, .ref t0), (0, .ref b)]) hx hb d_LW_law_17 rfl hl (by decide) rfl (fun ls hl => ?_)
  refine W.widen (k := cN (fun _ => none)) (n := sN (fun _ => none)) (Nat.le_of_ble_eq_true rfl) (Nat.le_of_ble_eq_true rfl) ?_
  have hRel : Rel E 0 0 (fun _ => 0) (-1) (-1) (fun _ => none) (fun _ => 0) (fun _ => 0) (up1 (fun _ _ => 0) 20 zw) (fun _ => []) := ⟨Nat.zero_le _, fun _ => Nat.le_of_ble_eq_true rfl, (fun i _ => rfl), rfl, Or.inl ⟨rfl, rfl, rfl⟩, fun _ => Nat.le_of_ble_eq_true rfl, hwn, fun g hg => Or.inl ⟨rfl, rfl, rfl⟩⟩
  exact law_loop (ga := (fun j => [t0, q11, q2, q3, q6, q7, q8, q9, q10, q4, q1].getD j 0)) (na := (fun j => [n0, r1, r2, r3, r4, r5, r6, r7, r8, r9, r10, r11, r12, r13, r14, r15, r16, r17, r18, r19, r20, r21, r22, r23, r24].getD j 0)) ⟨C0, hJ, hZ, z1, z2, z3, z4, z5⟩ hL (L + 1) 0 (Nat.zero_le _) (by omega) ls (lv_sub hl [3, 2, 1, 0] rfl) _ _ _ _ _ _ _ _ _ _ _ _ _ _ _ _ _ _ _ _ _ _ _ _ _ _ _ _ _ _ hRel hP hD hS
end LWS
