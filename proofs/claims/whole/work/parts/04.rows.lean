/-! ROWS OF MINE over the kit: a world as a list of cells, contracts that name the new list, calls in one row -/
section JW
abbrev jz_Z : Type := List (String × String × String × Value)
abbrev jz_E : Type := va_G × (Nat → ClassId) × jz_Z × List (Nat × Nat × (Nat → Int32)) × Nat × Nat
abbrev jty (cT : Nat → ClassId) : List (ClassId × FieldType) := [(cT 0, .int), (cT 1, .long), (cT 2, .byte), (cT 3, .boolean), (cT 4, .object R_GU)]
def sTxt : String := "HALT  SET   LOAD  STORE LOADX STOREXMOVE  ADD   SUB   AND   LESS  SHIFT JUMP  ZERO  GO    CALL  SVC   LPSW  SPSW  SETT  GETT  IN    OUT   GETB  PUTB  WORD  SPACE AT    "
def sByt : List (List Int32) := [[72, 65, 76, 84, 32, 32, 83, 69, 84, 32, 32, 32, 76, 79, 65, 68, 32, 32, 83, 84, 79, 82, 69, 32, 76, 79, 65, 68, 88, 32, 83, 84, 79, 82, 69, 88, 77, 79, 86, 69, 32, 32, 65, 68, 68, 32, 32, 32, 83, 85, 66, 32, 32, 32, 65, 78, 68, 32, 32, 32, 76, 69, 83, 83, 32, 32, 83, 72, 73, 70, 84, 32, 74, 85, 77, 80, 32, 32, 90, 69, 82, 79, 32, 32, 71, 79, 32, 32, 32, 32, 67, 65, 76, 76, 32, 32, 83, 86, 67, 32, 32, 32, 76, 80, 83, 87, 32, 32, 83, 80, 83, 87, 32, 32, 83, 69, 84, 84, 32, 32, 71, 69, 84, 84, 32, 32, 73, 78, 32, 32, 32, 32, 79, 85, 84, 32, 32, 32, 71, 69, 84, 66, 32, 32, 80, 85, 84, 66, 32, 32, 87, 79, 82, 68, 32, 32, 83, 80, 65, 67, 69, 32, 65, 84, 32, 32, 32, 32]]
/-- what lies outside the worlds and stays: statics, static arrays of ints, the one text -/
def jz_ok (E : jz_E) (A : Nat → Prop) (U : State) (H : Heap) : Prop := (∀ z ∈ E.2.2.1, va_Z z.1 z.2.1 z.2.2.1 z.2.2.2 A U H) ∧ (∀ z ∈ E.2.2.2.1, va_T .int z.1 z.2.1 (fun j => .int (z.2.2 j)) A U H) ∧ vk_S 1 [168] sByt (fun _ => E.2.2.2.2.1) (fun _ => E.2.2.2.2.2) A U H ∧ vk_R R_LI 85 sTxt E.2.2.2.2.1 U ∧ va_Zq "jdk/internal/util/Preconditions" "SIOOBE_FORMATTER" "Ljava/util/function/BiFunction;" A U H
theorem jz_ok.same {E : jz_E} {A : Nat → Prop} {u U : State} {H : Heap} (hvm : u.vm = U.vm) (h : jz_ok E A u H) : jz_ok E A U H := by
  have ha : u.vm.Alike U.vm := by rw [hvm]; exact Vm.Alike.refl U.vm
  exact ⟨fun z hz => va_Z.moved ha (h.1 z hz), fun z hz => va_T.moved ha (h.2.1 z hz), vk_S.moved ha h.2.2.1, vk_R.same hvm.symm h.2.2.2.1, va_Zq.moved ha h.2.2.2.2⟩
theorem jz_ok.warm {E : jz_E} {A B : Nat → Prop} {s U : State} {H0 H : Heap} (hW : s.WarmedH U.vm) (hq : ∀ a : Nat, a < H0.size → ¬ A a → H[a]? = H0[a]?) (hAB : ∀ q, B q → A q) (h : jz_ok E A s H0) : jz_ok E B U H :=
  ⟨fun z hz => va_Z.moved hW.alike (((h.1 z hz).kept hq).narrow hAB), fun z hz => va_T.moved hW.alike (((h.2.1 z hz).kept hq).narrow hAB), vk_S.moved hW.alike ((h.2.2.1.kept hq).narrow hAB), vk_R.warm hW h.2.2.2.1, va_Zq.moved hW.alike ((h.2.2.2.2.kept hq).narrow hAB)⟩
def jE (E : jz_E) (U : State) : Prop := va_K E.1 classes (jty E.2.1) U ∧ ∀ w ∈ nw_all, va_Nw w U
def isFN : Cond → Bool
  | .fieldLinkNest .. => true
  | _ => false
theorem isFN_on {w : Cond} (h : isFN w = true) : w.onTables = true := by
  cases w <;> first | rfl | (simp [isFN] at h)
theorem isFN_warm {w : Cond} (h : isFN w = true) {s U : State} (hW : s.WarmedH U.vm) (hZ : va_Nw w s) : va_Nw w U := by
  cases w <;> first | exact va_Nw.warmF hW hZ | (simp [isFN] at h)
theorem nw_fn : ∀ w ∈ nw_all, isFN w = true := by decide +kernel
theorem jE.warm {E : jz_E} {s U : State} (hW : s.WarmedH U.vm) (h : jE E s) : jE E U := ⟨va_K.moved hW.alike h.1, fun w hw => isFN_warm (nw_fn w hw) hW (h.2 w hw)⟩
theorem jE.same {E : jz_E} {u U : State} (hvm : u.vm = U.vm) (h : jE E u) : jE E U := ⟨va_K.moved (by rw [hvm]; exact Vm.Alike.refl U.vm) h.1, fun w hw => va_Nw.same (isFN_on (nw_fn w hw)) hvm (h.2 w hw)⟩
def PW (E : jz_E) (WS : va_W) (sz : Nat) (U : State) : Prop := U.heap.size = sz ∧ va_P E.1 classes WS U.heap ∧ jE E U ∧ va_D (fun _ => True) WS ∧ jz_ok E (va_A WS sz) U U.heap
theorem PW.blind {E : jz_E} {av : List Value} {WS : va_W} {sz : Nat} : FrameBlind (va_Pc av (PW E WS sz)) := by
  intro a U g mk q
  obtain ⟨q0, q1, qP, qK, qD, qZ⟩ := q
  exact ⟨q0, q1, qP, jE.same (u := U) (U := U.calling g mk a) rfl qK, qD, jz_ok.same (u := U) (U := U.calling g mk a) rfl qZ⟩
def BW (E : jz_E) (A : Nat → Prop) (u : va_W) (t : State) : Prop := va_P E.1 classes u t.heap ∧ va_D A u
abbrev CTi (l : Launch) (E : jz_E) (y : MethodName) (cc : ByteArray) (mL : Nat) (rt : Option FieldType) (rm : Room) (av : List Value) (WS : va_W) (sz : Nat) (r : Int32) (WS' : va_W) : Prop := Met l y (Cond.code y cc mL rt :: G) rm (va_Pc av (PW E WS sz)) (va_Qi (fun (r' : Int32) (u : va_W) => r' = r ∧ u = WS') (BW E (va_A WS sz)) (va_A WS sz)) 0 0 (va_A WS sz)
abbrev CTl (l : Launch) (E : jz_E) (y : MethodName) (cc : ByteArray) (mL : Nat) (rt : Option FieldType) (rm : Room) (av : List Value) (WS : va_W) (sz : Nat) (r : Int64) (WS' : va_W) : Prop := Met l y (Cond.code y cc mL rt :: G) rm (va_Pc av (PW E WS sz)) (va_Ql (fun (r' : Int64) (u : va_W) => r' = r ∧ u = WS') (BW E (va_A WS sz)) (va_A WS sz)) 0 0 (va_A WS sz)
abbrev CTv (l : Launch) (E : jz_E) (y : MethodName) (cc : ByteArray) (mL : Nat) (rt : Option FieldType) (rm : Room) (av : List Value) (WS : va_W) (sz : Nat) (WS' : va_W) : Prop := Met l y (Cond.code y cc mL rt :: G) rm (va_Pc av (PW E WS sz)) (va_Qv (fun (u : va_W) => u = WS') (BW E (va_A WS sz)) (va_A WS sz)) 0 0 (va_A WS sz)
/-- what a method's walk stands on -/
def JC (p : Program) (s : State) (m : MethodId) (args : Array Value) (meth : Method) (c : Code) (cc : ByteArray) (mL : Nat) (rt : Option FieldType) (own : String) : Prop := p.tables.exec = Jvm.exec ∧ c.code = cc ∧ c.maxLocals = mL ∧ meth.sig.returnType = rt ∧ s.vm.findClass own = some m.cls ∧ (∀ w ∈ G, w.before args s = true) ∧ meth.locks = false
theorem jw {l : Launch} {E : jz_E} {y : MethodName} {cc : ByteArray} {mL : Nat} {rt : Option FieldType} {rm : Room} {av : List Value} {WS : va_W} {sz : Nat} {Qc : Array Value → State → Outcome → State → Prop} {mc ms : Nat} (hy : plainName y.cls = true) (hlen : (lg_sl av).length ≤ mL)
    (body : ∀ (p : Program) (e : Env) (s : State) (m : MethodId) (below : List Frame) (meth : Method) (c : Code) (A : Nat → Prop) (ls : Array Slot), JC p s m av.toArray meth c cc mL rt y.cls → jE E s → A = va_A WS sz → s.heap.size = sz → (∀ q : Nat, s.heap.size ≤ q → A q) → jz_ok E A s s.heap → va_P E.1 classes WS s.heap → va_D A WS → lv_has ls mL (lv_args 0 av) → W p l e rm s m av.toArray below meth c s.heap [] 0 0 (MQ below Qc av.toArray s mc ms A) (F0 m 0 ls [])) : Met l y (Cond.code y cc mL rt :: G) rm (va_Pc av (PW E WS sz)) Qc mc ms (va_A WS sz) := by
  refine Met.ofW (cc := cc) (maxL := mL) (ret := rt) hy rfl ?_
  intro p e s m args below meth c s₁ B hml hv
  obtain ⟨rfl, hsz, hP, hK, hD0, hZ⟩ := hv
  have hts := atoms_spec (ws := Cond.code y cc mL rt :: G) B.pre
  have hown : s.vm.findClass y.cls = some m.cls := findClass_of_methodNamed B.named
  have hD := hD0.self (sz := sz)
  have hl := lv_entry av (n := mL) hlen
  rw [lg_entry_eq]
  generalize (lg_sl av ++ List.replicate (mL - (lg_sl av).length) Slot.unset).toArray = ls at hl ⊢
  exact body p e s m below meth c (va_A WS sz) ls ⟨B.exec, B.bytes, hml, B.returns, hown, fun w h => hts w (List.mem_cons_of_mem _ h), B.notSynchronized⟩ hK rfl hsz (fun q h => Or.inr (by rw [← hsz]; exact h)) hZ hP hD hl
end JW
section JR
variable {p : Program} {l : Launch} {e : Env} {R : Room} {s : State} {m : MethodId} {args : Array Value} {below : List Frame} {meth : Method} {c : Code} {H : Heap} {locs : List Loc} {cells slots : Nat} {Q : State → Prop}
variable {cc : ByteArray} {nL pc : Nat} {ls : Array Slot} {rest st0 : List Value} {E : jz_E} {A : Nat → Prop} {WS : va_W} {rt0 : Option FieldType} {own : String}
theorem jr_i {v : Int32} {WS' : va_W} {ty : FieldType} (J : JC p s m args meth c cc nL (some ty) own) (hS : va_S A s.heap H locs) (hP : va_P E.1 classes WS' H) (hD : va_D A WS') (hn : narrow ty (.int v) = .int v) (hdg : decode cc pc = .ok (.ireturn, 1)) : W p l e R s m args below meth c H locs cells slots (MQ below (va_Qi (fun (r' : Int32) (u : va_W) => r' = v ∧ u = WS') (BW E A) A) args s cells slots A) (F0 m pc ls [.int v]) := by
  obtain ⟨hx, hb, -, hr, -, -, hlocks⟩ := J
  exact W.zret hx hb hr hn (fun t ht hW => ⟨⟨v, WS', rfl, ⟨rfl, rfl⟩, by rw [ht]; exact hP, hD⟩, hS.F ht⟩) hS.2.2 hdg
theorem jr_l {v : Int64} {WS' : va_W} (J : JC p s m args meth c cc nL (some .long) own) (hS : va_S A s.heap H locs) (hP : va_P E.1 classes WS' H) (hD : va_D A WS') (hdg : decode cc pc = .ok (.lreturn, 1)) : W p l e R s m args below meth c H locs cells slots (MQ below (va_Ql (fun (r' : Int64) (u : va_W) => r' = v ∧ u = WS') (BW E A) A) args s cells slots A) (F0 m pc ls [.long v]) := by
  obtain ⟨hx, hb, -, hr, -, -, hlocks⟩ := J
  exact W.lret hx hb hr (fun t ht hW => ⟨⟨v, WS', rfl, ⟨rfl, rfl⟩, by rw [ht]; exact hP, hD⟩, hS.F ht⟩) hS.2.2 hdg
theorem jr_v {WS' : va_W} (J : JC p s m args meth c cc nL none own) (hS : va_S A s.heap H locs) (hP : va_P E.1 classes WS' H) (hD : va_D A WS') (hdg : decode cc pc = .ok (.return_, 1)) : W p l e R s m args below meth c H locs cells slots (MQ below (va_Qv (fun (u : va_W) => u = WS') (BW E A) A) args s cells slots A) (F0 m pc ls []) := by
  obtain ⟨hx, hb, -, hr, -, -, hlocks⟩ := J
  exact W.vret hx hb hr (fun t ht hW => ⟨⟨WS', rfl, rfl, by rw [ht]; exact hP, hD⟩, hS.F ht⟩) hS.2.2 hdg
theorem jg (J : JC p s m args meth c cc nL rt0 own) (hJ : jE E s) (hP : va_P E.1 classes WS H) (q0 : Nat) {a ci N idx : Nat} {fs : List Value} {C : String} {T : u_T} (he : WS[q0]? = some (a, .inr (ci, fs))) (hc : classes[ci]? = some (C, T, N)) (hin : ∀ w ∈ u_ws C T N, w ∈ G) (k : Nat) (hk : k < N) (gf : Cond.fieldLink own idx (T k).1 (T k).2.1 (T k).2.2.1 ∈ G) {v : Value} (hv : fs[k]? = some v) (hdg : decode cc pc = .ok (.getfield idx, 3)) (kk : W p l e R s m args below meth c H locs cells slots Q (F0 m (pc + 3) ls (v :: rest))) : W p l e R s m args below meth c H locs cells slots Q (F0 m pc ls (.ref a :: rest)) := by
  obtain ⟨hx, hb, -, -, hown, hts, -⟩ := J
  exact va_get hx hb hts hin hown hJ.1 hP q0 he hc k hk (hts _ gf) (fun _ h => h) hv hdg kk
theorem jgN (J : JC p s m args meth c cc nL rt0 own) (hJ : jE E s) (hP : va_P E.1 classes WS H) (q0 : Nat) {a ci N idx : Nat} {fs : List Value} {C host : String} {T : u_T} (he : WS[q0]? = some (a, .inr (ci, fs))) (hc : classes[ci]? = some (C, T, N)) (hin : ∀ w ∈ u_ws C T N, w ∈ G) (k : Nat) (hk : k < N) (gf : Cond.fieldLinkNest own idx (T k).1 (T k).2.1 (T k).2.2.1 host ∈ nw_all) {v : Value} (hv : fs[k]? = some v) (hdg : decode cc pc = .ok (.getfield idx, 3)) (kk : W p l e R s m args below meth c H locs cells slots Q (F0 m (pc + 3) ls (v :: rest))) : W p l e R s m args below meth c H locs cells slots Q (F0 m pc ls (.ref a :: rest)) := by
  obtain ⟨hx, hb, -, -, hown, hts, -⟩ := J
  exact va_getN hx hb hts hin hown hJ.1 hP q0 he hc k hk (va_Nw.use (isFN_on (nw_fn _ gf)) (hJ.2 _ gf)) (fun _ h => h) hv hdg kk
theorem jp (J : JC p s m args meth c cc nL rt0 own) (hJ : jE E s) (hP : va_P E.1 classes WS H) (hD : va_D A WS) (hS : va_S A s.heap H locs) (q0 : Nat) {a ci N idx : Nat} {fs : List Value} {C : String} {T : u_T} (he : WS[q0]? = some (a, .inr (ci, fs))) (hc : classes[ci]? = some (C, T, N)) (hin : ∀ w ∈ u_ws C T N, w ∈ G) (ty0 : Nat → FieldType) (hty : ∀ k, k < N → parseFieldDescriptor (T k).2.2.1 = some (ty0 k)) (hnm : ∀ a, a < N → ∀ b, b < N → a ≠ b → (T a).2.1 ≠ (T b).2.1) (k : Nat) (hk : k < N) (gf : Cond.fieldLink own idx (T k).1 (T k).2.1 (T k).2.2.1 ∈ G) (hfin : (T k).2.2.2 = false) {v : Value} (hn : narrow (ty0 k) v = v) (hfit : fits (ty0 k) v = true) (hl : k < fs.length) (hdg : decode cc pc = .ok (.putfield idx, 3)) {WS' : va_W} (hw : WS.set q0 (a, .inr (ci, fs.set k v)) = WS') (kk : ∀ (H1 : Heap) (locs1 : List Loc), va_P E.1 classes WS' H1 → va_D A WS' → va_S A s.heap H1 locs1 → W p l e R s m args below meth c H1 locs1 cells slots Q (F0 m (pc + 3) ls rest)) : W p l e R s m args below meth c H locs cells slots Q (F0 m pc ls (v :: .ref a :: rest)) := by
  obtain ⟨hx, hb, -, -, hown, hts, -⟩ := J
  subst hw
  exact va_put hx hb hts hin ty0 hty hnm hown hJ.1 hP hD hS q0 he hc k hk (hts _ gf) (fun _ h => h) hfin (hty k hk) hn hfit hl hdg kk
theorem jai (J : JC p s m args meth c cc nL rt0 own) (hJ : jE E s) (hP : va_P E.1 classes WS H) (q0 : Nat) {a n : Nat} {f : Nat → Int32} (ha : WS[q0]? = some (a, .inl (E.2.1 0, n, .inl f))) {i : Int32} (hin : vp_in i n) (hdg : decode cc pc = .ok (.iaload, 1)) (kk : W p l e R s m args below meth c H locs cells slots Q (F0 m (pc + 1) ls (.int (f i.toNatClampNeg) :: rest))) : W p l e R s m args below meth c H locs cells slots Q (F0 m pc ls (.int i :: .ref a :: rest)) := va_iald J.1 J.2.1 hJ.1 hP q0 0 ha rfl hin hdg kk
theorem jsi (J : JC p s m args meth c cc nL rt0 own) (hJ : jE E s) (hP : va_P E.1 classes WS H) (hD : va_D A WS) (hS : va_S A s.heap H locs) (q0 : Nat) {a n : Nat} {f : Nat → Int32} (ha : WS[q0]? = some (a, .inl (E.2.1 0, n, .inl f))) {i x : Int32} (hin : vp_in i n) (hdg : decode cc pc = .ok (.iastore, 1)) {WS' : va_W} (hw : WS.set q0 (a, .inl (E.2.1 0, n, .inl (upd f i.toNatClampNeg x))) = WS') (kk : ∀ (H1 : Heap) (locs1 : List Loc), va_P E.1 classes WS' H1 → va_D A WS' → va_S A s.heap H1 locs1 → W p l e R s m args below meth c H1 locs1 cells slots Q (F0 m (pc + 1) ls rest)) : W p l e R s m args below meth c H locs cells slots Q (F0 m pc ls (.int x :: .int i :: .ref a :: rest)) := by
  subst hw
  exact va_iast J.1 J.2.1 hJ.1 hP hD hS q0 0 ha rfl hin hdg kk
theorem jsub {isC : List Nat} {WC : va_W} (hC : isC.map (fun i => WS[i]?) = WC.map some) : isC.filterMap (fun i => WS[i]?) = WC := by
  have h1 : isC.filterMap (fun i => WS[i]?) = (isC.map (fun i => WS[i]?)).filterMap id := by rw [List.filterMap_map]; rfl
  rw [h1, hC, List.filterMap_map]
  simp
variable {y : MethodName} {cy : ByteArray} {mL idx n : Nat} {rt : Option FieldType} {rm : Room} {WC WR WC' : va_W} {C : String} {b : Addr} {As : List Value} {Qc : Array Value → State → Outcome → State → Prop}
/-- what a callee's start asks, out of the caller's world -/
theorem jpre {av : List Value} (hJ : jE E s) (hA : ∀ q, s.heap.size ≤ q → A q) (hZ : jz_ok E A s s.heap) (hP : va_P E.1 classes WS H) (hD : va_D A WS) (hS : va_S A s.heap H locs) (isC : List Nat) (hC : isC.map (fun i => WS[i]?) = WC.map some) (hn1 : va_nd isC = true) : ∀ U : State, U.heap = H → s.WarmedH U.vm → va_Pc av (PW E WC H.size) av.toArray U := by
  intro U hU hW
  refine ⟨rfl, by rw [hU], by rw [hU]; exact hP.sub isC (jsub hC), hJ.warm hW, (hD.sub isC hn1 hC).weaken (fun _ _ _ _ => trivial), ?_⟩
  rw [hU]
  exact hZ.warm hW hS.2.1 (va_free hD hS hA isC hC)
theorem jrunV (J : JC p s m args meth c cc nL rt0 own) (hJ : jE E s) (hA : ∀ q, s.heap.size ≤ q → A q) (hZ : jz_ok E A s s.heap) (hP : va_P E.1 classes WS H) (hD : va_D A WS) (hS : va_S A s.heap H locs)
    (hM : Met l y (Cond.code y cy mL rt :: G) rm (va_Pc (.ref b :: As) (PW E WC H.size)) Qc 0 0 (va_A WC H.size)) (isC : List Nat) (hC : isC.map (fun i => WS[i]?) = WC.map some) (hn1 : va_nd isC = true)
    (gl : Cond.methodLink own idx y ∈ G) (gi : Cond.instanceMethod y ∈ G) (gs : Cond.selects y.cls y y ∈ G) (gini : Cond.initialized y.cls ∈ G) (gc : Cond.code y cy mL rt ∈ G) (hd : y.cls ≠ "java/lang/invoke/MethodHandle" ∧ y.cls ≠ "java/lang/invoke/VarHandle" ∧ (parseMethodDescriptor y.desc).map (fun d => d.parameters.length) = some n)
    (hrm : rm.cells = 0 ∧ rm.slots = 0 ∧ rm.frames + 1 ≤ R.frames ∧ 8 + (mL + 11) + rm.locals ≤ R.locals) {ci N : Nat} {fs : List Value} {T : u_T} (hrec : WC[0]? = some (b, .inr (ci, fs))) (hcl : classes[ci]? = some (y.cls, T, N))
    (hls : ls.size = nL) (hn : As.length = n) (hst : st0 = As.reverse ++ .ref b :: rest) (hroom : (rest.map fun v => v.category).sum ≤ 8) (hdg : decode cc pc = .ok (.invokevirtual idx, 3)) (hcs : cells ≤ R.cells ∧ slots ≤ R.slots) :
    va_Run p l e R s m args below meth c H locs cells slots 0 0 (F0 m pc ls st0) rest (Qc (Value.ref b :: As).toArray) (va_A WC H.size) := by
  obtain ⟨hx, hb, hml, hr, hown, hts, hlk⟩ := J
  exact va_runV (Ts := G) (As := As) (rest := rest) (C := y.cls) ⟨hx, hb, hml, hown, hts⟩ hM ⟨callB_of n hts (gG gc) rfl hrm.1 hrm.2.1 (hts _ gini) (hts _ gl) hd hrm.2.2, hts _ gi, hts _ gs⟩ ⟨PW.blind, va_recv hJ.1 (hP.sub isC (jsub hC)) hcl hrec, jpre hJ hA hZ hP hD hS isC hC hn1⟩ rfl hn hls hst (lv_room hroom) hdg hcs
theorem jrunS (J : JC p s m args meth c cc nL rt0 own) (hJ : jE E s) (hA : ∀ q, s.heap.size ≤ q → A q) (hZ : jz_ok E A s s.heap) (hP : va_P E.1 classes WS H) (hD : va_D A WS) (hS : va_S A s.heap H locs)
    (hM : Met l y (Cond.code y cy mL rt :: G) rm (va_Pc As (PW E WC H.size)) Qc 0 0 (va_A WC H.size)) (isC : List Nat) (hC : isC.map (fun i => WS[i]?) = WC.map some) (hn1 : va_nd isC = true)
    (gl : Cond.methodLink own idx y ∈ G) (gs : Cond.static y ∈ G) (gini : Cond.initialized y.cls ∈ G) (gc : Cond.code y cy mL rt ∈ G) (hd : y.cls ≠ "java/lang/invoke/MethodHandle" ∧ y.cls ≠ "java/lang/invoke/VarHandle" ∧ (parseMethodDescriptor y.desc).map (fun d => d.parameters.length) = some n)
    (hrm : rm.cells = 0 ∧ rm.slots = 0 ∧ rm.frames + 1 ≤ R.frames ∧ 8 + (mL + 11) + rm.locals ≤ R.locals)
    (hls : ls.size = nL) (hn : As.length = n) (hst : st0 = As.reverse ++ rest) (hroom : (rest.map fun v => v.category).sum ≤ 8) (hdg : decode cc pc = .ok (.invokestatic idx, 3)) (hcs : cells ≤ R.cells ∧ slots ≤ R.slots) :
    va_Run p l e R s m args below meth c H locs cells slots 0 0 (F0 m pc ls st0) rest (Qc As.toArray) (va_A WC H.size) := by
  obtain ⟨hx, hb, hml, hr, hown, hts, hlk⟩ := J
  exact va_runS (Ts := G) (As := As) (rest := rest) ⟨hx, hb, hml, hown, hts⟩ hM ⟨callB_of n hts (gG gc) rfl hrm.1 hrm.2.1 (hts _ gini) (hts _ gl) hd hrm.2.2, hts _ gs⟩ ⟨PW.blind, jpre hJ hA hZ hP hD hS isC hC hn1⟩ rfl hn hls hst (lv_room hroom) hdg hcs
theorem jk_i {res : Int32} {a : Array Value} (hr : va_Run p l e R s m args below meth c H locs cells slots 0 0 (F0 m pc ls st0) rest (va_Qi (fun (r' : Int32) (u : va_W) => r' = res ∧ u = WC') (BW E (va_A WC H.size)) (va_A WC H.size) a) (va_A WC H.size)) (hA : ∀ q, s.heap.size ≤ q → A q) (hP : va_P E.1 classes WS H) (hD : va_D A WS) (hS : va_S A s.heap H locs) (isC isR : List Nat) (hC : isC.map (fun i => WS[i]?) = WC.map some) (hR : isR.map (fun i => WS[i]?) = WR.map some) (hn2 : va_nd isR = true) (hdis : ∀ i ∈ isR, i ∉ isC) (isF : List Nat) {WF : va_W} (hF : isF.map (fun i => (WR ++ WC')[i]?) = WF.map some) (hn3 : va_nd isF = true)
    (kk : ∀ (H1 : Heap) (locs1 : List Loc), va_P E.1 classes WF H1 → va_D A WF → va_S A s.heap H1 locs1 → W p l e R s m args below meth c H1 locs1 cells slots Q (F0 m (pc + 3) ls (.int res :: rest))) : W p l e R s m args below meth c H locs cells slots Q (F0 m pc ls st0) := by
  have hFc := va_free hD hS hA isC hC
  refine va_calli hr hS (fun q _ h => hFc q h) hFc (fun r u t H1 locs1 ht hvm hw hB hz1 hk1 hS1 => ?_)
  obtain ⟨rfl, rfl⟩ := hw
  obtain ⟨hP1, hD1⟩ := hB
  rw [ht] at hP1
  obtain ⟨hP2, hD2⟩ := va_join hP hD isC isR hC hR hn2 hdis hk1 hFc hP1 hD1
  exact kk H1 locs1 (hP2.sub isF (jsub hF)) (hD2.sub isF hn3 hF) hS1
theorem jk_l {res : Int64} {a : Array Value} (hr : va_Run p l e R s m args below meth c H locs cells slots 0 0 (F0 m pc ls st0) rest (va_Ql (fun (r' : Int64) (u : va_W) => r' = res ∧ u = WC') (BW E (va_A WC H.size)) (va_A WC H.size) a) (va_A WC H.size)) (hA : ∀ q, s.heap.size ≤ q → A q) (hP : va_P E.1 classes WS H) (hD : va_D A WS) (hS : va_S A s.heap H locs) (isC isR : List Nat) (hC : isC.map (fun i => WS[i]?) = WC.map some) (hR : isR.map (fun i => WS[i]?) = WR.map some) (hn2 : va_nd isR = true) (hdis : ∀ i ∈ isR, i ∉ isC) (isF : List Nat) {WF : va_W} (hF : isF.map (fun i => (WR ++ WC')[i]?) = WF.map some) (hn3 : va_nd isF = true)
    (kk : ∀ (H1 : Heap) (locs1 : List Loc), va_P E.1 classes WF H1 → va_D A WF → va_S A s.heap H1 locs1 → W p l e R s m args below meth c H1 locs1 cells slots Q (F0 m (pc + 3) ls (.long res :: rest))) : W p l e R s m args below meth c H locs cells slots Q (F0 m pc ls st0) := by
  have hFc := va_free hD hS hA isC hC
  refine va_calll hr hS (fun q _ h => hFc q h) hFc (fun r u t H1 locs1 ht hvm hw hB hz1 hk1 hS1 => ?_)
  obtain ⟨rfl, rfl⟩ := hw
  obtain ⟨hP1, hD1⟩ := hB
  rw [ht] at hP1
  obtain ⟨hP2, hD2⟩ := va_join hP hD isC isR hC hR hn2 hdis hk1 hFc hP1 hD1
  exact kk H1 locs1 (hP2.sub isF (jsub hF)) (hD2.sub isF hn3 hF) hS1
theorem jk_v {a : Array Value} (hr : va_Run p l e R s m args below meth c H locs cells slots 0 0 (F0 m pc ls st0) rest (va_Qv (fun (u : va_W) => u = WC') (BW E (va_A WC H.size)) (va_A WC H.size) a) (va_A WC H.size)) (hA : ∀ q, s.heap.size ≤ q → A q) (hP : va_P E.1 classes WS H) (hD : va_D A WS) (hS : va_S A s.heap H locs) (isC isR : List Nat) (hC : isC.map (fun i => WS[i]?) = WC.map some) (hR : isR.map (fun i => WS[i]?) = WR.map some) (hn2 : va_nd isR = true) (hdis : ∀ i ∈ isR, i ∉ isC) (isF : List Nat) {WF : va_W} (hF : isF.map (fun i => (WR ++ WC')[i]?) = WF.map some) (hn3 : va_nd isF = true)
    (kk : ∀ (H1 : Heap) (locs1 : List Loc), va_P E.1 classes WF H1 → va_D A WF → va_S A s.heap H1 locs1 → W p l e R s m args below meth c H1 locs1 cells slots Q (F0 m (pc + 3) ls rest)) : W p l e R s m args below meth c H locs cells slots Q (F0 m pc ls st0) := by
  have hFc := va_free hD hS hA isC hC
  refine va_callv hr hS (fun q _ h => hFc q h) hFc (fun u t H1 locs1 ht hvm hw hB hz1 hk1 hS1 => ?_)
  subst hw
  obtain ⟨hP1, hD1⟩ := hB
  rw [ht] at hP1
  obtain ⟨hP2, hD2⟩ := va_join hP hD isC isR hC hR hn2 hdis hk1 hFc hP1 hD1
  exact kk H1 locs1 (hP2.sub isF (jsub hF)) (hD2.sub isF hn3 hF) hS1
/-- out of a guard's value -/
theorem g_ck {α : Type} {q : Prop} [Decidable q] {a : Option α} {r : α} (h : (if q then a else none) = some r) : q ∧ a = some r := by
  by_cases hq : q
  · rw [if_pos hq] at h; exact ⟨hq, h⟩
  · rw [if_neg hq] at h; cases h
theorem g_bd {α β : Type} {a : Option α} {f : α → Option β} {r : β} (h : a.bind f = some r) : ∃ x, a = some x ∧ f x = some r := by
  cases a with
  | none => cases h
  | some x => exact ⟨x, rfl, h⟩
abbrev ck (i : Int32) (n : Nat) : Prop := ¬ (i < 0 ∨ n ≤ i.toNatClampNeg)
end JR
