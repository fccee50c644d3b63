/-! ROWS OF MINE for constructors: what is new comes at the end of the world -/
abbrev CTn (l : Launch) (E : jz_E) (y : MethodName) (cc : ByteArray) (mL : Nat) (rm : Room) (av : List Value) (WS : va_W) (sz : Nat) (S : Type) (wn : S → va_W) (mc ms : Nat) : Prop := Met l y (Cond.code y cc mL none :: G) rm (va_Pc av (PW E WS sz)) (va_Qv (fun (_ : S) => True) (fun u t => BW E (va_A WS sz) (wn u) t) (va_A WS sz)) mc ms (va_A WS sz)
theorem jwI {l : Launch} {E : jz_E} {y : MethodName} {cc : ByteArray} {mL : Nat} {rt : Option FieldType} {rm : Room} {av : List Value} {WS : va_W} {sz : Nat} {Qc : Array Value → State → Outcome → State → Prop} {mc ms : Nat} (hy : plainName y.cls = true) (hlen : (lg_sl av).length ≤ mL)
    (body : ∀ (p : Program) (e : Env) (s : State) (m : MethodId) (below : List Frame) (meth : Method) (c : Code) (A : Nat → Prop) (ls : Array Slot), JC p s m av.toArray meth c cc mL rt y.cls → meth.name = y.name → jE E s → A = va_A WS sz → s.heap.size = sz → (∀ q : Nat, s.heap.size ≤ q → A q) → jz_ok E A s s.heap → va_P E.1 classes WS s.heap → va_D A WS → lv_has ls mL (lv_args 0 av) → W p l e rm s m av.toArray below meth c s.heap [] 0 0 (MQ below Qc av.toArray s mc ms A) (F0 m 0 ls [])) : Met l y (Cond.code y cc mL rt :: G) rm (va_Pc av (PW E WS sz)) Qc mc ms (va_A WS sz) := by
  refine Met.ofW (cc := cc) (maxL := mL) (ret := rt) hy rfl ?_
  intro p e s m args below meth c s₁ B hml hv
  obtain ⟨rfl, hsz, hP, hK, hD0, hZ⟩ := hv
  have hts := atoms_spec (ws := Cond.code y cc mL rt :: G) B.pre
  have hown : s.vm.findClass y.cls = some m.cls := findClass_of_methodNamed B.named
  have hD := hD0.self (sz := sz)
  have hl := lv_entry av (n := mL) hlen
  rw [lg_entry_eq]
  generalize (lg_sl av ++ List.replicate (mL - (lg_sl av).length) Slot.unset).toArray = ls at hl ⊢
  exact body p e s m below meth c (va_A WS sz) ls ⟨B.exec, B.bytes, hml, B.returns, hown, fun w h => hts w (List.mem_cons_of_mem _ h), B.notSynchronized⟩ (name_of_methodNamed B.named B.method).1 hK rfl hsz (fun q h => Or.inr (by rw [← hsz]; exact h)) hZ hP hD hl
section JA
variable {p : Program} {l : Launch} {e : Env} {R : Room} {s : State} {m : MethodId} {args : Array Value} {below : List Frame} {meth : Method} {c : Code} {H : Heap} {locs : List Loc} {cells slots : Nat} {Q : State → Prop}
variable {cc : ByteArray} {nL pc : Nat} {ls : Array Slot} {rest st0 : List Value} {E : jz_E} {A : Nat → Prop} {WS : va_W} {rt0 : Option FieldType} {own : String}
theorem jr_n {S : Type} {wn : S → va_W} (u : S) (J : JC p s m args meth c cc nL none own) (hS : va_S A s.heap H locs) (hP : va_P E.1 classes (wn u) H) (hD : va_D A (wn u)) (hdg : decode cc pc = .ok (.return_, 1)) : W p l e R s m args below meth c H locs cells slots (MQ below (va_Qv (fun (_ : S) => True) (fun u t => BW E A (wn u) t) A) args s cells slots A) (F0 m pc ls []) := by
  obtain ⟨hx, hb, -, hr, -, -, hlocks⟩ := J
  exact W.vret hx hb hr (fun t ht hW => ⟨⟨u, rfl, trivial, by rw [ht]; exact hP, hD⟩, hS.F ht⟩) hS.2.2 hdg
theorem jpF (J : JC p s m args meth c cc nL rt0 own) (hin : meth.name = "<init>") (hJ : jE E s) (hP : va_P E.1 classes WS H) (hD : va_D A WS) (hS : va_S A s.heap H locs) (q0 : Nat) {a ci N idx : Nat} {fs : List Value} {C : String} {T : u_T} (he : WS[q0]? = some (a, .inr (ci, fs))) (hc : classes[ci]? = some (C, T, N)) (hin0 : ∀ w ∈ u_ws C T N, w ∈ G) (ty0 : Nat → FieldType) (hty : ∀ k, k < N → parseFieldDescriptor (T k).2.2.1 = some (ty0 k)) (hnm : ∀ a, a < N → ∀ b, b < N → a ≠ b → (T a).2.1 ≠ (T b).2.1) (k : Nat) (hk : k < N) (gf : Cond.fieldLink own idx (T k).1 (T k).2.1 (T k).2.2.1 ∈ G) (hfin : (T k).2.2.2 = true) (hdecl : (T k).1 = own) {v : Value} (hn : narrow (ty0 k) v = v) (hfit : fits (ty0 k) v = true) (hl : k < fs.length) (hdg : decode cc pc = .ok (.putfield idx, 3)) {WS' : va_W} (hw : WS.set q0 (a, .inr (ci, fs.set k v)) = WS') (kk : ∀ (H1 : Heap) (locs1 : List Loc), va_P E.1 classes WS' H1 → va_D A WS' → va_S A s.heap H1 locs1 → W p l e R s m args below meth c H1 locs1 cells slots Q (F0 m (pc + 3) ls rest)) : W p l e R s m args below meth c H locs cells slots Q (F0 m pc ls (v :: .ref a :: rest)) := by
  obtain ⟨hx, hb, -, -, hown, hts, -⟩ := J
  subst hw
  exact va_putF hx hb hts hin0 ty0 hty hnm hown hJ.1 hP hD hS q0 he hc k hk (hts _ gf) (fun _ h => h) hfin hin hdecl (hty k hk) hn hfit hl hdg kk
theorem jnew (J : JC p s m args meth c cc nL rt0 own) (hJ : jE E s) (hA : ∀ q, s.heap.size ≤ q → A q) (hP : va_P E.1 classes WS H) (hD : va_D A WS) (hS : va_S A s.heap H locs) {ci N idx : Nat} {C : String} {T : u_T} (hc : classes[ci]? = some (C, T, N)) (hin : ∀ w ∈ u_ws C T N, w ∈ G) (ty : Nat → FieldType) (hty : ∀ k, k < N → parseFieldDescriptor (T k).2.2.1 = some (ty k)) (gcl : Cond.classLink own idx C ∈ G) (ginst : Cond.instantiable C N ∈ G) (gini : Cond.initialized C ∈ G) {fs : List Value} (hfs : ∀ j, j < N → defaultValue (ty j) = vp_V fs j) (hcells : cells + 1 ≤ R.cells) (hslots : slots + N ≤ R.slots) (hdg : decode cc pc = .ok (.new idx, 3)) (kk : ∀ (q : Nat) (H1 : Heap), va_P E.1 classes (WS ++ [(q, .inr (ci, fs))]) H1 → va_D A (WS ++ [(q, .inr (ci, fs))]) → va_S A s.heap H1 locs → W p l e R s m args below meth c H1 locs (cells + 1) (slots + N) Q (F0 m (pc + 3) ls (.ref q :: rest))) : W p l e R s m args below meth c H locs cells slots Q (F0 m pc ls rest) := by
  obtain ⟨hx, hb, -, -, hown, hts, -⟩ := J
  exact va_new hx hb hts hin ty hty hown (hts _ gcl) (hts _ ginst) (hts _ gini) hJ.1 hP hD hS hA hc hfs hcells hslots hdg kk
theorem jna (k0 : Nat) (J : JC p s m args meth c cc nL rt0 own) (hJ : jE E s) (hA : ∀ q, s.heap.size ≤ q → A q) (hP : va_P E.1 classes WS H) (hD : va_D A WS) (hS : va_S A s.heap H locs) {atype : ArrayType} {ty : FieldType} {cA0 : ClassId} (gac : Cond.arrayClass (newarray.typeOf atype) ∈ G) (hty : newarray.typeOf atype = ty) (hk0 : (jty E.2.1)[k0]? = some (cA0, ty)) (hRA : ∀ cA : ClassId, va_RA s cA ty → va_RA s cA0 ty → cA = cA0) {n : Int32} {N' : Nat} {a0 : vp_A} (ha : ∀ cA : ClassId, vp_cell cA a0 = arrV cA N' (fun _ => defaultValue ty)) (hn : ¬ n < 0) (hN : n.toNatClampNeg = N') (hbytes : N' * componentBytes ty ≤ 536870912) (hcells : cells + 1 ≤ R.cells) (hslots : slots + N' ≤ R.slots) (hdg : decode cc pc = .ok (.newarray atype, 2))
    (kk : ∀ (q : Nat) (H1 : Heap), va_P E.1 classes (WS ++ [(q, .inl (cA0, a0))]) H1 → va_D A (WS ++ [(q, .inl (cA0, a0))]) → va_S A s.heap H1 locs → W p l e R s m args below meth c H1 locs (cells + 1) (slots + N') Q (F0 m (pc + 2) ls (.ref q :: rest))) : W p l e R s m args below meth c H locs cells slots Q (F0 m pc ls (.int n :: rest)) := by
  obtain ⟨hx, hb, -, -, hown, hts, -⟩ := J
  refine va_newa hx hb (hts _ gac) hty hJ.1 hP hD hS hA ha hn hN hbytes hcells hslots hdg (fun q cA H1 hK1 hP1 hD1 hS1 => ?_)
  have h1 := (hK1.2 5 (cA, ty) rfl).2
  have h2 := (hJ.1.2 k0 _ hk0).2
  have h3 := hRA cA h1 h2
  subst h3
  exact kk q H1 hP1 hD1 hS1
variable {y : MethodName} {cy : ByteArray} {mL idx n mc ms : Nat} {rm : Room} {WC WR : va_W} {b : Addr} {As : List Value} {Qc : Array Value → State → Outcome → State → Prop}
theorem jrunI (J : JC p s m args meth c cc nL rt0 own) (hJ : jE E s) (hA : ∀ q, s.heap.size ≤ q → A q) (hZ : jz_ok E A s s.heap) (hP : va_P E.1 classes WS H) (hD : va_D A WS) (hS : va_S A s.heap H locs)
    (hM : Met l y (Cond.code y cy mL none :: G) rm (va_Pc (.ref b :: As) (PW E WC H.size)) Qc mc ms (va_A WC H.size)) (isC : List Nat) (hC : isC.map (fun i => WS[i]?) = WC.map some) (hn1 : va_nd isC = true)
    (gl : Cond.methodLink own idx y ∈ G) (gi : Cond.instanceMethod y ∈ G) (gini : Cond.initialized y.cls ∈ G) (gc : Cond.code y cy mL none ∈ G) (hy1 : y.name = "<init>") (hd : y.cls ≠ "java/lang/invoke/MethodHandle" ∧ y.cls ≠ "java/lang/invoke/VarHandle" ∧ (parseMethodDescriptor y.desc).map (fun d => d.parameters.length) = some n)
    (hrm : rm.cells = mc ∧ rm.slots = ms ∧ rm.frames + 1 ≤ R.frames ∧ 8 + (mL + 11) + rm.locals ≤ R.locals)
    (hls : ls.size = nL) (hn : As.length = n) (hst : st0 = As.reverse ++ .ref b :: rest) (hroom : (rest.map fun v => v.category).sum ≤ 8) (hdg : decode cc pc = .ok (.invokespecial idx, 3)) (hcs : cells + mc ≤ R.cells ∧ slots + ms ≤ R.slots) :
    va_Run p l e R s m args below meth c H locs cells slots mc ms (F0 m pc ls st0) rest (Qc (Value.ref b :: As).toArray) (va_A WC H.size) := by
  obtain ⟨hx, hb, hml, hr, hown, hts, hlk⟩ := J
  exact va_runI (Ts := G) (As := As) (rest := rest) ⟨hx, hb, hml, hown, hts⟩ hM ⟨callB_of n hts (gG gc) rfl hrm.1 hrm.2.1 (hts _ gini) (hts _ gl) hd hrm.2.2, hy1, hts _ gi⟩ ⟨PW.blind, jpre hJ hA hZ hP hD hS isC hC hn1⟩ rfl hn hls hst (lv_room hroom) hdg hcs
theorem jk_n {S : Type} {wn WF : S → va_W} {a : Array Value} (hr : va_Run p l e R s m args below meth c H locs cells slots mc ms (F0 m pc ls st0) rest (va_Qv (fun (_ : S) => True) (fun u t => BW E (va_A WC H.size) (wn u) t) (va_A WC H.size) a) (va_A WC H.size)) (hA : ∀ q, s.heap.size ≤ q → A q) (hP : va_P E.1 classes WS H) (hD : va_D A WS) (hS : va_S A s.heap H locs) (isC isR : List Nat) (hC : isC.map (fun i => WS[i]?) = WC.map some) (hR : isR.map (fun i => WS[i]?) = WR.map some) (hn2 : va_nd isR = true) (hdis : ∀ i ∈ isR, i ∉ isC) (isF : List Nat) (hF : ∀ u, isF.map (fun i => (WR ++ wn u)[i]?) = (WF u).map some) (hn3 : va_nd isF = true)
    (kk : ∀ (u : S) (H1 : Heap) (locs1 : List Loc), va_P E.1 classes (WF u) H1 → va_D A (WF u) → va_S A s.heap H1 locs1 → W p l e R s m args below meth c H1 locs1 (cells + mc) (slots + ms) Q (F0 m (pc + 3) ls rest)) : W p l e R s m args below meth c H locs cells slots Q (F0 m pc ls st0) := by
  have hFc := va_free hD hS hA isC hC
  refine va_callv hr hS (fun q _ h => hFc q h) hFc (fun u t H1 locs1 ht hvm hw hB hz1 hk1 hS1 => ?_)
  obtain ⟨hP1, hD1⟩ := hB
  rw [ht] at hP1
  obtain ⟨hP2, hD2⟩ := va_join hP hD isC isR hC hR hn2 hdis hk1 hFc hP1 hD1
  exact kk u H1 locs1 (hP2.sub isF (jsub (hF u))) (hD2.sub isF hn3 (hF u)) hS1
theorem jobj (J : JC p s m args meth c cc nL rt0 own) {a : Addr} (gl : Cond.methodLink own idx y_JO_init ∈ G) (hls : ls.size = nL) (hfr : 1 ≤ R.frames) (hlo : (rest.map fun v => v.category).sum + 12 ≤ R.locals) (hdg : decode cc pc = .ok (.invokespecial idx, 3)) (kk : W p l e R s m args below meth c H locs cells slots Q (F0 m (pc + 3) ls rest)) : W p l e R s m args below meth c H locs cells slots Q (F0 m pc ls (.ref a :: rest)) := by
  obtain ⟨hx, hb, hml, -, hown, hts, -⟩ := J
  exact W.objInit hx hb hown (hts _ gl) (hts _ gi_JO_init) (hts _ gc_JO_init) rfl (hls.trans hml.symm) rfl hdg hfr (by simpa [F0, JFrame.monitorRoom] using hlo) kk
end JA
