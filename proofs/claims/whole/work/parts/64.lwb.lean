/-! THE LAW: calls beside a pool of cells; the guests' pool -/
section LWB
theorem hC_app {X pl WC : va_W} {is : List Nat} (h : is.map (fun i => X[i]?) = WC.map some) : is.map (fun i => (X ++ pl)[i]?) = WC.map some := by
  rw [← h]
  refine List.map_congr_left fun i hi => ?_
  have h1 : X[i]? ∈ is.map (fun i => X[i]?) := List.mem_map.mpr ⟨i, hi, rfl⟩
  rw [h] at h1
  obtain ⟨w, hw, e⟩ := List.mem_map.mp h1
  exact List.getElem?_append_left (List.getElem?_eq_some_iff.mp e.symm).1
section JQ
variable {p : Program} {l : Launch} {e : Env} {R : Room} {s : State} {m : MethodId} {args : Array Value} {below : List Frame} {meth : Method} {c : Code} {H : Heap} {locs : List Loc} {cells slots : Nat} {Q : State → Prop}
variable {cc : ByteArray} {nL pc : Nat} {ls : Array Slot} {rest st0 : List Value} {E : jz_E} {A : Nat → Prop} {rt0 : Option FieldType} {own : String}
variable {y : MethodName} {cy : ByteArray} {mL idx n mc ms : Nat} {rt : Option FieldType} {rm : Room} {X pl WC WR WC' XF : va_W} {b : Addr} {As : List Value} {Qc : Array Value → State → Outcome → State → Prop}
theorem jrunQ (J : JC p s m args meth c cc nL rt0 own) (hJ : jE E s) (hA : ∀ q, s.heap.size ≤ q → A q) (hZ : jz_ok E A s s.heap) (hP : va_P E.1 classes (X ++ pl) H) (hD : va_D A (X ++ pl)) (hS : va_S A s.heap H locs)
    (hM : Met l y (Cond.code y cy mL rt :: G) rm (va_Pc (.ref b :: As) (PW E WC H.size)) Qc mc ms (va_A WC H.size)) (isC : List Nat) (hC : isC.map (fun i => X[i]?) = WC.map some) (hn1 : va_nd isC = true)
    (gl : Cond.methodLink own idx y ∈ G) (gi : Cond.instanceMethod y ∈ G) (gs : Cond.selects y.cls y y ∈ G) (gini : Cond.initialized y.cls ∈ G) (gc : Cond.code y cy mL rt ∈ G) (hd : y.cls ≠ "java/lang/invoke/MethodHandle" ∧ y.cls ≠ "java/lang/invoke/VarHandle" ∧ (parseMethodDescriptor y.desc).map (fun d => d.parameters.length) = some n)
    (hrm : rm.cells = mc ∧ rm.slots = ms ∧ rm.frames + 1 ≤ R.frames ∧ 8 + (mL + 11) + rm.locals ≤ R.locals) {ci N : Nat} {fs : List Value} {T : u_T} (hrec : WC[0]? = some (b, .inr (ci, fs))) (hcl : classes[ci]? = some (y.cls, T, N))
    (hls : ls.size = nL) (hn : As.length = n) (hst : st0 = As.reverse ++ .ref b :: rest) (hroom : (rest.map fun v => v.category).sum ≤ 8) (hdg : decode cc pc = .ok (.invokevirtual idx, 3)) (hcs : cells + mc ≤ R.cells ∧ slots + ms ≤ R.slots) :
    va_Run p l e R s m args below meth c H locs cells slots mc ms (F0 m pc ls st0) rest (Qc (Value.ref b :: As).toArray) (va_A WC H.size) := by
  obtain ⟨hx, hb, hml, hr, hown, hts, hlk⟩ := J
  exact va_runV (Ts := G) (As := As) (rest := rest) (C := y.cls) ⟨hx, hb, hml, hown, hts⟩ hM ⟨callB_of n hts (gG gc) rfl hrm.1 hrm.2.1 (hts _ gini) (hts _ gl) hd hrm.2.2, hts _ gi, hts _ gs⟩ ⟨PW.blind, va_recv hJ.1 (hP.sub isC (jsub (hC_app hC))) hcl hrec, jpre hJ hA hZ hP hD hS isC (hC_app hC) hn1⟩ rfl hn hls hst (lv_room hroom) hdg hcs
theorem jkq_i {res : Int32} {a : Array Value} (hr : va_Run p l e R s m args below meth c H locs cells slots 0 0 (F0 m pc ls st0) rest (va_Qi (fun (r' : Int32) (u : va_W) => r' = res ∧ u = WC') (BW E (va_A WC H.size)) (va_A WC H.size) a) (va_A WC H.size)) (hA : ∀ q, s.heap.size ≤ q → A q) (hP : va_P E.1 classes (X ++ pl) H) (hD : va_D A (X ++ pl)) (hS : va_S A s.heap H locs) (isC isR : List Nat) (hC : isC.map (fun i => X[i]?) = WC.map some) (hR : isR.map (fun i => X[i]?) = WR.map some) (hn2 : va_nd isR = true) (hdis : ∀ i ∈ isR, i ∉ isC) (isF : List Nat) (hF : isF.map (fun i => (WR ++ WC')[i]?) = XF.map some) (hn3 : va_nd isF = true)
    (kk : ∀ (H1 : Heap) (locs1 : List Loc), va_P E.1 classes (XF ++ pl) H1 → va_D A (XF ++ pl) → va_S A s.heap H1 locs1 → W p l e R s m args below meth c H1 locs1 cells slots Q (F0 m (pc + 3) ls (.int res :: rest))) : W p l e R s m args below meth c H locs cells slots Q (F0 m pc ls st0) := by
  have hFc := va_free hD hS hA isC (hC_app hC)
  refine va_calli hr hS (fun q _ h => hFc q h) hFc (fun r u t H1 locs1 ht hvm hw hB hz1 hk1 hS1 => ?_)
  obtain ⟨rfl, rfl⟩ := hw
  obtain ⟨hP1, hD1⟩ := hB
  rw [ht] at hP1
  obtain ⟨hP2, hD2⟩ := va_joinQ hP hD isC isR hC hR hn2 hdis hk1 hFc hP1 hD1
  exact kk H1 locs1 (hP2.part isF hF) (hD2.part isF hn3 hF) hS1
theorem jkq_m {S : Type} {wn WF : S → va_W} {res : Int32} {a : Array Value} (hr : va_Run p l e R s m args below meth c H locs cells slots mc ms (F0 m pc ls st0) rest (va_Qi (fun (r' : Int32) (_ : S) => r' = res) (fun u t => BW E (va_A WC H.size) (wn u) t) (va_A WC H.size) a) (va_A WC H.size)) (hA : ∀ q, s.heap.size ≤ q → A q) (hP : va_P E.1 classes (X ++ pl) H) (hD : va_D A (X ++ pl)) (hS : va_S A s.heap H locs) (isC isR : List Nat) (hC : isC.map (fun i => X[i]?) = WC.map some) (hR : isR.map (fun i => X[i]?) = WR.map some) (hn2 : va_nd isR = true) (hdis : ∀ i ∈ isR, i ∉ isC) (isF : List Nat) (hF : ∀ u, isF.map (fun i => (WR ++ wn u)[i]?) = (WF u).map some) (hn3 : va_nd isF = true)
    (kk : ∀ (u : S) (H1 : Heap) (locs1 : List Loc), va_P E.1 classes (WF u ++ pl) H1 → va_D A (WF u ++ pl) → va_S A s.heap H1 locs1 → W p l e R s m args below meth c H1 locs1 (cells + mc) (slots + ms) Q (F0 m (pc + 3) ls (.int res :: rest))) : W p l e R s m args below meth c H locs cells slots Q (F0 m pc ls st0) := by
  have hFc := va_free hD hS hA isC (hC_app hC)
  refine va_calli hr hS (fun q _ h => hFc q h) hFc (fun r u t H1 locs1 ht hvm hw hB hz1 hk1 hS1 => ?_)
  subst hw
  obtain ⟨hP1, hD1⟩ := hB
  rw [ht] at hP1
  obtain ⟨hP2, hD2⟩ := va_joinQ hP hD isC isR hC hR hn2 hdis hk1 hFc hP1 hD1
  exact kk u H1 locs1 (hP2.part isF (hF u)) (hD2.part isF hn3 (hF u)) hS1
end JQ
/-- two parts change places -/
theorem sw_i {X A B C : va_W} (k : Nat) (q : Nat × va_E) (h : (X ++ (B ++ (A ++ C)))[k]? = some q) : (X ++ (A ++ (B ++ C)))[if k < X.length then k else if k < X.length + B.length then k + A.length else if k < X.length + B.length + A.length then k - B.length else k]? = some q := by
  by_cases h1 : k < X.length
  · rw [if_pos h1, List.getElem?_append_left h1]
    rw [List.getElem?_append_left h1] at h
    exact h
  · rw [if_neg h1]
    rw [List.getElem?_append_right (by omega)] at h
    by_cases h2 : k < X.length + B.length
    · rw [if_pos h2, List.getElem?_append_right (by omega), List.getElem?_append_right (by omega), List.getElem?_append_left (by omega)]
      rw [List.getElem?_append_left (by omega)] at h
      rw [← h]
      congr 1
      omega
    · rw [if_neg h2]
      rw [List.getElem?_append_right (by omega)] at h
      by_cases h3 : k < X.length + B.length + A.length
      · rw [if_pos h3, List.getElem?_append_right (by omega), List.getElem?_append_left (by omega)]
        rw [List.getElem?_append_left (by omega)] at h
        rw [← h]
        congr 1
        omega
      · rw [if_neg h3, List.getElem?_append_right (by omega), List.getElem?_append_right (by omega), List.getElem?_append_right (by omega)]
        rw [List.getElem?_append_right (by omega)] at h
        rw [← h]
        congr 1
        omega
theorem sw_P {D : va_G} {cl : List vw_C} {X A B C : va_W} {H : Heap} (h : va_P D cl (X ++ (A ++ (B ++ C))) H) : va_P D cl (X ++ (B ++ (A ++ C))) H := h.by _ sw_i
theorem sw_D {Z : Nat → Prop} {X A B C : va_W} (h : va_D Z (X ++ (A ++ (B ++ C)))) : va_D Z (X ++ (B ++ (A ++ C))) := by
  refine h.by _ sw_i fun i j hi hj e => ?_
  rw [List.length_append, List.length_append, List.length_append] at hi hj
  by_cases a1 : i < X.length
  · rw [if_pos a1] at e
    by_cases b1 : j < X.length
    · rw [if_pos b1] at e; omega
    · rw [if_neg b1] at e
      by_cases b2 : j < X.length + B.length
      · rw [if_pos b2] at e; omega
      · rw [if_neg b2] at e
        by_cases b3 : j < X.length + B.length + A.length
        · rw [if_pos b3] at e; omega
        · rw [if_neg b3] at e; omega
  · rw [if_neg a1] at e
    by_cases a2 : i < X.length + B.length
    · rw [if_pos a2] at e
      by_cases b1 : j < X.length
      · rw [if_pos b1] at e; omega
      · rw [if_neg b1] at e
        by_cases b2 : j < X.length + B.length
        · rw [if_pos b2] at e; omega
        · rw [if_neg b2] at e
          by_cases b3 : j < X.length + B.length + A.length
          · rw [if_pos b3] at e; omega
          · rw [if_neg b3] at e; omega
    · rw [if_neg a2] at e
      by_cases a3 : i < X.length + B.length + A.length
      · rw [if_pos a3] at e
        by_cases b1 : j < X.length
        · rw [if_pos b1] at e; omega
        · rw [if_neg b1] at e
          by_cases b2 : j < X.length + B.length
          · rw [if_pos b2] at e; omega
          · rw [if_neg b2] at e
            by_cases b3 : j < X.length + B.length + A.length
            · rw [if_pos b3] at e; omega
            · rw [if_neg b3] at e; omega
      · rw [if_neg a3] at e
        by_cases b1 : j < X.length
        · rw [if_pos b1] at e; omega
        · rw [if_neg b1] at e
          by_cases b2 : j < X.length + B.length
          · rw [if_pos b2] at e; omega
          · rw [if_neg b2] at e
            by_cases b3 : j < X.length + B.length + A.length
            · rw [if_pos b3] at e; omega
            · rw [if_neg b3] at e; omega
def up1 {α : Type} (f : Nat → α) (k : Nat) (x : α) : Nat → α := fun j => if j = k then x else f j
def pool (GC : Nat → va_W) : va_W := GC 0 ++ (GC 1 ++ (GC 2 ++ []))
def oth (GC : Nat → va_W) (g : Nat) : va_W := if g = 0 then GC 1 ++ (GC 2 ++ []) else if g = 1 then GC 0 ++ (GC 2 ++ []) else GC 0 ++ (GC 1 ++ [])
/-- one guest's cells come first -/
theorem pl_out {D : va_G} {cl : List vw_C} {X : va_W} {GC : Nat → va_W} {H : Heap} {Z : Nat → Prop} {g : Nat} (hg : g < 3) (hP : va_P D cl (X ++ pool GC) H) (hD : va_D Z (X ++ pool GC)) : va_P D cl ((X ++ GC g) ++ oth GC g) H ∧ va_D Z ((X ++ GC g) ++ oth GC g) := by
  rw [List.append_assoc]
  have e : g = 0 ∨ g = 1 ∨ g = 2 := by omega
  unfold pool at hP hD
  rcases e with rfl | rfl | rfl
  · exact ⟨hP, hD⟩
  · exact ⟨sw_P hP, sw_D hD⟩
  · have h1 : va_P D cl ((X ++ GC 0) ++ (GC 2 ++ (GC 1 ++ []))) H := sw_P (by rw [List.append_assoc]; exact hP)
    have h2 : va_D Z ((X ++ GC 0) ++ (GC 2 ++ (GC 1 ++ []))) := sw_D (by rw [List.append_assoc]; exact hD)
    rw [List.append_assoc] at h1 h2
    exact ⟨sw_P h1, sw_D h2⟩
theorem pl_in {D : va_G} {cl : List vw_C} {X C : va_W} {GC : Nat → va_W} {H : Heap} {Z : Nat → Prop} {g : Nat} (hg : g < 3) (hP : va_P D cl ((X ++ C) ++ oth GC g) H) (hD : va_D Z ((X ++ C) ++ oth GC g)) : va_P D cl (X ++ pool (up1 GC g C)) H ∧ va_D Z (X ++ pool (up1 GC g C)) := by
  rw [List.append_assoc] at hP hD
  have e : g = 0 ∨ g = 1 ∨ g = 2 := by omega
  unfold pool
  rcases e with rfl | rfl | rfl
  · exact ⟨hP, hD⟩
  · exact ⟨sw_P (A := C) (B := GC 0) (C := GC 2 ++ []) hP, sw_D (A := C) (B := GC 0) (C := GC 2 ++ []) hD⟩
  · have h1 : va_P D cl (X ++ (GC 0 ++ (C ++ (GC 1 ++ [])))) H := sw_P (A := C) (B := GC 0) (C := GC 1 ++ []) hP
    have h2 : va_D Z (X ++ (GC 0 ++ (C ++ (GC 1 ++ [])))) := sw_D (A := C) (B := GC 0) (C := GC 1 ++ []) hD
    have h3 : va_P D cl ((X ++ GC 0) ++ (GC 1 ++ (C ++ []))) H := sw_P (X := X ++ GC 0) (A := C) (B := GC 1) (C := []) (by rw [List.append_assoc]; exact h1)
    have h4 : va_D Z ((X ++ GC 0) ++ (GC 1 ++ (C ++ []))) := sw_D (X := X ++ GC 0) (A := C) (B := GC 1) (C := []) (by rw [List.append_assoc]; exact h2)
    rw [List.append_assoc] at h3 h4
    exact ⟨h3, h4⟩
end LWB
