/-! THE LAW: what stays outside the worlds -/
section LWA
theorem lw_nw : ∀ w ∈ nw_all, w ∈ lw_tbl := by decide +kernel
theorem lw_arr {args : Array Value} {s : State} {ty : FieldType} (h : (Cond.arrayClass ty).before args s = true) : ∃ (cA : ClassId), ArrOfT s cA ty ∧ s.vm.findClass ("[" ++ ty.toString) = some cA := by
  obtain ⟨cA, kA, comp, h1, h2, h3⟩ := Cond.arrayClass_spec h
  exact ⟨cA, fun n z => ⟨fun k h => (by cases h), kA, h2, comp, h3⟩, h1⟩
theorem lw_arO {args : Array Value} {s : State} {C : String} (h : (Cond.arrayOver (.object C)).before args s = true) : ∃ (cA : ClassId), ArrOfT s cA (.object C) ∧ va_RA s cA (.object C) := by
  obtain ⟨comp, cA, kA, h1, h2, h3, h4, h5⟩ := Cond.arrayOver_spec h
  exact ⟨cA, fun n z => ⟨fun k h => (by cases h), kA, h3, comp, h4⟩, kA, comp, h3, h4, h1, h5⟩
theorem lw_w1 : ∀ j, j < 28 → Cond.eq (.elem (.static "GuestTower$Line" "WANTS" "[I") (.int (Int32.ofNat j))) (.int (nf wnt j)) ∈ flatC (Jvm.Cond.and given_1 narrow_1) := by decide +kernel
theorem lw_rng {α : Type} {L : List α} {a n : Nat} {f : Nat → α} (h : (L.drop a).take n = (List.range n).map f) (j : Nat) (hj : j < n) : f j ∈ L := by
  have h1 : f j ∈ (L.drop a).take n := by rw [h]; exact List.mem_map.mpr ⟨j, List.mem_range.mpr hj, rfl⟩
  exact List.mem_of_mem_drop (List.mem_of_mem_take h1)
theorem lw_w2a : ((flatC (Jvm.Cond.and given_1 narrow_1)).drop 43).take 410 = (List.range 410).map fun j => Cond.eq (.elem (.static "GuestTower$Monitor" "WORDS" "[I") (.int (Int32.ofNat j))) (.int (nf mWf j)) := by decide +kernel
theorem lw_w3a : ((flatC (Jvm.Cond.and given_1 narrow_1)).drop 457).take 168 = (List.range 168).map fun j => Cond.eq (.elem (.field (.string "GuestTower$Line" 85) "java/lang/String" "value" "[B") (.int (Int32.ofNat j))) (.int ((sByt.getD 0 []).getD j 0)) := by decide +kernel
/-- THE ENVIRONMENT at the law's entry -/
theorem lw_env {p : Program} {s : State} {m : MethodId} {meth : Method} {c : Code} {b L : Nat} {xs : Nat → Int32} (C0 : lw_At p s m meth c b L xs) : ∃ (E : jz_E) (w8 w9 : Nat), jE E s ∧ jz_ok E (fun q => s.heap.size ≤ q) s s.heap ∧ ("java/lang/String", "COMPACT_STRINGS", "Z", Value.int 1) ∈ E.2.2.1 ∧ (R_LI, "WANTS", "[I", Value.ref w8) ∈ E.2.2.1 ∧ (R_MO, "WORDS", "[I", Value.ref w9) ∈ E.2.2.1 ∧ (w8, 28, nf wnt) ∈ E.2.2.2.1 ∧ (w9, 410, nf mWf) ∈ E.2.2.2.1 ∧ va_AO "GuestTower$Guest" s := by
  obtain ⟨hx, hb, hr, hml, hown, hts, hX, hbl, hlocks, hgv⟩ := C0
  have hG : ∀ w ∈ G, w.before #[Value.ref b] s = true := fun w h => hts w (List.mem_filter.mp h).1
  have hF := flat_of_before _ hgv
  have hA : ∀ a : Nat, a < s.heap.size → ¬ (fun q : Nat => s.heap.size ≤ q) a := fun a h q => by have : s.heap.size ≤ a := q; omega
  obtain ⟨c0, i0, k0⟩ := u_known (C := R_MA) (T := T_MA) (N := 13) (n := 13) hG i_MA (hG _ ginst_MA)
  obtain ⟨c1, i1, k1⟩ := u_known (C := R_CO) (T := T_CO) (N := 5) (n := 5) hG i_CO (hG _ ginst_CO)
  obtain ⟨c2, i2, k2⟩ := u_known (C := R_GU) (T := T_GU) (N := 5) (n := 5) hG i_GU (hG _ ginst_GU)
  obtain ⟨c3, i3, k3⟩ := u_known (C := R_LI) (T := T_LI) (N := 9) (n := 9) hG i_LI (hG _ ginst_LI)
  obtain ⟨c4, i4, k4⟩ := u_known (C := R_AS) (T := T_AS) (N := 12) (n := 12) hG i_AS (hG _ ginst_AS)
  obtain ⟨c5, i5, k5⟩ := u_known (C := R_GT) (T := T_GT) (N := 6) (n := 6) hG i_GT (hG _ ginst_GT)
  obtain ⟨c6, i6, k6⟩ := u_known (C := R_MD) (T := T_MD) (N := 39) (n := 39) hG i_MD (hG _ ginst_MD)
  obtain ⟨dC, dI, hKc⟩ : ∃ (dC : Nat → ClassId) (dI : Nat → Nat → Nat), ∀ (k : Nat) (q : vw_C), classes[k]? = some q → u_Kn s q.1 q.2.1 q.2.2 (dC k) (dI k) := by
    refine ⟨fun k => if k = 0 then c0 else if k = 1 then c1 else if k = 2 then c2 else if k = 3 then c3 else if k = 4 then c4 else if k = 5 then c5 else c6, fun k => if k = 0 then i0 else if k = 1 then i1 else if k = 2 then i2 else if k = 3 then i3 else if k = 4 then i4 else if k = 5 then i5 else i6, ?_⟩
    intro k q hq
    match k, hq with
    | 0, hq => cases hq; exact k0
    | 1, hq => cases hq; exact k1
    | 2, hq => cases hq; exact k2
    | 3, hq => cases hq; exact k3
    | 4, hq => cases hq; exact k4
    | 5, hq => cases hq; exact k5
    | 6, hq => cases hq; exact k6
    | k + 7, hq => simp [classes] at hq
  obtain ⟨a0, r0, n0⟩ := lw_arr (hG _ gac_69)
  obtain ⟨a1, r1, n1⟩ := lw_arr (hG _ gac_111)
  obtain ⟨a2, r2, n2⟩ := lw_arr (hG _ gac_330)
  obtain ⟨a3, r3, n3⟩ := lw_arr (hG _ gac_690)
  have hAO : (Cond.arrayOver (.object "GuestTower$Guest")).before #[Value.ref b] s = true := hts _ (by decide +kernel)
  obtain ⟨a4, r4, n4⟩ := lw_arO hAO
  obtain ⟨cT, hT⟩ : ∃ cT : Nat → ClassId, ∀ (k : Nat) (q : ClassId × FieldType), (jty cT)[k]? = some q → ArrOfT s q.1 q.2 ∧ va_RA s q.1 q.2 := by
    refine ⟨fun k => if k = 0 then a0 else if k = 1 then a1 else if k = 2 then a2 else if k = 3 then a3 else a4, ?_⟩
    intro k q hq
    match k, hq with
    | 0, hq => cases hq; exact ⟨r0, n0⟩
    | 1, hq => cases hq; exact ⟨r1, n1⟩
    | 2, hq => cases hq; exact ⟨r2, n2⟩
    | 3, hq => cases hq; exact ⟨r3, n3⟩
    | 4, hq => cases hq; exact ⟨r4, n4⟩
    | k + 5, hq => simp [jty] at hq
  obtain ⟨w8, e8, t8⟩ := va_Tof (tm := .static "GuestTower$Line" "WANTS" "[I") (ty := .int) (N := 28) (f := fun j => .int (nf wnt j)) (by decide) (hF _ (by decide +kernel)) (va_eqt (hF _ (by decide +kernel))) (fun j hj => va_eqt (hF _ (lw_w1 j hj))) hA
  obtain ⟨w9, e9, t9⟩ := va_Tof (tm := .static "GuestTower$Monitor" "WORDS" "[I") (ty := .int) (N := 410) (f := fun j => .int (nf mWf j)) (by decide) (hF _ (by decide +kernel)) (va_eqt (hF _ (by decide +kernel))) (fun j hj => va_eqt (hF _ (lw_rng (f := fun j => Cond.eq (.elem (.static "GuestTower$Monitor" "WORDS" "[I") (.int (Int32.ofNat j))) (.int (nf mWf j))) lw_w2a j hj))) hA
  obtain ⟨adK, adV, hvS, hvT⟩ := vk_Sof (N := 1) (tm := fun _ => .string "GuestTower$Line" 85) (len := [168]) (byt := sByt) (args := #[Value.ref b]) (s := s) (A := fun q => s.heap.size ≤ q) (fun i hi => by rw [show i = 0 by omega]; decide) (fun i hi => hF _ (by decide +kernel)) (fun i hi => hF _ (by decide +kernel)) (fun i hi => hF _ (by decide +kernel)) (fun i hi => by rw [show i = 0 by omega]; exact hF _ (by decide +kernel)) (fun i hi j hj => by
    have e : i = 0 := by omega
    subst e
    exact hF _ (lw_rng (f := fun j => Cond.eq (.elem (.field (.string "GuestTower$Line" 85) "java/lang/String" "value" "[B") (.int (Int32.ofNat j))) (.int ((sByt.getD 0 []).getD j 0))) lw_w3a j hj)) (fun i j hi hj hij => by omega) hA
  refine ⟨((dC, dI), cT, [("java/lang/String", "COMPACT_STRINGS", "Z", Value.int 1), (R_LI, "WANTS", "[I", Value.ref w8), (R_MO, "WORDS", "[I", Value.ref w9)], [(w8, 28, nf wnt), (w9, 410, nf mWf)], adK 0, adV 0), w8, w9, ⟨⟨hKc, hT⟩, fun w hw => va_Nw.of (isFN_on (nw_fn w hw)) (hts w (lw_nw w hw))⟩, ⟨?_, ?_, ?_, ?_, ?_⟩, by simp, by simp, by simp, by simp, by simp, va_AO.of hAO⟩
  · intro z hz
    rcases List.mem_cons.mp hz with rfl | hz
    · exact va_Zof (hts (.laysStatic "java/lang/String" "COMPACT_STRINGS" "Z") (by decide +kernel)) (hts (.initialized "java/lang/String") (by decide +kernel)) (va_eqi (hF _ (by decide +kernel))) hA
    rcases List.mem_cons.mp hz with rfl | hz
    · exact va_Zof (hts (.laysStatic "GuestTower$Line" "WANTS" "[I") (by decide +kernel)) (hts (.initialized "GuestTower$Line") (by decide +kernel)) e8 hA
    rcases List.mem_cons.mp hz with rfl | hz
    · exact va_Zof (hts (.laysStatic "GuestTower$Monitor" "WORDS" "[I") (by decide +kernel)) (hts (.initialized "GuestTower$Monitor") (by decide +kernel)) e9 hA
    · cases hz
  · intro z hz
    rcases List.mem_cons.mp hz with rfl | hz
    · exact t8
    rcases List.mem_cons.mp hz with rfl | hz
    · exact t9
    · cases hz
  · have h0 := hvS.1 0 (by omega)
    exact ⟨fun i hi => by rw [show i = 0 by omega]; exact h0, fun i j hi hj _ => by omega⟩
  · exact vk_R.of (A := #[Value.ref b]) (hts (.stringRef "GuestTower$Line" 85 sTxt) (by decide +kernel)) (hvT 0 (by omega))
  · exact va_Zqof (hts (.laysStatic "jdk/internal/util/Preconditions" "SIOOBE_FORMATTER" "Ljava/util/function/BiFunction;") (by decide +kernel)) (hts (.initialized "jdk/internal/util/Preconditions") (by decide +kernel)) (hF _ (by decide +kernel)) hA
end LWA
