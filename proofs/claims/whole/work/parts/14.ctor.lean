theorem df_MA : ∀ j, j < 13 → defaultValue (t_MA j) = vp_V [.null, .null, .null, .null, .int 0, .int 0, .int 0, .int 0, .int 0, .int 0, .int 0, .int 0, .int 0] j := by
  intro j hj
  match j, hj with
  | 0, _ => rfl
  | 1, _ => rfl
  | 2, _ => rfl
  | 3, _ => rfl
  | 4, _ => rfl
  | 5, _ => rfl
  | 6, _ => rfl
  | 7, _ => rfl
  | 8, _ => rfl
  | 9, _ => rfl
  | 10, _ => rfl
  | 11, _ => rfl
  | 12, _ => rfl
  | k + 13, h => exact absurd h (by omega)

theorem df_CO : ∀ j, j < 5 → defaultValue (t_CO j) = vp_V [.null, .null, .int 0, .int 0, .int 0] j := by
  intro j hj
  match j, hj with
  | 0, _ => rfl
  | 1, _ => rfl
  | 2, _ => rfl
  | 3, _ => rfl
  | 4, _ => rfl
  | k + 5, h => exact absurd h (by omega)

theorem df_GU : ∀ j, j < 5 → defaultValue (t_GU j) = vp_V [.null, .int 0, .int 0, .int 0, .int 0] j := by
  intro j hj
  match j, hj with
  | 0, _ => rfl
  | 1, _ => rfl
  | 2, _ => rfl
  | 3, _ => rfl
  | 4, _ => rfl
  | k + 5, h => exact absurd h (by omega)

theorem df_LI : ∀ j, j < 9 → defaultValue (t_LI j) = vp_V [.null, .int 0, .int 0, .long 0, .int 0, .int 0, .int 0, .int 0, .long 0] j := by
  intro j hj
  match j, hj with
  | 0, _ => rfl
  | 1, _ => rfl
  | 2, _ => rfl
  | 3, _ => rfl
  | 4, _ => rfl
  | 5, _ => rfl
  | 6, _ => rfl
  | 7, _ => rfl
  | 8, _ => rfl
  | k + 9, h => exact absurd h (by omega)

theorem df_AS : ∀ j, j < 12 → defaultValue (t_AS j) = vp_V [.null, .int 0, .int 0, .int 0, .null, .null, .null, .int 0, .null, .null, .null, .int 0] j := by
  intro j hj
  match j, hj with
  | 0, _ => rfl
  | 1, _ => rfl
  | 2, _ => rfl
  | 3, _ => rfl
  | 4, _ => rfl
  | 5, _ => rfl
  | 6, _ => rfl
  | 7, _ => rfl
  | 8, _ => rfl
  | 9, _ => rfl
  | 10, _ => rfl
  | 11, _ => rfl
  | k + 12, h => exact absurd h (by omega)

theorem hd_CO_init : y_CO_init.cls ≠ "java/lang/invoke/MethodHandle" ∧ y_CO_init.cls ≠ "java/lang/invoke/VarHandle" ∧ (parseMethodDescriptor y_CO_init.desc).map (fun d => d.parameters.length) = some 0 := by decide +kernel
set_option maxHeartbeats 4000000 in
set_option maxRecDepth 100000 in
theorem ct_CO_init (l : Launch) (E : jz_E) (t0 : Nat) (sz : Nat) : CTn l E y_CO_init c_CO_init 1 ({ frames := 1, cells := 2, slots := 600, locals := 12 }) [.ref t0] [(t0, .inr (1, [.null, .null, .int 0, .int 0, .int 0]))] sz (Nat × Nat) (fun u => match u with | (q1, q2) => [(t0, .inr (1, [.ref q1, .ref q2, .int 0, .int 0, .int 0])), (q1, .inl (E.2.1 0, 100, .inl (fun _ => 0))), (q2, .inl (E.2.1 0, 500, .inl (fun _ => 0)))]) 2 600 := by
  refine jwI (by decide +kernel) (Nat.le_of_ble_eq_true rfl) ?_
  intro p e s m below meth c A ls J hin hJ hAe hsz hA hZ hP hD hl
  rw [← hAe]
  have hS : va_S A s.heap s.heap [] := va_S.rf
  have hl : lv_has ls 1 [(0, .ref t0)] := hl
  refine lv_aload_n J.1 J.2.1 d_CO_init_0 rfl (lv_at hl 0 rfl) ?_
  refine jobj J gl_CO_3 hl.1 (Nat.le_of_ble_eq_true rfl) (Nat.le_of_ble_eq_true rfl) d_CO_init_1 ?_
  refine lv_aload_n J.1 J.2.1 d_CO_init_4 rfl (lv_at hl 0 rfl) ?_
  refine lv_bipush (v := 100) J.1 J.2.1 d_CO_init_5 (by decide) ?_
  refine jna (atype := .int) (ty := .int) 0 J hJ hA hP hD hS gac_69 rfl rfl (fun _ h1 h2 => Option.some.inj (Eq.trans (Eq.symm h1) h2)) (a0 := (100, .inl (fun _ => 0))) (fun _ => rfl) (by decide) rfl (by decide) (Nat.le_of_ble_eq_true rfl) (Nat.le_of_ble_eq_true rfl) d_CO_init_7 ?_
  clear hP hD hS
  intro q1 H hP hD hS
  have hP : va_P E.1 classes [(t0, .inr (1, [.null, .null, .int 0, .int 0, .int 0])), (q1, .inl (E.2.1 0, 100, .inl (fun _ => 0)))] H := hP
  have hD : va_D A [(t0, .inr (1, [.null, .null, .int 0, .int 0, .int 0])), (q1, .inl (E.2.1 0, 100, .inl (fun _ => 0)))] := hD
  refine jpF J hin hJ hP hD hS 0 rfl rfl i_CO t_CO t_CO_ok n_CO 0 (by decide) gf_CO_11 rfl rfl rfl rfl (Nat.le_of_ble_eq_true rfl) d_CO_init_9 (WS' := [(t0, .inr (1, [.ref q1, .null, .int 0, .int 0, .int 0])), (q1, .inl (E.2.1 0, 100, .inl (fun _ => 0)))]) rfl ?_
  clear hP hD hS
  intro H locs hP hD hS
  refine lv_aload_n J.1 J.2.1 d_CO_init_12 rfl (lv_at hl 0 rfl) ?_
  refine lv_sipush (v := 500) J.1 J.2.1 d_CO_init_13 (by decide) ?_
  refine jna (atype := .int) (ty := .int) 0 J hJ hA hP hD hS gac_69 rfl rfl (fun _ h1 h2 => Option.some.inj (Eq.trans (Eq.symm h1) h2)) (a0 := (500, .inl (fun _ => 0))) (fun _ => rfl) (by decide) rfl (by decide) (Nat.le_of_ble_eq_true rfl) (Nat.le_of_ble_eq_true rfl) d_CO_init_16 ?_
  clear hP hD hS
  intro q2 H hP hD hS
  have hP : va_P E.1 classes [(t0, .inr (1, [.ref q1, .null, .int 0, .int 0, .int 0])), (q1, .inl (E.2.1 0, 100, .inl (fun _ => 0))), (q2, .inl (E.2.1 0, 500, .inl (fun _ => 0)))] H := hP
  have hD : va_D A [(t0, .inr (1, [.ref q1, .null, .int 0, .int 0, .int 0])), (q1, .inl (E.2.1 0, 100, .inl (fun _ => 0))), (q2, .inl (E.2.1 0, 500, .inl (fun _ => 0)))] := hD
  refine jpF J hin hJ hP hD hS 0 rfl rfl i_CO t_CO t_CO_ok n_CO 1 (by decide) gf_CO_15 rfl rfl rfl rfl (Nat.le_of_ble_eq_true rfl) d_CO_init_18 (WS' := [(t0, .inr (1, [.ref q1, .ref q2, .int 0, .int 0, .int 0])), (q1, .inl (E.2.1 0, 100, .inl (fun _ => 0))), (q2, .inl (E.2.1 0, 500, .inl (fun _ => 0)))]) rfl ?_
  clear hP hD hS
  intro H locs hP hD hS
  exact jr_n (q1, q2) J hS hP hD d_CO_init_21

theorem hd_MA_init : y_MA_init.cls ≠ "java/lang/invoke/MethodHandle" ∧ y_MA_init.cls ≠ "java/lang/invoke/VarHandle" ∧ (parseMethodDescriptor y_MA_init.desc).map (fun d => d.parameters.length) = some 1 := by decide +kernel
set_option maxHeartbeats 4000000 in
set_option maxRecDepth 100000 in
theorem ct_MA_init (l : Launch) (E : jz_E) (t0 : Nat) (sz : Nat) : CTn l E y_MA_init c_MA_init 2 ({ frames := 2, cells := 6, slots := 2585, locals := 32 }) [.ref t0, .int 1844] [(t0, .inr (0, [.null, .null, .null, .null, .int 0, .int 0, .int 0, .int 0, .int 0, .int 0, .int 0, .int 0, .int 0]))] sz (Nat × Nat × Nat × Nat × Nat × Nat) (fun u => match u with | (q1, q2, q3, q4, q5, q6) => [(t0, .inr (0, [.ref q1, .ref q2, .ref q3, .ref q4, .int 1844, .int 0, .int 0, .int 0, .int 0, .int 0, .int 0, .int 0, .int 0])), (q1, .inl (E.2.1 0, 1844, .inl (fun _ => 0))), (q2, .inl (E.2.1 0, 8, .inl (fun _ => 0))), (q3, .inl (E.2.1 0, 128, .inl (fun _ => 0))), (q4, .inr (1, [.ref q5, .ref q6, .int 0, .int 0, .int 0])), (q5, .inl (E.2.1 0, 100, .inl (fun _ => 0))), (q6, .inl (E.2.1 0, 500, .inl (fun _ => 0)))]) 6 2585 := by
  refine jwI (by decide +kernel) (Nat.le_of_ble_eq_true rfl) ?_
  intro p e s m below meth c A ls J hin hJ hAe hsz hA hZ hP hD hl
  rw [← hAe]
  have hS : va_S A s.heap s.heap [] := va_S.rf
  have hl : lv_has ls 2 [(0, .ref t0), (1, .int 1844)] := hl
  refine lv_aload_n J.1 J.2.1 d_MA_init_0 rfl (lv_at hl 0 rfl) ?_
  refine jobj J gl_MA_3 hl.1 (Nat.le_of_ble_eq_true rfl) (Nat.le_of_ble_eq_true rfl) d_MA_init_1 ?_
  refine lv_aload_n J.1 J.2.1 d_MA_init_4 rfl (lv_at hl 0 rfl) ?_
  refine lv_iload_n J.1 J.2.1 d_MA_init_5 rfl (lv_at hl 1 rfl) ?_
  refine jna (atype := .int) (ty := .int) 0 J hJ hA hP hD hS gac_69 rfl rfl (fun _ h1 h2 => Option.some.inj (Eq.trans (Eq.symm h1) h2)) (a0 := (1844, .inl (fun _ => 0))) (fun _ => rfl) (by decide) rfl (by decide) (Nat.le_of_ble_eq_true rfl) (Nat.le_of_ble_eq_true rfl) d_MA_init_6 ?_
  clear hP hD hS
  intro q1 H hP hD hS
  have hP : va_P E.1 classes [(t0, .inr (0, [.null, .null, .null, .null, .int 0, .int 0, .int 0, .int 0, .int 0, .int 0, .int 0, .int 0, .int 0])), (q1, .inl (E.2.1 0, 1844, .inl (fun _ => 0)))] H := hP
  have hD : va_D A [(t0, .inr (0, [.null, .null, .null, .null, .int 0, .int 0, .int 0, .int 0, .int 0, .int 0, .int 0, .int 0, .int 0])), (q1, .inl (E.2.1 0, 1844, .inl (fun _ => 0)))] := hD
  refine jpF J hin hJ hP hD hS 0 rfl rfl i_MA t_MA t_MA_ok n_MA 0 (by decide) gf_MA_9 rfl rfl rfl rfl (Nat.le_of_ble_eq_true rfl) d_MA_init_8 (WS' := [(t0, .inr (0, [.ref q1, .null, .null, .null, .int 0, .int 0, .int 0, .int 0, .int 0, .int 0, .int 0, .int 0, .int 0])), (q1, .inl (E.2.1 0, 1844, .inl (fun _ => 0)))]) rfl ?_
  clear hP hD hS
  intro H locs hP hD hS
  refine lv_aload_n J.1 J.2.1 d_MA_init_11 rfl (lv_at hl 0 rfl) ?_
  refine lv_bipush (v := 8) J.1 J.2.1 d_MA_init_12 (by decide) ?_
  refine jna (atype := .int) (ty := .int) 0 J hJ hA hP hD hS gac_69 rfl rfl (fun _ h1 h2 => Option.some.inj (Eq.trans (Eq.symm h1) h2)) (a0 := (8, .inl (fun _ => 0))) (fun _ => rfl) (by decide) rfl (by decide) (Nat.le_of_ble_eq_true rfl) (Nat.le_of_ble_eq_true rfl) d_MA_init_14 ?_
  clear hP hD hS
  intro q2 H hP hD hS
  have hP : va_P E.1 classes [(t0, .inr (0, [.ref q1, .null, .null, .null, .int 0, .int 0, .int 0, .int 0, .int 0, .int 0, .int 0, .int 0, .int 0])), (q1, .inl (E.2.1 0, 1844, .inl (fun _ => 0))), (q2, .inl (E.2.1 0, 8, .inl (fun _ => 0)))] H := hP
  have hD : va_D A [(t0, .inr (0, [.ref q1, .null, .null, .null, .int 0, .int 0, .int 0, .int 0, .int 0, .int 0, .int 0, .int 0, .int 0])), (q1, .inl (E.2.1 0, 1844, .inl (fun _ => 0))), (q2, .inl (E.2.1 0, 8, .inl (fun _ => 0)))] := hD
  refine jpF J hin hJ hP hD hS 0 rfl rfl i_MA t_MA t_MA_ok n_MA 1 (by decide) gf_MA_15 rfl rfl rfl rfl (Nat.le_of_ble_eq_true rfl) d_MA_init_16 (WS' := [(t0, .inr (0, [.ref q1, .ref q2, .null, .null, .int 0, .int 0, .int 0, .int 0, .int 0, .int 0, .int 0, .int 0, .int 0])), (q1, .inl (E.2.1 0, 1844, .inl (fun _ => 0))), (q2, .inl (E.2.1 0, 8, .inl (fun _ => 0)))]) rfl ?_
  clear hP hD hS
  intro H locs hP hD hS
  refine lv_aload_n J.1 J.2.1 d_MA_init_19 rfl (lv_at hl 0 rfl) ?_
  refine lv_sipush (v := 128) J.1 J.2.1 d_MA_init_20 (by decide) ?_
  refine jna (atype := .int) (ty := .int) 0 J hJ hA hP hD hS gac_69 rfl rfl (fun _ h1 h2 => Option.some.inj (Eq.trans (Eq.symm h1) h2)) (a0 := (128, .inl (fun _ => 0))) (fun _ => rfl) (by decide) rfl (by decide) (Nat.le_of_ble_eq_true rfl) (Nat.le_of_ble_eq_true rfl) d_MA_init_23 ?_
  clear hP hD hS
  intro q3 H hP hD hS
  have hP : va_P E.1 classes [(t0, .inr (0, [.ref q1, .ref q2, .null, .null, .int 0, .int 0, .int 0, .int 0, .int 0, .int 0, .int 0, .int 0, .int 0])), (q1, .inl (E.2.1 0, 1844, .inl (fun _ => 0))), (q2, .inl (E.2.1 0, 8, .inl (fun _ => 0))), (q3, .inl (E.2.1 0, 128, .inl (fun _ => 0)))] H := hP
  have hD : va_D A [(t0, .inr (0, [.ref q1, .ref q2, .null, .null, .int 0, .int 0, .int 0, .int 0, .int 0, .int 0, .int 0, .int 0, .int 0])), (q1, .inl (E.2.1 0, 1844, .inl (fun _ => 0))), (q2, .inl (E.2.1 0, 8, .inl (fun _ => 0))), (q3, .inl (E.2.1 0, 128, .inl (fun _ => 0)))] := hD
  refine jpF J hin hJ hP hD hS 0 rfl rfl i_MA t_MA t_MA_ok n_MA 2 (by decide) gf_MA_18 rfl rfl rfl rfl (Nat.le_of_ble_eq_true rfl) d_MA_init_25 (WS' := [(t0, .inr (0, [.ref q1, .ref q2, .ref q3, .null, .int 0, .int 0, .int 0, .int 0, .int 0, .int 0, .int 0, .int 0, .int 0])), (q1, .inl (E.2.1 0, 1844, .inl (fun _ => 0))), (q2, .inl (E.2.1 0, 8, .inl (fun _ => 0))), (q3, .inl (E.2.1 0, 128, .inl (fun _ => 0)))]) rfl ?_
  clear hP hD hS
  intro H locs hP hD hS
  refine lv_aload_n J.1 J.2.1 d_MA_init_28 rfl (lv_at hl 0 rfl) ?_
  refine jnew J hJ hA hP hD hS (ci := 1) rfl i_CO t_CO t_CO_ok gcl_MA_21 ginst_CO gini_CO df_CO (Nat.le_of_ble_eq_true rfl) (Nat.le_of_ble_eq_true rfl) d_MA_init_29 ?_
  clear hP hD hS
  intro q4 H hP hD hS
  have hP : va_P E.1 classes [(t0, .inr (0, [.ref q1, .ref q2, .ref q3, .null, .int 0, .int 0, .int 0, .int 0, .int 0, .int 0, .int 0, .int 0, .int 0])), (q1, .inl (E.2.1 0, 1844, .inl (fun _ => 0))), (q2, .inl (E.2.1 0, 8, .inl (fun _ => 0))), (q3, .inl (E.2.1 0, 128, .inl (fun _ => 0))), (q4, .inr (1, [.null, .null, .int 0, .int 0, .int 0]))] H := hP
  have hD : va_D A [(t0, .inr (0, [.ref q1, .ref q2, .ref q3, .null, .int 0, .int 0, .int 0, .int 0, .int 0, .int 0, .int 0, .int 0, .int 0])), (q1, .inl (E.2.1 0, 1844, .inl (fun _ => 0))), (q2, .inl (E.2.1 0, 8, .inl (fun _ => 0))), (q3, .inl (E.2.1 0, 128, .inl (fun _ => 0))), (q4, .inr (1, [.null, .null, .int 0, .int 0, .int 0]))] := hD
  refine lv_dup J.1 J.2.1 d_MA_init_32 rfl ?_
  have hq := ct_CO_init l E q4 H.size
  have hr := jrunI (p := p) (e := e) (below := below) (R := ({ frames := 2, cells := 6, slots := 2585, locals := 32 })) (cells := 4) (slots := 1985) (As := []) (rest := [.ref q4, .ref t0]) J hJ hA hZ hP hD hS hq [4] rfl (by decide) gl_MA_23 gi_CO_init gini_CO gc_CO_init rfl hd_CO_init ⟨rfl, rfl, Nat.le_of_ble_eq_true rfl, Nat.le_of_ble_eq_true rfl⟩ hl.1 rfl rfl (Nat.le_of_ble_eq_true rfl) d_MA_init_33 ⟨Nat.le_of_ble_eq_true rfl, Nat.le_of_ble_eq_true rfl⟩
  clear hq
  refine jk_n (S := Nat × Nat) (WF := fun u => match u with | (q5, q6) => [(t0, .inr (0, [.ref q1, .ref q2, .ref q3, .null, .int 0, .int 0, .int 0, .int 0, .int 0, .int 0, .int 0, .int 0, .int 0])), (q1, .inl (E.2.1 0, 1844, .inl (fun _ => 0))), (q2, .inl (E.2.1 0, 8, .inl (fun _ => 0))), (q3, .inl (E.2.1 0, 128, .inl (fun _ => 0))), (q4, .inr (1, [.ref q5, .ref q6, .int 0, .int 0, .int 0])), (q5, .inl (E.2.1 0, 100, .inl (fun _ => 0))), (q6, .inl (E.2.1 0, 500, .inl (fun _ => 0)))]) hr hA hP hD hS [4] [0, 1, 2, 3] (WR := [(t0, .inr (0, [.ref q1, .ref q2, .ref q3, .null, .int 0, .int 0, .int 0, .int 0, .int 0, .int 0, .int 0, .int 0, .int 0])), (q1, .inl (E.2.1 0, 1844, .inl (fun _ => 0))), (q2, .inl (E.2.1 0, 8, .inl (fun _ => 0))), (q3, .inl (E.2.1 0, 128, .inl (fun _ => 0)))]) rfl rfl (by decide) (by decide) [0, 1, 2, 3, 4, 5, 6] (by intro u; obtain ⟨q5, q6⟩ := u; rfl) (by decide) ?_
  clear hP hD hS hr
  intro u H locs hP hD hS
  obtain ⟨q5, q6⟩ := u
  have hP : va_P E.1 classes [(t0, .inr (0, [.ref q1, .ref q2, .ref q3, .null, .int 0, .int 0, .int 0, .int 0, .int 0, .int 0, .int 0, .int 0, .int 0])), (q1, .inl (E.2.1 0, 1844, .inl (fun _ => 0))), (q2, .inl (E.2.1 0, 8, .inl (fun _ => 0))), (q3, .inl (E.2.1 0, 128, .inl (fun _ => 0))), (q4, .inr (1, [.ref q5, .ref q6, .int 0, .int 0, .int 0])), (q5, .inl (E.2.1 0, 100, .inl (fun _ => 0))), (q6, .inl (E.2.1 0, 500, .inl (fun _ => 0)))] H := hP
  have hD : va_D A [(t0, .inr (0, [.ref q1, .ref q2, .ref q3, .null, .int 0, .int 0, .int 0, .int 0, .int 0, .int 0, .int 0, .int 0, .int 0])), (q1, .inl (E.2.1 0, 1844, .inl (fun _ => 0))), (q2, .inl (E.2.1 0, 8, .inl (fun _ => 0))), (q3, .inl (E.2.1 0, 128, .inl (fun _ => 0))), (q4, .inr (1, [.ref q5, .ref q6, .int 0, .int 0, .int 0])), (q5, .inl (E.2.1 0, 100, .inl (fun _ => 0))), (q6, .inl (E.2.1 0, 500, .inl (fun _ => 0)))] := hD
  refine jpF J hin hJ hP hD hS 0 rfl rfl i_MA t_MA t_MA_ok n_MA 3 (by decide) gf_MA_24 rfl rfl rfl rfl (Nat.le_of_ble_eq_true rfl) d_MA_init_36 (WS' := [(t0, .inr (0, [.ref q1, .ref q2, .ref q3, .ref q4, .int 0, .int 0, .int 0, .int 0, .int 0, .int 0, .int 0, .int 0, .int 0])), (q1, .inl (E.2.1 0, 1844, .inl (fun _ => 0))), (q2, .inl (E.2.1 0, 8, .inl (fun _ => 0))), (q3, .inl (E.2.1 0, 128, .inl (fun _ => 0))), (q4, .inr (1, [.ref q5, .ref q6, .int 0, .int 0, .int 0])), (q5, .inl (E.2.1 0, 100, .inl (fun _ => 0))), (q6, .inl (E.2.1 0, 500, .inl (fun _ => 0)))]) rfl ?_
  clear hP hD hS
  intro H locs hP hD hS
  refine lv_aload_n J.1 J.2.1 d_MA_init_39 rfl (lv_at hl 0 rfl) ?_
  refine lv_iload_n J.1 J.2.1 d_MA_init_40 rfl (lv_at hl 1 rfl) ?_
  refine jp J hJ hP hD hS 0 rfl rfl i_MA t_MA t_MA_ok n_MA 4 (by decide) gf_MA_28 rfl rfl rfl (Nat.le_of_ble_eq_true rfl) d_MA_init_41 (WS' := [(t0, .inr (0, [.ref q1, .ref q2, .ref q3, .ref q4, .int 1844, .int 0, .int 0, .int 0, .int 0, .int 0, .int 0, .int 0, .int 0])), (q1, .inl (E.2.1 0, 1844, .inl (fun _ => 0))), (q2, .inl (E.2.1 0, 8, .inl (fun _ => 0))), (q3, .inl (E.2.1 0, 128, .inl (fun _ => 0))), (q4, .inr (1, [.ref q5, .ref q6, .int 0, .int 0, .int 0])), (q5, .inl (E.2.1 0, 100, .inl (fun _ => 0))), (q6, .inl (E.2.1 0, 500, .inl (fun _ => 0)))]) rfl ?_
  clear hP hD hS
  intro H locs hP hD hS
  exact jr_n (q1, q2, q3, q4, q5, q6) J hS hP hD d_MA_init_44

theorem hd_GU_init : y_GU_init.cls ≠ "java/lang/invoke/MethodHandle" ∧ y_GU_init.cls ≠ "java/lang/invoke/VarHandle" ∧ (parseMethodDescriptor y_GU_init.desc).map (fun d => d.parameters.length) = some 0 := by decide +kernel
set_option maxHeartbeats 4000000 in
set_option maxRecDepth 100000 in
theorem ct_GU_init (l : Launch) (E : jz_E) (t0 : Nat) (sz : Nat) : CTn l E y_GU_init c_GU_init 1 ({ frames := 3, cells := 7, slots := 2598, locals := 53 }) [.ref t0] [(t0, .inr (2, [.null, .int 0, .int 0, .int 0, .int 0]))] sz (Nat × Nat × Nat × Nat × Nat × Nat × Nat) (fun u => match u with | (q1, q2, q3, q4, q5, q6, q7) => [(t0, .inr (2, [.ref q1, .int 0, .int 0, .int 0, .int 0])), (q1, .inr (0, [.ref q2, .ref q3, .ref q4, .ref q5, .int 1844, .int 0, .int 0, .int 0, .int 0, .int 0, .int 0, .int 0, .int 0])), (q2, .inl (E.2.1 0, 1844, .inl (fun _ => 0))), (q3, .inl (E.2.1 0, 8, .inl (fun _ => 0))), (q4, .inl (E.2.1 0, 128, .inl (fun _ => 0))), (q5, .inr (1, [.ref q6, .ref q7, .int 0, .int 0, .int 0])), (q6, .inl (E.2.1 0, 100, .inl (fun _ => 0))), (q7, .inl (E.2.1 0, 500, .inl (fun _ => 0)))]) 7 2598 := by
  refine jwI (by decide +kernel) (Nat.le_of_ble_eq_true rfl) ?_
  intro p e s m below meth c A ls J hin hJ hAe hsz hA hZ hP hD hl
  rw [← hAe]
  have hS : va_S A s.heap s.heap [] := va_S.rf
  have hl : lv_has ls 1 [(0, .ref t0)] := hl
  refine lv_aload_n J.1 J.2.1 d_GU_init_0 rfl (lv_at hl 0 rfl) ?_
  refine jobj J gl_GU_3 hl.1 (Nat.le_of_ble_eq_true rfl) (Nat.le_of_ble_eq_true rfl) d_GU_init_1 ?_
  refine lv_aload_n J.1 J.2.1 d_GU_init_4 rfl (lv_at hl 0 rfl) ?_
  refine jnew J hJ hA hP hD hS (ci := 0) rfl i_MA t_MA t_MA_ok gcl_GU_9 ginst_MA gini_MA df_MA (Nat.le_of_ble_eq_true rfl) (Nat.le_of_ble_eq_true rfl) d_GU_init_5 ?_
  clear hP hD hS
  intro q1 H hP hD hS
  have hP : va_P E.1 classes [(t0, .inr (2, [.null, .int 0, .int 0, .int 0, .int 0])), (q1, .inr (0, [.null, .null, .null, .null, .int 0, .int 0, .int 0, .int 0, .int 0, .int 0, .int 0, .int 0, .int 0]))] H := hP
  have hD : va_D A [(t0, .inr (2, [.null, .int 0, .int 0, .int 0, .int 0])), (q1, .inr (0, [.null, .null, .null, .null, .int 0, .int 0, .int 0, .int 0, .int 0, .int 0, .int 0, .int 0, .int 0]))] := hD
  refine lv_dup J.1 J.2.1 d_GU_init_8 rfl ?_
  refine lv_sipush (v := 1844) J.1 J.2.1 d_GU_init_9 (by decide) ?_
  have hq := ct_MA_init l E q1 H.size
  have hr := jrunI (p := p) (e := e) (below := below) (R := ({ frames := 3, cells := 7, slots := 2598, locals := 53 })) (cells := 1) (slots := 13) (As := [.int 1844]) (rest := [.ref q1, .ref t0]) J hJ hA hZ hP hD hS hq [1] rfl (by decide) gl_GU_13 gi_MA_init gini_MA gc_MA_init rfl hd_MA_init ⟨rfl, rfl, Nat.le_of_ble_eq_true rfl, Nat.le_of_ble_eq_true rfl⟩ hl.1 rfl rfl (Nat.le_of_ble_eq_true rfl) d_GU_init_12 ⟨Nat.le_of_ble_eq_true rfl, Nat.le_of_ble_eq_true rfl⟩
  clear hq
  refine jk_n (S := Nat × Nat × Nat × Nat × Nat × Nat) (WF := fun u => match u with | (q2, q3, q4, q5, q6, q7) => [(t0, .inr (2, [.null, .int 0, .int 0, .int 0, .int 0])), (q1, .inr (0, [.ref q2, .ref q3, .ref q4, .ref q5, .int 1844, .int 0, .int 0, .int 0, .int 0, .int 0, .int 0, .int 0, .int 0])), (q2, .inl (E.2.1 0, 1844, .inl (fun _ => 0))), (q3, .inl (E.2.1 0, 8, .inl (fun _ => 0))), (q4, .inl (E.2.1 0, 128, .inl (fun _ => 0))), (q5, .inr (1, [.ref q6, .ref q7, .int 0, .int 0, .int 0])), (q6, .inl (E.2.1 0, 100, .inl (fun _ => 0))), (q7, .inl (E.2.1 0, 500, .inl (fun _ => 0)))]) hr hA hP hD hS [1] [0] (WR := [(t0, .inr (2, [.null, .int 0, .int 0, .int 0, .int 0]))]) rfl rfl (by decide) (by decide) [0, 1, 2, 3, 4, 5, 6, 7] (by intro u; obtain ⟨q2, q3, q4, q5, q6, q7⟩ := u; rfl) (by decide) ?_
  clear hP hD hS hr
  intro u H locs hP hD hS
  obtain ⟨q2, q3, q4, q5, q6, q7⟩ := u
  have hP : va_P E.1 classes [(t0, .inr (2, [.null, .int 0, .int 0, .int 0, .int 0])), (q1, .inr (0, [.ref q2, .ref q3, .ref q4, .ref q5, .int 1844, .int 0, .int 0, .int 0, .int 0, .int 0, .int 0, .int 0, .int 0])), (q2, .inl (E.2.1 0, 1844, .inl (fun _ => 0))), (q3, .inl (E.2.1 0, 8, .inl (fun _ => 0))), (q4, .inl (E.2.1 0, 128, .inl (fun _ => 0))), (q5, .inr (1, [.ref q6, .ref q7, .int 0, .int 0, .int 0])), (q6, .inl (E.2.1 0, 100, .inl (fun _ => 0))), (q7, .inl (E.2.1 0, 500, .inl (fun _ => 0)))] H := hP
  have hD : va_D A [(t0, .inr (2, [.null, .int 0, .int 0, .int 0, .int 0])), (q1, .inr (0, [.ref q2, .ref q3, .ref q4, .ref q5, .int 1844, .int 0, .int 0, .int 0, .int 0, .int 0, .int 0, .int 0, .int 0])), (q2, .inl (E.2.1 0, 1844, .inl (fun _ => 0))), (q3, .inl (E.2.1 0, 8, .inl (fun _ => 0))), (q4, .inl (E.2.1 0, 128, .inl (fun _ => 0))), (q5, .inr (1, [.ref q6, .ref q7, .int 0, .int 0, .int 0])), (q6, .inl (E.2.1 0, 100, .inl (fun _ => 0))), (q7, .inl (E.2.1 0, 500, .inl (fun _ => 0)))] := hD
  refine jpF J hin hJ hP hD hS 0 rfl rfl i_GU t_GU t_GU_ok n_GU 0 (by decide) gf_GU_16 rfl rfl rfl rfl (Nat.le_of_ble_eq_true rfl) d_GU_init_15 (WS' := [(t0, .inr (2, [.ref q1, .int 0, .int 0, .int 0, .int 0])), (q1, .inr (0, [.ref q2, .ref q3, .ref q4, .ref q5, .int 1844, .int 0, .int 0, .int 0, .int 0, .int 0, .int 0, .int 0, .int 0])), (q2, .inl (E.2.1 0, 1844, .inl (fun _ => 0))), (q3, .inl (E.2.1 0, 8, .inl (fun _ => 0))), (q4, .inl (E.2.1 0, 128, .inl (fun _ => 0))), (q5, .inr (1, [.ref q6, .ref q7, .int 0, .int 0, .int 0])), (q6, .inl (E.2.1 0, 100, .inl (fun _ => 0))), (q7, .inl (E.2.1 0, 500, .inl (fun _ => 0)))]) rfl ?_
  clear hP hD hS
  intro H locs hP hD hS
  refine lv_aload_n J.1 J.2.1 d_GU_init_18 rfl (lv_at hl 0 rfl) ?_
  refine lv_iconst (v := 0) J.1 J.2.1 d_GU_init_19 (by decide) ?_
  refine jp J hJ hP hD hS 0 rfl rfl i_GU t_GU t_GU_ok n_GU 1 (by decide) gf_GU_22 rfl rfl rfl (Nat.le_of_ble_eq_true rfl) d_GU_init_20 (WS' := [(t0, .inr (2, [.ref q1, .int 0, .int 0, .int 0, .int 0])), (q1, .inr (0, [.ref q2, .ref q3, .ref q4, .ref q5, .int 1844, .int 0, .int 0, .int 0, .int 0, .int 0, .int 0, .int 0, .int 0])), (q2, .inl (E.2.1 0, 1844, .inl (fun _ => 0))), (q3, .inl (E.2.1 0, 8, .inl (fun _ => 0))), (q4, .inl (E.2.1 0, 128, .inl (fun _ => 0))), (q5, .inr (1, [.ref q6, .ref q7, .int 0, .int 0, .int 0])), (q6, .inl (E.2.1 0, 100, .inl (fun _ => 0))), (q7, .inl (E.2.1 0, 500, .inl (fun _ => 0)))]) rfl ?_
  clear hP hD hS
  intro H locs hP hD hS
  refine lv_aload_n J.1 J.2.1 d_GU_init_23 rfl (lv_at hl 0 rfl) ?_
  refine lv_iconst (v := 0) J.1 J.2.1 d_GU_init_24 (by decide) ?_
  refine jp J hJ hP hD hS 0 rfl rfl i_GU t_GU t_GU_ok n_GU 2 (by decide) gf_GU_26 rfl rfl rfl (Nat.le_of_ble_eq_true rfl) d_GU_init_25 (WS' := [(t0, .inr (2, [.ref q1, .int 0, .int 0, .int 0, .int 0])), (q1, .inr (0, [.ref q2, .ref q3, .ref q4, .ref q5, .int 1844, .int 0, .int 0, .int 0, .int 0, .int 0, .int 0, .int 0, .int 0])), (q2, .inl (E.2.1 0, 1844, .inl (fun _ => 0))), (q3, .inl (E.2.1 0, 8, .inl (fun _ => 0))), (q4, .inl (E.2.1 0, 128, .inl (fun _ => 0))), (q5, .inr (1, [.ref q6, .ref q7, .int 0, .int 0, .int 0])), (q6, .inl (E.2.1 0, 100, .inl (fun _ => 0))), (q7, .inl (E.2.1 0, 500, .inl (fun _ => 0)))]) rfl ?_
  clear hP hD hS
  intro H locs hP hD hS
  refine lv_aload_n J.1 J.2.1 d_GU_init_28 rfl (lv_at hl 0 rfl) ?_
  refine lv_iconst (v := 0) J.1 J.2.1 d_GU_init_29 (by decide) ?_
  refine jp J hJ hP hD hS 0 rfl rfl i_GU t_GU t_GU_ok n_GU 3 (by decide) gf_GU_29 rfl rfl rfl (Nat.le_of_ble_eq_true rfl) d_GU_init_30 (WS' := [(t0, .inr (2, [.ref q1, .int 0, .int 0, .int 0, .int 0])), (q1, .inr (0, [.ref q2, .ref q3, .ref q4, .ref q5, .int 1844, .int 0, .int 0, .int 0, .int 0, .int 0, .int 0, .int 0, .int 0])), (q2, .inl (E.2.1 0, 1844, .inl (fun _ => 0))), (q3, .inl (E.2.1 0, 8, .inl (fun _ => 0))), (q4, .inl (E.2.1 0, 128, .inl (fun _ => 0))), (q5, .inr (1, [.ref q6, .ref q7, .int 0, .int 0, .int 0])), (q6, .inl (E.2.1 0, 100, .inl (fun _ => 0))), (q7, .inl (E.2.1 0, 500, .inl (fun _ => 0)))]) rfl ?_
  clear hP hD hS
  intro H locs hP hD hS
  refine lv_aload_n J.1 J.2.1 d_GU_init_33 rfl (lv_at hl 0 rfl) ?_
  refine lv_iconst (v := 0) J.1 J.2.1 d_GU_init_34 (by decide) ?_
  refine jp J hJ hP hD hS 0 rfl rfl i_GU t_GU t_GU_ok n_GU 4 (by decide) gf_GU_32 rfl rfl rfl (Nat.le_of_ble_eq_true rfl) d_GU_init_35 (WS' := [(t0, .inr (2, [.ref q1, .int 0, .int 0, .int 0, .int 0])), (q1, .inr (0, [.ref q2, .ref q3, .ref q4, .ref q5, .int 1844, .int 0, .int 0, .int 0, .int 0, .int 0, .int 0, .int 0, .int 0])), (q2, .inl (E.2.1 0, 1844, .inl (fun _ => 0))), (q3, .inl (E.2.1 0, 8, .inl (fun _ => 0))), (q4, .inl (E.2.1 0, 128, .inl (fun _ => 0))), (q5, .inr (1, [.ref q6, .ref q7, .int 0, .int 0, .int 0])), (q6, .inl (E.2.1 0, 100, .inl (fun _ => 0))), (q7, .inl (E.2.1 0, 500, .inl (fun _ => 0)))]) rfl ?_
  clear hP hD hS
  intro H locs hP hD hS
  exact jr_n (q1, q2, q3, q4, q5, q6, q7) J hS hP hD d_GU_init_38

theorem hd_LI_init : y_LI_init.cls ≠ "java/lang/invoke/MethodHandle" ∧ y_LI_init.cls ≠ "java/lang/invoke/VarHandle" ∧ (parseMethodDescriptor y_LI_init.desc).map (fun d => d.parameters.length) = some 0 := by decide +kernel
set_option maxHeartbeats 4000000 in
set_option maxRecDepth 100000 in
theorem ct_LI_init (l : Launch) (E : jz_E) (t0 : Nat) (sz : Nat) : CTn l E y_LI_init c_LI_init 1 ({ frames := 1, cells := 1, slots := 0, locals := 12 }) [.ref t0] [(t0, .inr (3, [.null, .int 0, .int 0, .long 0, .int 0, .int 0, .int 0, .int 0, .long 0]))] sz (Nat) (fun u => match u with | q1 => [(t0, .inr (3, [.ref q1, .int 0, .int 0, .long 0, .int 0, .int 0, .int 0, .int 0, .long 0])), (q1, .inl (E.2.1 0, 0, .inl (fun _ => 0)))]) 1 0 := by
  refine jwI (by decide +kernel) (Nat.le_of_ble_eq_true rfl) ?_
  intro p e s m below meth c A ls J hin hJ hAe hsz hA hZ hP hD hl
  rw [← hAe]
  have hS : va_S A s.heap s.heap [] := va_S.rf
  have hl : lv_has ls 1 [(0, .ref t0)] := hl
  refine lv_aload_n J.1 J.2.1 d_LI_init_0 rfl (lv_at hl 0 rfl) ?_
  refine jobj J gl_LI_3 hl.1 (Nat.le_of_ble_eq_true rfl) (Nat.le_of_ble_eq_true rfl) d_LI_init_1 ?_
  refine lv_aload_n J.1 J.2.1 d_LI_init_4 rfl (lv_at hl 0 rfl) ?_
  refine lv_iconst (v := 0) J.1 J.2.1 d_LI_init_5 (by decide) ?_
  refine jna (atype := .int) (ty := .int) 0 J hJ hA hP hD hS gac_69 rfl rfl (fun _ h1 h2 => Option.some.inj (Eq.trans (Eq.symm h1) h2)) (a0 := (0, .inl (fun _ => 0))) (fun _ => rfl) (by decide) rfl (by decide) (Nat.le_of_ble_eq_true rfl) (Nat.le_of_ble_eq_true rfl) d_LI_init_6 ?_
  clear hP hD hS
  intro q1 H hP hD hS
  have hP : va_P E.1 classes [(t0, .inr (3, [.null, .int 0, .int 0, .long 0, .int 0, .int 0, .int 0, .int 0, .long 0])), (q1, .inl (E.2.1 0, 0, .inl (fun _ => 0)))] H := hP
  have hD : va_D A [(t0, .inr (3, [.null, .int 0, .int 0, .long 0, .int 0, .int 0, .int 0, .int 0, .long 0])), (q1, .inl (E.2.1 0, 0, .inl (fun _ => 0)))] := hD
  refine jp J hJ hP hD hS 0 rfl rfl i_LI t_LI t_LI_ok n_LI 0 (by decide) gf_LI_9 rfl rfl rfl (Nat.le_of_ble_eq_true rfl) d_LI_init_8 (WS' := [(t0, .inr (3, [.ref q1, .int 0, .int 0, .long 0, .int 0, .int 0, .int 0, .int 0, .long 0])), (q1, .inl (E.2.1 0, 0, .inl (fun _ => 0)))]) rfl ?_
  clear hP hD hS
  intro H locs hP hD hS
  exact jr_n q1 J hS hP hD d_LI_init_11

theorem hd_AS_init : y_AS_init.cls ≠ "java/lang/invoke/MethodHandle" ∧ y_AS_init.cls ≠ "java/lang/invoke/VarHandle" ∧ (parseMethodDescriptor y_AS_init.desc).map (fun d => d.parameters.length) = some 0 := by decide +kernel
set_option maxHeartbeats 4000000 in
set_option maxRecDepth 100000 in
theorem ct_AS_init (l : Launch) (E : jz_E) (t0 : Nat) (sz : Nat) : CTn l E y_AS_init c_AS_init 1 ({ frames := 2, cells := 8, slots := 4305, locals := 32 }) [.ref t0] [(t0, .inr (4, [.null, .int 0, .int 0, .int 0, .null, .null, .null, .int 0, .null, .null, .null, .int 0]))] sz (Nat × Nat × Nat × Nat × Nat × Nat × Nat × Nat) (fun u => match u with | (q1, q2, q3, q4, q5, q6, q7, q8) => [(t0, .inr (4, [.ref q1, .int 0, .int 0, .int 0, .ref q2, .ref q4, .ref q5, .int 0, .ref q6, .ref q7, .ref q8, .int 0])), (q1, .inl (E.2.1 0, 1024, .inl (fun _ => 0))), (q2, .inr (3, [.ref q3, .int 0, .int 0, .long 0, .int 0, .int 0, .int 0, .int 0, .long 0])), (q3, .inl (E.2.1 0, 0, .inl (fun _ => 0))), (q4, .inl (E.2.1 1, 100, .inr (.inl (fun _ => 0)))), (q5, .inl (E.2.1 0, 100, .inl (fun _ => 0))), (q6, .inl (E.2.1 1, 1024, .inr (.inl (fun _ => 0)))), (q7, .inl (E.2.1 0, 1024, .inl (fun _ => 0))), (q8, .inl (E.2.1 0, 1024, .inl (fun _ => 0)))]) 8 4305 := by
  refine jwI (by decide +kernel) (Nat.le_of_ble_eq_true rfl) ?_
  intro p e s m below meth c A ls J hin hJ hAe hsz hA hZ hP hD hl
  rw [← hAe]
  have hS : va_S A s.heap s.heap [] := va_S.rf
  have hl : lv_has ls 1 [(0, .ref t0)] := hl
  refine lv_aload_n J.1 J.2.1 d_AS_init_0 rfl (lv_at hl 0 rfl) ?_
  refine jobj J gl_AS_3 hl.1 (Nat.le_of_ble_eq_true rfl) (Nat.le_of_ble_eq_true rfl) d_AS_init_1 ?_
  refine lv_aload_n J.1 J.2.1 d_AS_init_4 rfl (lv_at hl 0 rfl) ?_
  refine lv_sipush (v := 1024) J.1 J.2.1 d_AS_init_5 (by decide) ?_
  refine jna (atype := .int) (ty := .int) 0 J hJ hA hP hD hS gac_69 rfl rfl (fun _ h1 h2 => Option.some.inj (Eq.trans (Eq.symm h1) h2)) (a0 := (1024, .inl (fun _ => 0))) (fun _ => rfl) (by decide) rfl (by decide) (Nat.le_of_ble_eq_true rfl) (Nat.le_of_ble_eq_true rfl) d_AS_init_8 ?_
  clear hP hD hS
  intro q1 H hP hD hS
  have hP : va_P E.1 classes [(t0, .inr (4, [.null, .int 0, .int 0, .int 0, .null, .null, .null, .int 0, .null, .null, .null, .int 0])), (q1, .inl (E.2.1 0, 1024, .inl (fun _ => 0)))] H := hP
  have hD : va_D A [(t0, .inr (4, [.null, .int 0, .int 0, .int 0, .null, .null, .null, .int 0, .null, .null, .null, .int 0])), (q1, .inl (E.2.1 0, 1024, .inl (fun _ => 0)))] := hD
  refine jpF J hin hJ hP hD hS 0 rfl rfl i_AS t_AS t_AS_ok n_AS 0 (by decide) gf_AS_9 rfl rfl rfl rfl (Nat.le_of_ble_eq_true rfl) d_AS_init_10 (WS' := [(t0, .inr (4, [.ref q1, .int 0, .int 0, .int 0, .null, .null, .null, .int 0, .null, .null, .null, .int 0])), (q1, .inl (E.2.1 0, 1024, .inl (fun _ => 0)))]) rfl ?_
  clear hP hD hS
  intro H locs hP hD hS
  refine lv_aload_n J.1 J.2.1 d_AS_init_13 rfl (lv_at hl 0 rfl) ?_
  refine jnew J hJ hA hP hD hS (ci := 3) rfl i_LI t_LI t_LI_ok gcl_AS_15 ginst_LI gini_LI df_LI (Nat.le_of_ble_eq_true rfl) (Nat.le_of_ble_eq_true rfl) d_AS_init_14 ?_
  clear hP hD hS
  intro q2 H hP hD hS
  have hP : va_P E.1 classes [(t0, .inr (4, [.ref q1, .int 0, .int 0, .int 0, .null, .null, .null, .int 0, .null, .null, .null, .int 0])), (q1, .inl (E.2.1 0, 1024, .inl (fun _ => 0))), (q2, .inr (3, [.null, .int 0, .int 0, .long 0, .int 0, .int 0, .int 0, .int 0, .long 0]))] H := hP
  have hD : va_D A [(t0, .inr (4, [.ref q1, .int 0, .int 0, .int 0, .null, .null, .null, .int 0, .null, .null, .null, .int 0])), (q1, .inl (E.2.1 0, 1024, .inl (fun _ => 0))), (q2, .inr (3, [.null, .int 0, .int 0, .long 0, .int 0, .int 0, .int 0, .int 0, .long 0]))] := hD
  refine lv_dup J.1 J.2.1 d_AS_init_17 rfl ?_
  have hq := ct_LI_init l E q2 H.size
  have hr := jrunI (p := p) (e := e) (below := below) (R := ({ frames := 2, cells := 8, slots := 4305, locals := 32 })) (cells := 2) (slots := 1033) (As := []) (rest := [.ref q2, .ref t0]) J hJ hA hZ hP hD hS hq [2] rfl (by decide) gl_AS_17 gi_LI_init gini_LI gc_LI_init rfl hd_LI_init ⟨rfl, rfl, Nat.le_of_ble_eq_true rfl, Nat.le_of_ble_eq_true rfl⟩ hl.1 rfl rfl (Nat.le_of_ble_eq_true rfl) d_AS_init_18 ⟨Nat.le_of_ble_eq_true rfl, Nat.le_of_ble_eq_true rfl⟩
  clear hq
  refine jk_n (S := Nat) (WF := fun u => match u with | q3 => [(t0, .inr (4, [.ref q1, .int 0, .int 0, .int 0, .null, .null, .null, .int 0, .null, .null, .null, .int 0])), (q1, .inl (E.2.1 0, 1024, .inl (fun _ => 0))), (q2, .inr (3, [.ref q3, .int 0, .int 0, .long 0, .int 0, .int 0, .int 0, .int 0, .long 0])), (q3, .inl (E.2.1 0, 0, .inl (fun _ => 0)))]) hr hA hP hD hS [2] [0, 1] (WR := [(t0, .inr (4, [.ref q1, .int 0, .int 0, .int 0, .null, .null, .null, .int 0, .null, .null, .null, .int 0])), (q1, .inl (E.2.1 0, 1024, .inl (fun _ => 0)))]) rfl rfl (by decide) (by decide) [0, 1, 2, 3] (by intro u; rfl) (by decide) ?_
  clear hP hD hS hr
  intro q3 H locs hP hD hS
  have hP : va_P E.1 classes [(t0, .inr (4, [.ref q1, .int 0, .int 0, .int 0, .null, .null, .null, .int 0, .null, .null, .null, .int 0])), (q1, .inl (E.2.1 0, 1024, .inl (fun _ => 0))), (q2, .inr (3, [.ref q3, .int 0, .int 0, .long 0, .int 0, .int 0, .int 0, .int 0, .long 0])), (q3, .inl (E.2.1 0, 0, .inl (fun _ => 0)))] H := hP
  have hD : va_D A [(t0, .inr (4, [.ref q1, .int 0, .int 0, .int 0, .null, .null, .null, .int 0, .null, .null, .null, .int 0])), (q1, .inl (E.2.1 0, 1024, .inl (fun _ => 0))), (q2, .inr (3, [.ref q3, .int 0, .int 0, .long 0, .int 0, .int 0, .int 0, .int 0, .long 0])), (q3, .inl (E.2.1 0, 0, .inl (fun _ => 0)))] := hD
  refine jpF J hin hJ hP hD hS 0 rfl rfl i_AS t_AS t_AS_ok n_AS 4 (by decide) gf_AS_18 rfl rfl rfl rfl (Nat.le_of_ble_eq_true rfl) d_AS_init_21 (WS' := [(t0, .inr (4, [.ref q1, .int 0, .int 0, .int 0, .ref q2, .null, .null, .int 0, .null, .null, .null, .int 0])), (q1, .inl (E.2.1 0, 1024, .inl (fun _ => 0))), (q2, .inr (3, [.ref q3, .int 0, .int 0, .long 0, .int 0, .int 0, .int 0, .int 0, .long 0])), (q3, .inl (E.2.1 0, 0, .inl (fun _ => 0)))]) rfl ?_
  clear hP hD hS
  intro H locs hP hD hS
  refine lv_aload_n J.1 J.2.1 d_AS_init_24 rfl (lv_at hl 0 rfl) ?_
  refine lv_bipush (v := 100) J.1 J.2.1 d_AS_init_25 (by decide) ?_
  refine jna (atype := .long) (ty := .long) 1 J hJ hA hP hD hS gac_111 rfl rfl (fun _ h1 h2 => Option.some.inj (Eq.trans (Eq.symm h1) h2)) (a0 := (100, .inr (.inl (fun _ => 0)))) (fun _ => rfl) (by decide) rfl (by decide) (Nat.le_of_ble_eq_true rfl) (Nat.le_of_ble_eq_true rfl) d_AS_init_27 ?_
  clear hP hD hS
  intro q4 H hP hD hS
  have hP : va_P E.1 classes [(t0, .inr (4, [.ref q1, .int 0, .int 0, .int 0, .ref q2, .null, .null, .int 0, .null, .null, .null, .int 0])), (q1, .inl (E.2.1 0, 1024, .inl (fun _ => 0))), (q2, .inr (3, [.ref q3, .int 0, .int 0, .long 0, .int 0, .int 0, .int 0, .int 0, .long 0])), (q3, .inl (E.2.1 0, 0, .inl (fun _ => 0))), (q4, .inl (E.2.1 1, 100, .inr (.inl (fun _ => 0))))] H := hP
  have hD : va_D A [(t0, .inr (4, [.ref q1, .int 0, .int 0, .int 0, .ref q2, .null, .null, .int 0, .null, .null, .null, .int 0])), (q1, .inl (E.2.1 0, 1024, .inl (fun _ => 0))), (q2, .inr (3, [.ref q3, .int 0, .int 0, .long 0, .int 0, .int 0, .int 0, .int 0, .long 0])), (q3, .inl (E.2.1 0, 0, .inl (fun _ => 0))), (q4, .inl (E.2.1 1, 100, .inr (.inl (fun _ => 0))))] := hD
  refine jpF J hin hJ hP hD hS 0 rfl rfl i_AS t_AS t_AS_ok n_AS 5 (by decide) gf_AS_22 rfl rfl rfl rfl (Nat.le_of_ble_eq_true rfl) d_AS_init_29 (WS' := [(t0, .inr (4, [.ref q1, .int 0, .int 0, .int 0, .ref q2, .ref q4, .null, .int 0, .null, .null, .null, .int 0])), (q1, .inl (E.2.1 0, 1024, .inl (fun _ => 0))), (q2, .inr (3, [.ref q3, .int 0, .int 0, .long 0, .int 0, .int 0, .int 0, .int 0, .long 0])), (q3, .inl (E.2.1 0, 0, .inl (fun _ => 0))), (q4, .inl (E.2.1 1, 100, .inr (.inl (fun _ => 0))))]) rfl ?_
  clear hP hD hS
  intro H locs hP hD hS
  refine lv_aload_n J.1 J.2.1 d_AS_init_32 rfl (lv_at hl 0 rfl) ?_
  refine lv_bipush (v := 100) J.1 J.2.1 d_AS_init_33 (by decide) ?_
  refine jna (atype := .int) (ty := .int) 0 J hJ hA hP hD hS gac_69 rfl rfl (fun _ h1 h2 => Option.some.inj (Eq.trans (Eq.symm h1) h2)) (a0 := (100, .inl (fun _ => 0))) (fun _ => rfl) (by decide) rfl (by decide) (Nat.le_of_ble_eq_true rfl) (Nat.le_of_ble_eq_true rfl) d_AS_init_35 ?_
  clear hP hD hS
  intro q5 H hP hD hS
  have hP : va_P E.1 classes [(t0, .inr (4, [.ref q1, .int 0, .int 0, .int 0, .ref q2, .ref q4, .null, .int 0, .null, .null, .null, .int 0])), (q1, .inl (E.2.1 0, 1024, .inl (fun _ => 0))), (q2, .inr (3, [.ref q3, .int 0, .int 0, .long 0, .int 0, .int 0, .int 0, .int 0, .long 0])), (q3, .inl (E.2.1 0, 0, .inl (fun _ => 0))), (q4, .inl (E.2.1 1, 100, .inr (.inl (fun _ => 0)))), (q5, .inl (E.2.1 0, 100, .inl (fun _ => 0)))] H := hP
  have hD : va_D A [(t0, .inr (4, [.ref q1, .int 0, .int 0, .int 0, .ref q2, .ref q4, .null, .int 0, .null, .null, .null, .int 0])), (q1, .inl (E.2.1 0, 1024, .inl (fun _ => 0))), (q2, .inr (3, [.ref q3, .int 0, .int 0, .long 0, .int 0, .int 0, .int 0, .int 0, .long 0])), (q3, .inl (E.2.1 0, 0, .inl (fun _ => 0))), (q4, .inl (E.2.1 1, 100, .inr (.inl (fun _ => 0)))), (q5, .inl (E.2.1 0, 100, .inl (fun _ => 0)))] := hD
  refine jpF J hin hJ hP hD hS 0 rfl rfl i_AS t_AS t_AS_ok n_AS 6 (by decide) gf_AS_26 rfl rfl rfl rfl (Nat.le_of_ble_eq_true rfl) d_AS_init_37 (WS' := [(t0, .inr (4, [.ref q1, .int 0, .int 0, .int 0, .ref q2, .ref q4, .ref q5, .int 0, .null, .null, .null, .int 0])), (q1, .inl (E.2.1 0, 1024, .inl (fun _ => 0))), (q2, .inr (3, [.ref q3, .int 0, .int 0, .long 0, .int 0, .int 0, .int 0, .int 0, .long 0])), (q3, .inl (E.2.1 0, 0, .inl (fun _ => 0))), (q4, .inl (E.2.1 1, 100, .inr (.inl (fun _ => 0)))), (q5, .inl (E.2.1 0, 100, .inl (fun _ => 0)))]) rfl ?_
  clear hP hD hS
  intro H locs hP hD hS
  refine lv_aload_n J.1 J.2.1 d_AS_init_40 rfl (lv_at hl 0 rfl) ?_
  refine lv_sipush (v := 1024) J.1 J.2.1 d_AS_init_41 (by decide) ?_
  refine jna (atype := .long) (ty := .long) 1 J hJ hA hP hD hS gac_111 rfl rfl (fun _ h1 h2 => Option.some.inj (Eq.trans (Eq.symm h1) h2)) (a0 := (1024, .inr (.inl (fun _ => 0)))) (fun _ => rfl) (by decide) rfl (by decide) (Nat.le_of_ble_eq_true rfl) (Nat.le_of_ble_eq_true rfl) d_AS_init_44 ?_
  clear hP hD hS
  intro q6 H hP hD hS
  have hP : va_P E.1 classes [(t0, .inr (4, [.ref q1, .int 0, .int 0, .int 0, .ref q2, .ref q4, .ref q5, .int 0, .null, .null, .null, .int 0])), (q1, .inl (E.2.1 0, 1024, .inl (fun _ => 0))), (q2, .inr (3, [.ref q3, .int 0, .int 0, .long 0, .int 0, .int 0, .int 0, .int 0, .long 0])), (q3, .inl (E.2.1 0, 0, .inl (fun _ => 0))), (q4, .inl (E.2.1 1, 100, .inr (.inl (fun _ => 0)))), (q5, .inl (E.2.1 0, 100, .inl (fun _ => 0))), (q6, .inl (E.2.1 1, 1024, .inr (.inl (fun _ => 0))))] H := hP
  have hD : va_D A [(t0, .inr (4, [.ref q1, .int 0, .int 0, .int 0, .ref q2, .ref q4, .ref q5, .int 0, .null, .null, .null, .int 0])), (q1, .inl (E.2.1 0, 1024, .inl (fun _ => 0))), (q2, .inr (3, [.ref q3, .int 0, .int 0, .long 0, .int 0, .int 0, .int 0, .int 0, .long 0])), (q3, .inl (E.2.1 0, 0, .inl (fun _ => 0))), (q4, .inl (E.2.1 1, 100, .inr (.inl (fun _ => 0)))), (q5, .inl (E.2.1 0, 100, .inl (fun _ => 0))), (q6, .inl (E.2.1 1, 1024, .inr (.inl (fun _ => 0))))] := hD
  refine jpF J hin hJ hP hD hS 0 rfl rfl i_AS t_AS t_AS_ok n_AS 8 (by decide) gf_AS_29 rfl rfl rfl rfl (Nat.le_of_ble_eq_true rfl) d_AS_init_46 (WS' := [(t0, .inr (4, [.ref q1, .int 0, .int 0, .int 0, .ref q2, .ref q4, .ref q5, .int 0, .ref q6, .null, .null, .int 0])), (q1, .inl (E.2.1 0, 1024, .inl (fun _ => 0))), (q2, .inr (3, [.ref q3, .int 0, .int 0, .long 0, .int 0, .int 0, .int 0, .int 0, .long 0])), (q3, .inl (E.2.1 0, 0, .inl (fun _ => 0))), (q4, .inl (E.2.1 1, 100, .inr (.inl (fun _ => 0)))), (q5, .inl (E.2.1 0, 100, .inl (fun _ => 0))), (q6, .inl (E.2.1 1, 1024, .inr (.inl (fun _ => 0))))]) rfl ?_
  clear hP hD hS
  intro H locs hP hD hS
  refine lv_aload_n J.1 J.2.1 d_AS_init_49 rfl (lv_at hl 0 rfl) ?_
  refine lv_sipush (v := 1024) J.1 J.2.1 d_AS_init_50 (by decide) ?_
  refine jna (atype := .int) (ty := .int) 0 J hJ hA hP hD hS gac_69 rfl rfl (fun _ h1 h2 => Option.some.inj (Eq.trans (Eq.symm h1) h2)) (a0 := (1024, .inl (fun _ => 0))) (fun _ => rfl) (by decide) rfl (by decide) (Nat.le_of_ble_eq_true rfl) (Nat.le_of_ble_eq_true rfl) d_AS_init_53 ?_
  clear hP hD hS
  intro q7 H hP hD hS
  have hP : va_P E.1 classes [(t0, .inr (4, [.ref q1, .int 0, .int 0, .int 0, .ref q2, .ref q4, .ref q5, .int 0, .ref q6, .null, .null, .int 0])), (q1, .inl (E.2.1 0, 1024, .inl (fun _ => 0))), (q2, .inr (3, [.ref q3, .int 0, .int 0, .long 0, .int 0, .int 0, .int 0, .int 0, .long 0])), (q3, .inl (E.2.1 0, 0, .inl (fun _ => 0))), (q4, .inl (E.2.1 1, 100, .inr (.inl (fun _ => 0)))), (q5, .inl (E.2.1 0, 100, .inl (fun _ => 0))), (q6, .inl (E.2.1 1, 1024, .inr (.inl (fun _ => 0)))), (q7, .inl (E.2.1 0, 1024, .inl (fun _ => 0)))] H := hP
  have hD : va_D A [(t0, .inr (4, [.ref q1, .int 0, .int 0, .int 0, .ref q2, .ref q4, .ref q5, .int 0, .ref q6, .null, .null, .int 0])), (q1, .inl (E.2.1 0, 1024, .inl (fun _ => 0))), (q2, .inr (3, [.ref q3, .int 0, .int 0, .long 0, .int 0, .int 0, .int 0, .int 0, .long 0])), (q3, .inl (E.2.1 0, 0, .inl (fun _ => 0))), (q4, .inl (E.2.1 1, 100, .inr (.inl (fun _ => 0)))), (q5, .inl (E.2.1 0, 100, .inl (fun _ => 0))), (q6, .inl (E.2.1 1, 1024, .inr (.inl (fun _ => 0)))), (q7, .inl (E.2.1 0, 1024, .inl (fun _ => 0)))] := hD
  refine jpF J hin hJ hP hD hS 0 rfl rfl i_AS t_AS t_AS_ok n_AS 9 (by decide) gf_AS_32 rfl rfl rfl rfl (Nat.le_of_ble_eq_true rfl) d_AS_init_55 (WS' := [(t0, .inr (4, [.ref q1, .int 0, .int 0, .int 0, .ref q2, .ref q4, .ref q5, .int 0, .ref q6, .ref q7, .null, .int 0])), (q1, .inl (E.2.1 0, 1024, .inl (fun _ => 0))), (q2, .inr (3, [.ref q3, .int 0, .int 0, .long 0, .int 0, .int 0, .int 0, .int 0, .long 0])), (q3, .inl (E.2.1 0, 0, .inl (fun _ => 0))), (q4, .inl (E.2.1 1, 100, .inr (.inl (fun _ => 0)))), (q5, .inl (E.2.1 0, 100, .inl (fun _ => 0))), (q6, .inl (E.2.1 1, 1024, .inr (.inl (fun _ => 0)))), (q7, .inl (E.2.1 0, 1024, .inl (fun _ => 0)))]) rfl ?_
  clear hP hD hS
  intro H locs hP hD hS
  refine lv_aload_n J.1 J.2.1 d_AS_init_58 rfl (lv_at hl 0 rfl) ?_
  refine lv_sipush (v := 1024) J.1 J.2.1 d_AS_init_59 (by decide) ?_
  refine jna (atype := .int) (ty := .int) 0 J hJ hA hP hD hS gac_69 rfl rfl (fun _ h1 h2 => Option.some.inj (Eq.trans (Eq.symm h1) h2)) (a0 := (1024, .inl (fun _ => 0))) (fun _ => rfl) (by decide) rfl (by decide) (Nat.le_of_ble_eq_true rfl) (Nat.le_of_ble_eq_true rfl) d_AS_init_62 ?_
  clear hP hD hS
  intro q8 H hP hD hS
  have hP : va_P E.1 classes [(t0, .inr (4, [.ref q1, .int 0, .int 0, .int 0, .ref q2, .ref q4, .ref q5, .int 0, .ref q6, .ref q7, .null, .int 0])), (q1, .inl (E.2.1 0, 1024, .inl (fun _ => 0))), (q2, .inr (3, [.ref q3, .int 0, .int 0, .long 0, .int 0, .int 0, .int 0, .int 0, .long 0])), (q3, .inl (E.2.1 0, 0, .inl (fun _ => 0))), (q4, .inl (E.2.1 1, 100, .inr (.inl (fun _ => 0)))), (q5, .inl (E.2.1 0, 100, .inl (fun _ => 0))), (q6, .inl (E.2.1 1, 1024, .inr (.inl (fun _ => 0)))), (q7, .inl (E.2.1 0, 1024, .inl (fun _ => 0))), (q8, .inl (E.2.1 0, 1024, .inl (fun _ => 0)))] H := hP
  have hD : va_D A [(t0, .inr (4, [.ref q1, .int 0, .int 0, .int 0, .ref q2, .ref q4, .ref q5, .int 0, .ref q6, .ref q7, .null, .int 0])), (q1, .inl (E.2.1 0, 1024, .inl (fun _ => 0))), (q2, .inr (3, [.ref q3, .int 0, .int 0, .long 0, .int 0, .int 0, .int 0, .int 0, .long 0])), (q3, .inl (E.2.1 0, 0, .inl (fun _ => 0))), (q4, .inl (E.2.1 1, 100, .inr (.inl (fun _ => 0)))), (q5, .inl (E.2.1 0, 100, .inl (fun _ => 0))), (q6, .inl (E.2.1 1, 1024, .inr (.inl (fun _ => 0)))), (q7, .inl (E.2.1 0, 1024, .inl (fun _ => 0))), (q8, .inl (E.2.1 0, 1024, .inl (fun _ => 0)))] := hD
  refine jpF J hin hJ hP hD hS 0 rfl rfl i_AS t_AS t_AS_ok n_AS 10 (by decide) gf_AS_35 rfl rfl rfl rfl (Nat.le_of_ble_eq_true rfl) d_AS_init_64 (WS' := [(t0, .inr (4, [.ref q1, .int 0, .int 0, .int 0, .ref q2, .ref q4, .ref q5, .int 0, .ref q6, .ref q7, .ref q8, .int 0])), (q1, .inl (E.2.1 0, 1024, .inl (fun _ => 0))), (q2, .inr (3, [.ref q3, .int 0, .int 0, .long 0, .int 0, .int 0, .int 0, .int 0, .long 0])), (q3, .inl (E.2.1 0, 0, .inl (fun _ => 0))), (q4, .inl (E.2.1 1, 100, .inr (.inl (fun _ => 0)))), (q5, .inl (E.2.1 0, 100, .inl (fun _ => 0))), (q6, .inl (E.2.1 1, 1024, .inr (.inl (fun _ => 0)))), (q7, .inl (E.2.1 0, 1024, .inl (fun _ => 0))), (q8, .inl (E.2.1 0, 1024, .inl (fun _ => 0)))]) rfl ?_
  clear hP hD hS
  intro H locs hP hD hS
  exact jr_n (q1, q2, q3, q4, q5, q6, q7, q8) J hS hP hD d_AS_init_67
