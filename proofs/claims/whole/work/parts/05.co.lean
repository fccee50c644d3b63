theorem g_t {α : Type} {q : Prop} [Decidable q] {a b r : α} (hq : q) (h : (if q then a else b) = r) : a = r := by rw [if_pos hq] at h; exact h
theorem g_f {α : Type} {q : Prop} [Decidable q] {a b r : α} (hq : ¬ q) (h : (if q then a else b) = r) : b = r := by rw [if_neg hq] at h; exact h
abbrev cq (sp : Int32) (n0 : Nat) (dp : Int32) (n1 : Nat) (n : Int32) : Prop := ¬ sp < 0 ∧ ¬ dp < 0 ∧ ¬ n < 0 ∧ sp.toNatClampNeg + n.toNatClampNeg ≤ n0 ∧ dp.toNatClampNeg + n.toNatClampNeg ≤ n1
section JT
variable {p : Program} {l : Launch} {e : Env} {R : Room} {s : State} {m : MethodId} {args : Array Value} {below : List Frame} {meth : Method} {c : Code} {H : Heap} {locs : List Loc} {cells slots : Nat} {Q : State → Prop} {cc : ByteArray} {pc : Nat} {ls : Array Slot} {rest : List Value}
theorem jt_df (hexec : p.tables.exec = Jvm.exec) (hb : c.code = cc) {dflt lo hi : Int} {offs : Array Int} {len : Nat} {x : Int32} {tgt : Nat} (hdg : decode cc pc = .ok (.tableswitch dflt lo hi offs, len)) (h : x.toInt < lo ∨ hi < x.toInt ∨ offs[(x.toInt - lo).toNat]? = some dflt) (ht : (pc : Int) + dflt = (tgt : Int)) (k : W p l e R s m args below meth c H locs cells slots Q (F0 m tgt ls rest)) : W p l e R s m args below meth c H locs cells slots Q (F0 m pc ls (.int x :: rest)) := by
  by_cases h1 : x.toInt < lo
  · exact lv_tableOut hexec hb hdg (Or.inl h1) ht k
  · by_cases h2 : hi < x.toInt
    · exact lv_tableOut hexec hb hdg (Or.inr h2) ht k
    · have h3 : offs[(x.toInt - lo).toNat]? = some dflt := by rcases h with h | h | h; exact absurd h h1; exact absurd h h2; exact h
      exact lv_tableIn hexec hb hdg h1 h2 h3 ht k
end JT
theorem jt_or {z lo hi : Int} {q : Prop} (f : lo ≤ z → z ≤ hi → q) : z < lo ∨ hi < z ∨ q := by
  by_cases h1 : z < lo
  · exact Or.inl h1
  · by_cases h2 : hi < z
    · exact Or.inr (Or.inl h2)
    · exact Or.inr (Or.inr (f (by omega) (by omega)))

theorem d_JA_fill_0 : decode c_JA_fill 0 = .ok (.iconst 0, 1) := by decide +kernel
theorem d_JA_fill_1 : decode c_JA_fill 1 = .ok (.istore_n 2, 1) := by decide +kernel
theorem d_JA_fill_2 : decode c_JA_fill 2 = .ok (.aload_n 0, 1) := by decide +kernel
theorem d_JA_fill_3 : decode c_JA_fill 3 = .ok (.arraylength, 1) := by decide +kernel
theorem d_JA_fill_4 : decode c_JA_fill 4 = .ok (.istore_n 3, 1) := by decide +kernel
theorem d_JA_fill_5 : decode c_JA_fill 5 = .ok (.iload_n 2, 1) := by decide +kernel
theorem d_JA_fill_6 : decode c_JA_fill 6 = .ok (.iload_n 3, 1) := by decide +kernel
theorem d_JA_fill_7 : decode c_JA_fill 7 = .ok (.if_icmp .ge 13, 3) := by decide +kernel
theorem d_JA_fill_10 : decode c_JA_fill 10 = .ok (.aload_n 0, 1) := by decide +kernel
theorem d_JA_fill_11 : decode c_JA_fill 11 = .ok (.iload_n 2, 1) := by decide +kernel
theorem d_JA_fill_12 : decode c_JA_fill 12 = .ok (.iload_n 1, 1) := by decide +kernel
theorem d_JA_fill_13 : decode c_JA_fill 13 = .ok (.iastore, 1) := by decide +kernel
theorem d_JA_fill_14 : decode c_JA_fill 14 = .ok (.iinc 2 1, 3) := by decide +kernel
theorem d_JA_fill_17 : decode c_JA_fill 17 = .ok (.goto (-12), 3) := by decide +kernel
theorem d_JA_fill_20 : decode c_JA_fill 20 = .ok (.return_, 1) := by decide +kernel
theorem hd_CO_clear : y_CO_clear.cls ≠ "java/lang/invoke/MethodHandle" ∧ y_CO_clear.cls ≠ "java/lang/invoke/VarHandle" ∧ (parseMethodDescriptor y_CO_clear.desc).map (fun d => d.parameters.length) = some 0 := by decide +kernel
def f_CO_clear : Option (Int32 × Int32 × Int32) := (some (0, 0, 0))
set_option maxHeartbeats 4000000 in
set_option maxRecDepth 100000 in
theorem ct_CO_clear (l : Launch) (E : jz_E) (k0 k1 k2 : Nat) (sz : Nat) (kold : Int32) (kwai : Int32) (ksnt : Int32) (o_kold : Int32) (o_kwai : Int32) (o_ksnt : Int32)  (h : f_CO_clear  = some (o_kold, o_kwai, o_ksnt)) : CTv l E y_CO_clear c_CO_clear 1 none ({ frames := 0, cells := 0, slots := 0, locals := 0 }) [.ref k0] [(k0, .inr (1, [.ref k1, .ref k2, .int kold, .int kwai, .int ksnt]))] sz [(k0, .inr (1, [.ref k1, .ref k2, .int o_kold, .int o_kwai, .int o_ksnt]))] := by
  refine jw (by decide +kernel) (Nat.le_of_ble_eq_true rfl) ?_
  intro p e s m below meth c A ls J hJ hAe hsz hA hZ hP hD hl
  rw [← hAe]
  have hS : va_S A s.heap s.heap [] := va_S.rf
  have hl : lv_has ls 1 [(0, .ref k0)] := hl
  unfold f_CO_clear at h
  refine lv_aload_n J.1 J.2.1 d_CO_clear_0 rfl (lv_at hl 0 rfl) ?_
  refine lv_iconst (v := 0) J.1 J.2.1 d_CO_clear_1 (by decide) ?_
  refine jp J hJ hP hD hS 0 rfl rfl i_CO t_CO t_CO_ok n_CO 2 (by decide) gf_CO_18 rfl rfl rfl (Nat.le_of_ble_eq_true rfl) d_CO_clear_2 (WS' := [(k0, .inr (1, [.ref k1, .ref k2, .int 0, .int kwai, .int ksnt]))]) rfl ?_
  clear hP hD hS
  intro H locs hP hD hS
  refine lv_aload_n J.1 J.2.1 d_CO_clear_5 rfl (lv_at hl 0 rfl) ?_
  refine lv_iconst (v := 0) J.1 J.2.1 d_CO_clear_6 (by decide) ?_
  refine jp J hJ hP hD hS 0 rfl rfl i_CO t_CO t_CO_ok n_CO 3 (by decide) gf_CO_22 rfl rfl rfl (Nat.le_of_ble_eq_true rfl) d_CO_clear_7 (WS' := [(k0, .inr (1, [.ref k1, .ref k2, .int 0, .int 0, .int ksnt]))]) rfl ?_
  clear hP hD hS
  intro H locs hP hD hS
  refine lv_aload_n J.1 J.2.1 d_CO_clear_10 rfl (lv_at hl 0 rfl) ?_
  refine lv_iconst (v := 0) J.1 J.2.1 d_CO_clear_11 (by decide) ?_
  refine jp J hJ hP hD hS 0 rfl rfl i_CO t_CO t_CO_ok n_CO 4 (by decide) gf_CO_25 rfl rfl rfl (Nat.le_of_ble_eq_true rfl) d_CO_clear_12 (WS' := [(k0, .inr (1, [.ref k1, .ref k2, .int 0, .int 0, .int 0]))]) rfl ?_
  clear hP hD hS
  intro H locs hP hD hS
  have h := Option.some.inj h
  have e_0 := (Prod.mk.inj h).1
  have h := (Prod.mk.inj h).2
  have e_1 := (Prod.mk.inj h).1
  have h := (Prod.mk.inj h).2
  rw [← e_0, ← e_1, ← h]
  exact jr_v J hS hP hD d_CO_clear_15

theorem hd_CO_isTaken : y_CO_isTaken.cls ≠ "java/lang/invoke/MethodHandle" ∧ y_CO_isTaken.cls ≠ "java/lang/invoke/VarHandle" ∧ (parseMethodDescriptor y_CO_isTaken.desc).map (fun d => d.parameters.length) = some 1 := by decide +kernel
def f_CO_isTaken (kold : Int32) (kwai : Int32) (ktyp : Nat → Int32) (p1 : Int32) : Option (Int32 × Int32 × (Nat → Int32)) := (if kwai < (100 : Int32) then (if ck ((kold + kwai) - (kold + kwai) / 100 * 100) 100 then (some (1, (kwai + 1), (upd ktyp ((kold + kwai) - (kold + kwai) / 100 * 100).toNatClampNeg p1))) else none) else (some (0, kwai, ktyp)))
set_option maxHeartbeats 4000000 in
set_option maxRecDepth 100000 in
theorem ct_CO_isTaken (l : Launch) (E : jz_E) (k0 k1 k2 : Nat) (sz : Nat) (kold : Int32) (kwai : Int32) (ksnt : Int32) (ktyp : Nat → Int32) (p1 : Int32) (o_r : Int32) (o_kwai : Int32) (o_ktyp : Nat → Int32)  (h : f_CO_isTaken kold kwai ktyp p1 = some (o_r, o_kwai, o_ktyp)) : CTi l E y_CO_isTaken c_CO_isTaken 2 (some .boolean) ({ frames := 0, cells := 0, slots := 0, locals := 0 }) [.ref k0, .int p1] [(k0, .inr (1, [.ref k1, .ref k2, .int kold, .int kwai, .int ksnt])), (k1, .inl (E.2.1 0, 100, .inl ktyp))] sz o_r [(k0, .inr (1, [.ref k1, .ref k2, .int kold, .int o_kwai, .int ksnt])), (k1, .inl (E.2.1 0, 100, .inl o_ktyp))] := by
  refine jw (by decide +kernel) (Nat.le_of_ble_eq_true rfl) ?_
  intro p e s m below meth c A ls J hJ hAe hsz hA hZ hP hD hl
  rw [← hAe]
  have hS : va_S A s.heap s.heap [] := va_S.rf
  have hl : lv_has ls 2 [(0, .ref k0), (1, .int p1)] := hl
  unfold f_CO_isTaken at h
  refine lv_aload_n J.1 J.2.1 d_CO_isTaken_0 rfl (lv_at hl 0 rfl) ?_
  refine jg J hJ hP 0 rfl rfl i_CO 3 (by decide) gf_CO_22 rfl d_CO_isTaken_1 ?_
  refine lv_bipush (v := 100) J.1 J.2.1 d_CO_isTaken_4 (by decide) ?_
  refine lv_icmp_lt (tgt := 11) J.1 J.2.1 d_CO_isTaken_6 (by decide) (fun c_1 => ?_) (fun c_1 => ?_)
  · replace h := g_t c_1 h
    refine lv_aload_n J.1 J.2.1 d_CO_isTaken_11 rfl (lv_at hl 0 rfl) ?_
    refine jg J hJ hP 0 rfl rfl i_CO 0 (by decide) gf_CO_11 rfl d_CO_isTaken_12 ?_
    refine lv_aload_n J.1 J.2.1 d_CO_isTaken_15 rfl (lv_at hl 0 rfl) ?_
    refine jg J hJ hP 0 rfl rfl i_CO 2 (by decide) gf_CO_18 rfl d_CO_isTaken_16 ?_
    refine lv_aload_n J.1 J.2.1 d_CO_isTaken_19 rfl (lv_at hl 0 rfl) ?_
    refine jg J hJ hP 0 rfl rfl i_CO 3 (by decide) gf_CO_22 rfl d_CO_isTaken_20 ?_
    refine lv_iadd J.1 J.2.1 d_CO_isTaken_23 ?_
    refine lv_bipush (v := 100) J.1 J.2.1 d_CO_isTaken_24 (by decide) ?_
    refine lv_irem J.1 J.2.1 d_CO_isTaken_26 (by decide) ?_
    refine lv_iload_n J.1 J.2.1 d_CO_isTaken_27 rfl (lv_at hl 1 rfl) ?_
    replace h := g_ck h
    obtain ⟨k_2, h⟩ := h
    refine jsi J hJ hP hD hS 1 rfl k_2 d_CO_isTaken_28 (WS' := [(k0, .inr (1, [.ref k1, .ref k2, .int kold, .int kwai, .int ksnt])), (k1, .inl (E.2.1 0, 100, .inl (upd ktyp ((kold + kwai) - (kold + kwai) / 100 * 100).toNatClampNeg p1)))]) rfl ?_
    clear hP hD hS
    intro H locs hP hD hS
    refine lv_aload_n J.1 J.2.1 d_CO_isTaken_29 rfl (lv_at hl 0 rfl) ?_
    refine lv_dup J.1 J.2.1 d_CO_isTaken_30 rfl ?_
    refine jg J hJ hP 0 rfl rfl i_CO 3 (by decide) gf_CO_22 rfl d_CO_isTaken_31 ?_
    refine lv_iconst (v := 1) J.1 J.2.1 d_CO_isTaken_34 (by decide) ?_
    refine lv_iadd J.1 J.2.1 d_CO_isTaken_35 ?_
    refine jp J hJ hP hD hS 0 rfl rfl i_CO t_CO t_CO_ok n_CO 3 (by decide) gf_CO_22 rfl rfl rfl (Nat.le_of_ble_eq_true rfl) d_CO_isTaken_36 (WS' := [(k0, .inr (1, [.ref k1, .ref k2, .int kold, .int (kwai + 1), .int ksnt])), (k1, .inl (E.2.1 0, 100, .inl (upd ktyp ((kold + kwai) - (kold + kwai) / 100 * 100).toNatClampNeg p1)))]) rfl ?_
    clear hP hD hS
    intro H locs hP hD hS
    refine lv_iconst (v := 1) J.1 J.2.1 d_CO_isTaken_39 (by decide) ?_
    have h := Option.some.inj h
    have e_0 := (Prod.mk.inj h).1
    have h := (Prod.mk.inj h).2
    have e_1 := (Prod.mk.inj h).1
    have h := (Prod.mk.inj h).2
    rw [← e_0, ← e_1, ← h]
    exact jr_i J hS hP hD rfl d_CO_isTaken_40
  · replace h := g_f c_1 h
    refine lv_iconst (v := 0) J.1 J.2.1 d_CO_isTaken_9 (by decide) ?_
    have h := Option.some.inj h
    have e_0 := (Prod.mk.inj h).1
    have h := (Prod.mk.inj h).2
    have e_1 := (Prod.mk.inj h).1
    have h := (Prod.mk.inj h).2
    rw [← e_0, ← e_1, ← h]
    exact jr_i J hS hP hD rfl d_CO_isTaken_10

theorem hd_CO_nextTyped : y_CO_nextTyped.cls ≠ "java/lang/invoke/MethodHandle" ∧ y_CO_nextTyped.cls ≠ "java/lang/invoke/VarHandle" ∧ (parseMethodDescriptor y_CO_nextTyped.desc).map (fun d => d.parameters.length) = some 0 := by decide +kernel
def f_CO_nextTyped (kold : Int32) (kwai : Int32) (ktyp : Nat → Int32) : Option (Int32 × Int32 × Int32) := (if kwai = (0 : Int32) then (some (65535, kold, kwai)) else (if ck kold 100 then (some ((ktyp kold.toNatClampNeg), ((kold + 1) - (kold + 1) / 100 * 100), (kwai - 1))) else none))
set_option maxHeartbeats 4000000 in
set_option maxRecDepth 100000 in
theorem ct_CO_nextTyped (l : Launch) (E : jz_E) (k0 k1 k2 : Nat) (sz : Nat) (kold : Int32) (kwai : Int32) (ksnt : Int32) (ktyp : Nat → Int32) (o_r : Int32) (o_kold : Int32) (o_kwai : Int32)  (h : f_CO_nextTyped kold kwai ktyp = some (o_r, o_kold, o_kwai)) : CTi l E y_CO_nextTyped c_CO_nextTyped 2 (some .int) ({ frames := 0, cells := 0, slots := 0, locals := 0 }) [.ref k0] [(k0, .inr (1, [.ref k1, .ref k2, .int kold, .int kwai, .int ksnt])), (k1, .inl (E.2.1 0, 100, .inl ktyp))] sz o_r [(k0, .inr (1, [.ref k1, .ref k2, .int o_kold, .int o_kwai, .int ksnt])), (k1, .inl (E.2.1 0, 100, .inl ktyp))] := by
  refine jw (by decide +kernel) (Nat.le_of_ble_eq_true rfl) ?_
  intro p e s m below meth c A ls J hJ hAe hsz hA hZ hP hD hl
  rw [← hAe]
  have hS : va_S A s.heap s.heap [] := va_S.rf
  have hl : lv_has ls 2 [(0, .ref k0)] := hl
  unfold f_CO_nextTyped at h
  refine lv_aload_n J.1 J.2.1 d_CO_nextTyped_0 rfl (lv_at hl 0 rfl) ?_
  refine jg J hJ hP 0 rfl rfl i_CO 3 (by decide) gf_CO_22 rfl d_CO_nextTyped_1 ?_
  refine lv_if_ne (tgt := 10) J.1 J.2.1 d_CO_nextTyped_4 (by decide) (fun c_1 => ?_) (fun c_1 => ?_)
  · replace h := g_f c_1 h
    refine lv_aload_n J.1 J.2.1 d_CO_nextTyped_10 rfl (lv_at hl 0 rfl) ?_
    refine jg J hJ hP 0 rfl rfl i_CO 0 (by decide) gf_CO_11 rfl d_CO_nextTyped_11 ?_
    refine lv_aload_n J.1 J.2.1 d_CO_nextTyped_14 rfl (lv_at hl 0 rfl) ?_
    refine jg J hJ hP 0 rfl rfl i_CO 2 (by decide) gf_CO_18 rfl d_CO_nextTyped_15 ?_
    replace h := g_ck h
    obtain ⟨k_2, h⟩ := h
    refine jai J hJ hP 1 rfl k_2 d_CO_nextTyped_18 ?_
    refine lv_istore_n (lv' := [(1, .int (ktyp kold.toNatClampNeg)), (0, .ref k0)]) J.1 J.2.1 d_CO_nextTyped_19 rfl hl (by decide) rfl ?_
    clear hl
    intro ls hl
    refine lv_aload_n J.1 J.2.1 d_CO_nextTyped_20 rfl (lv_at hl 1 rfl) ?_
    refine lv_aload_n J.1 J.2.1 d_CO_nextTyped_21 rfl (lv_at hl 1 rfl) ?_
    refine jg J hJ hP 0 rfl rfl i_CO 2 (by decide) gf_CO_18 rfl d_CO_nextTyped_22 ?_
    refine lv_iconst (v := 1) J.1 J.2.1 d_CO_nextTyped_25 (by decide) ?_
    refine lv_iadd J.1 J.2.1 d_CO_nextTyped_26 ?_
    refine lv_bipush (v := 100) J.1 J.2.1 d_CO_nextTyped_27 (by decide) ?_
    refine lv_irem J.1 J.2.1 d_CO_nextTyped_29 (by decide) ?_
    refine jp J hJ hP hD hS 0 rfl rfl i_CO t_CO t_CO_ok n_CO 2 (by decide) gf_CO_18 rfl rfl rfl (Nat.le_of_ble_eq_true rfl) d_CO_nextTyped_30 (WS' := [(k0, .inr (1, [.ref k1, .ref k2, .int ((kold + 1) - (kold + 1) / 100 * 100), .int kwai, .int ksnt])), (k1, .inl (E.2.1 0, 100, .inl ktyp))]) rfl ?_
    clear hP hD hS
    intro H locs hP hD hS
    refine lv_aload_n J.1 J.2.1 d_CO_nextTyped_33 rfl (lv_at hl 1 rfl) ?_
    refine lv_dup J.1 J.2.1 d_CO_nextTyped_34 rfl ?_
    refine jg J hJ hP 0 rfl rfl i_CO 3 (by decide) gf_CO_22 rfl d_CO_nextTyped_35 ?_
    refine lv_iconst (v := 1) J.1 J.2.1 d_CO_nextTyped_38 (by decide) ?_
    refine lv_isub J.1 J.2.1 d_CO_nextTyped_39 ?_
    refine jp J hJ hP hD hS 0 rfl rfl i_CO t_CO t_CO_ok n_CO 3 (by decide) gf_CO_22 rfl rfl rfl (Nat.le_of_ble_eq_true rfl) d_CO_nextTyped_40 (WS' := [(k0, .inr (1, [.ref k1, .ref k2, .int ((kold + 1) - (kold + 1) / 100 * 100), .int (kwai - 1), .int ksnt])), (k1, .inl (E.2.1 0, 100, .inl ktyp))]) rfl ?_
    clear hP hD hS
    intro H locs hP hD hS
    refine lv_iload_n J.1 J.2.1 d_CO_nextTyped_43 rfl (lv_at hl 0 rfl) ?_
    have h := Option.some.inj h
    have e_0 := (Prod.mk.inj h).1
    have h := (Prod.mk.inj h).2
    have e_1 := (Prod.mk.inj h).1
    have h := (Prod.mk.inj h).2
    rw [← e_0, ← e_1, ← h]
    exact jr_i J hS hP hD rfl d_CO_nextTyped_44
  · replace h := g_t c_1 h
    refine lv_ldc (v := 65535) J.1 J.2.1 J.2.2.2.2.1 (J.2.2.2.2.2.1 _ gk_CO_28) d_CO_nextTyped_7 ?_
    have h := Option.some.inj h
    have e_0 := (Prod.mk.inj h).1
    have h := (Prod.mk.inj h).2
    have e_1 := (Prod.mk.inj h).1
    have h := (Prod.mk.inj h).2
    rw [← e_0, ← e_1, ← h]
    exact jr_i J hS hP hD rfl d_CO_nextTyped_9

theorem hd_CO_send : y_CO_send.cls ≠ "java/lang/invoke/MethodHandle" ∧ y_CO_send.cls ≠ "java/lang/invoke/VarHandle" ∧ (parseMethodDescriptor y_CO_send.desc).map (fun d => d.parameters.length) = some 1 := by decide +kernel
def f_CO_send (ksnt : Int32) (ksen : Nat → Int32) (p1 : Int32) : Option (Int32 × (Nat → Int32)) := (if ksnt < (0 : Int32) then (some ((ksnt + 1), ksen)) else (if (500 : Int32) ≤ ksnt then (some ((ksnt + 1), ksen)) else (if ck ksnt 500 then (some ((ksnt + 1), (upd ksen ksnt.toNatClampNeg p1))) else none)))
set_option maxHeartbeats 4000000 in
set_option maxRecDepth 100000 in
theorem ct_CO_send (l : Launch) (E : jz_E) (k0 k1 k2 : Nat) (sz : Nat) (kold : Int32) (kwai : Int32) (ksnt : Int32) (ksen : Nat → Int32) (p1 : Int32) (o_ksnt : Int32) (o_ksen : Nat → Int32)  (h : f_CO_send ksnt ksen p1 = some (o_ksnt, o_ksen)) : CTv l E y_CO_send c_CO_send 2 none ({ frames := 0, cells := 0, slots := 0, locals := 0 }) [.ref k0, .int p1] [(k0, .inr (1, [.ref k1, .ref k2, .int kold, .int kwai, .int ksnt])), (k2, .inl (E.2.1 0, 500, .inl ksen))] sz [(k0, .inr (1, [.ref k1, .ref k2, .int kold, .int kwai, .int o_ksnt])), (k2, .inl (E.2.1 0, 500, .inl o_ksen))] := by
  refine jw (by decide +kernel) (Nat.le_of_ble_eq_true rfl) ?_
  intro p e s m below meth c A ls J hJ hAe hsz hA hZ hP hD hl
  rw [← hAe]
  have hS : va_S A s.heap s.heap [] := va_S.rf
  have hl : lv_has ls 2 [(0, .ref k0), (1, .int p1)] := hl
  unfold f_CO_send at h
  refine lv_aload_n J.1 J.2.1 d_CO_send_0 rfl (lv_at hl 0 rfl) ?_
  refine jg J hJ hP 0 rfl rfl i_CO 4 (by decide) gf_CO_25 rfl d_CO_send_1 ?_
  refine lv_if_lt (tgt := 27) J.1 J.2.1 d_CO_send_4 (by decide) (fun c_1 => ?_) (fun c_1 => ?_)
  · replace h := g_t c_1 h
    refine lv_aload_n J.1 J.2.1 d_CO_send_27 rfl (lv_at hl 0 rfl) ?_
    refine lv_dup J.1 J.2.1 d_CO_send_28 rfl ?_
    refine jg J hJ hP 0 rfl rfl i_CO 4 (by decide) gf_CO_25 rfl d_CO_send_29 ?_
    refine lv_iconst (v := 1) J.1 J.2.1 d_CO_send_32 (by decide) ?_
    refine lv_iadd J.1 J.2.1 d_CO_send_33 ?_
    refine jp J hJ hP hD hS 0 rfl rfl i_CO t_CO t_CO_ok n_CO 4 (by decide) gf_CO_25 rfl rfl rfl (Nat.le_of_ble_eq_true rfl) d_CO_send_34 (WS' := [(k0, .inr (1, [.ref k1, .ref k2, .int kold, .int kwai, .int (ksnt + 1)])), (k2, .inl (E.2.1 0, 500, .inl ksen))]) rfl ?_
    clear hP hD hS
    intro H locs hP hD hS
    have h := Option.some.inj h
    have e_0 := (Prod.mk.inj h).1
    have h := (Prod.mk.inj h).2
    rw [← e_0, ← h]
    exact jr_v J hS hP hD d_CO_send_37
  · replace h := g_f c_1 h
    refine lv_aload_n J.1 J.2.1 d_CO_send_7 rfl (lv_at hl 0 rfl) ?_
    refine jg J hJ hP 0 rfl rfl i_CO 4 (by decide) gf_CO_25 rfl d_CO_send_8 ?_
    refine lv_sipush (v := 500) J.1 J.2.1 d_CO_send_11 (by decide) ?_
    refine lv_icmp_ge (tgt := 27) J.1 J.2.1 d_CO_send_14 (by decide) (fun c_2 => ?_) (fun c_2 => ?_)
    · replace h := g_t c_2 h
      refine lv_aload_n J.1 J.2.1 d_CO_send_27 rfl (lv_at hl 0 rfl) ?_
      refine lv_dup J.1 J.2.1 d_CO_send_28 rfl ?_
      refine jg J hJ hP 0 rfl rfl i_CO 4 (by decide) gf_CO_25 rfl d_CO_send_29 ?_
      refine lv_iconst (v := 1) J.1 J.2.1 d_CO_send_32 (by decide) ?_
      refine lv_iadd J.1 J.2.1 d_CO_send_33 ?_
      refine jp J hJ hP hD hS 0 rfl rfl i_CO t_CO t_CO_ok n_CO 4 (by decide) gf_CO_25 rfl rfl rfl (Nat.le_of_ble_eq_true rfl) d_CO_send_34 (WS' := [(k0, .inr (1, [.ref k1, .ref k2, .int kold, .int kwai, .int (ksnt + 1)])), (k2, .inl (E.2.1 0, 500, .inl ksen))]) rfl ?_
      clear hP hD hS
      intro H locs hP hD hS
      have h := Option.some.inj h
      have e_0 := (Prod.mk.inj h).1
      have h := (Prod.mk.inj h).2
      rw [← e_0, ← h]
      exact jr_v J hS hP hD d_CO_send_37
    · replace h := g_f c_2 h
      refine lv_aload_n J.1 J.2.1 d_CO_send_17 rfl (lv_at hl 0 rfl) ?_
      refine jg J hJ hP 0 rfl rfl i_CO 1 (by decide) gf_CO_15 rfl d_CO_send_18 ?_
      refine lv_aload_n J.1 J.2.1 d_CO_send_21 rfl (lv_at hl 0 rfl) ?_
      refine jg J hJ hP 0 rfl rfl i_CO 4 (by decide) gf_CO_25 rfl d_CO_send_22 ?_
      refine lv_iload_n J.1 J.2.1 d_CO_send_25 rfl (lv_at hl 1 rfl) ?_
      replace h := g_ck h
      obtain ⟨k_3, h⟩ := h
      refine jsi J hJ hP hD hS 1 rfl k_3 d_CO_send_26 (WS' := [(k0, .inr (1, [.ref k1, .ref k2, .int kold, .int kwai, .int ksnt])), (k2, .inl (E.2.1 0, 500, .inl (upd ksen ksnt.toNatClampNeg p1)))]) rfl ?_
      clear hP hD hS
      intro H locs hP hD hS
      refine lv_aload_n J.1 J.2.1 d_CO_send_27 rfl (lv_at hl 0 rfl) ?_
      refine lv_dup J.1 J.2.1 d_CO_send_28 rfl ?_
      refine jg J hJ hP 0 rfl rfl i_CO 4 (by decide) gf_CO_25 rfl d_CO_send_29 ?_
      refine lv_iconst (v := 1) J.1 J.2.1 d_CO_send_32 (by decide) ?_
      refine lv_iadd J.1 J.2.1 d_CO_send_33 ?_
      refine jp J hJ hP hD hS 0 rfl rfl i_CO t_CO t_CO_ok n_CO 4 (by decide) gf_CO_25 rfl rfl rfl (Nat.le_of_ble_eq_true rfl) d_CO_send_34 (WS' := [(k0, .inr (1, [.ref k1, .ref k2, .int kold, .int kwai, .int (ksnt + 1)])), (k2, .inl (E.2.1 0, 500, .inl (upd ksen ksnt.toNatClampNeg p1)))]) rfl ?_
      clear hP hD hS
      intro H locs hP hD hS
      have h := Option.some.inj h
      have e_0 := (Prod.mk.inj h).1
      have h := (Prod.mk.inj h).2
      rw [← e_0, ← h]
      exact jr_v J hS hP hD d_CO_send_37

theorem hd_CO_sentByte : y_CO_sentByte.cls ≠ "java/lang/invoke/MethodHandle" ∧ y_CO_sentByte.cls ≠ "java/lang/invoke/VarHandle" ∧ (parseMethodDescriptor y_CO_sentByte.desc).map (fun d => d.parameters.length) = some 1 := by decide +kernel
def f_CO_sentByte (ksnt : Int32) (ksen : Nat → Int32) (p1 : Int32) : Option (Int32) := (if p1 < (0 : Int32) then (some (-1)) else (if ksnt ≤ p1 then (some (-1)) else (if p1 < (500 : Int32) then (if ck p1 500 then (some (ksen p1.toNatClampNeg)) else none) else (some (-1)))))
set_option maxHeartbeats 4000000 in
set_option maxRecDepth 100000 in
theorem ct_CO_sentByte (l : Launch) (E : jz_E) (k0 k1 k2 : Nat) (sz : Nat) (kold : Int32) (kwai : Int32) (ksnt : Int32) (ksen : Nat → Int32) (p1 : Int32) (o_r : Int32)  (h : f_CO_sentByte ksnt ksen p1 = some o_r) : CTi l E y_CO_sentByte c_CO_sentByte 2 (some .int) ({ frames := 0, cells := 0, slots := 0, locals := 0 }) [.ref k0, .int p1] [(k0, .inr (1, [.ref k1, .ref k2, .int kold, .int kwai, .int ksnt])), (k2, .inl (E.2.1 0, 500, .inl ksen))] sz o_r [(k0, .inr (1, [.ref k1, .ref k2, .int kold, .int kwai, .int ksnt])), (k2, .inl (E.2.1 0, 500, .inl ksen))] := by
  refine jw (by decide +kernel) (Nat.le_of_ble_eq_true rfl) ?_
  intro p e s m below meth c A ls J hJ hAe hsz hA hZ hP hD hl
  rw [← hAe]
  have hS : va_S A s.heap s.heap [] := va_S.rf
  have hl : lv_has ls 2 [(0, .ref k0), (1, .int p1)] := hl
  unfold f_CO_sentByte at h
  refine lv_iload_n J.1 J.2.1 d_CO_sentByte_0 rfl (lv_at hl 1 rfl) ?_
  refine lv_if_lt (tgt := 19) J.1 J.2.1 d_CO_sentByte_1 (by decide) (fun c_1 => ?_) (fun c_1 => ?_)
  · replace h := g_t c_1 h
    refine lv_iconst (v := (-1)) J.1 J.2.1 d_CO_sentByte_19 (by decide) ?_
    refine lv_goto (tgt := 29) J.1 J.2.1 d_CO_sentByte_20 (by decide) ?_
    have h := Option.some.inj h
    rw [← h]
    exact jr_i J hS hP hD rfl d_CO_sentByte_29
  · replace h := g_f c_1 h
    refine lv_iload_n J.1 J.2.1 d_CO_sentByte_4 rfl (lv_at hl 1 rfl) ?_
    refine lv_aload_n J.1 J.2.1 d_CO_sentByte_5 rfl (lv_at hl 0 rfl) ?_
    refine jg J hJ hP 0 rfl rfl i_CO 4 (by decide) gf_CO_25 rfl d_CO_sentByte_6 ?_
    refine lv_icmp_ge (tgt := 19) J.1 J.2.1 d_CO_sentByte_9 (by decide) (fun c_2 => ?_) (fun c_2 => ?_)
    · replace h := g_t c_2 h
      refine lv_iconst (v := (-1)) J.1 J.2.1 d_CO_sentByte_19 (by decide) ?_
      refine lv_goto (tgt := 29) J.1 J.2.1 d_CO_sentByte_20 (by decide) ?_
      have h := Option.some.inj h
      rw [← h]
      exact jr_i J hS hP hD rfl d_CO_sentByte_29
    · replace h := g_f c_2 h
      refine lv_iload_n J.1 J.2.1 d_CO_sentByte_12 rfl (lv_at hl 1 rfl) ?_
      refine lv_sipush (v := 500) J.1 J.2.1 d_CO_sentByte_13 (by decide) ?_
      refine lv_icmp_lt (tgt := 23) J.1 J.2.1 d_CO_sentByte_16 (by decide) (fun c_3 => ?_) (fun c_3 => ?_)
      · replace h := g_t c_3 h
        refine lv_aload_n J.1 J.2.1 d_CO_sentByte_23 rfl (lv_at hl 0 rfl) ?_
        refine jg J hJ hP 0 rfl rfl i_CO 1 (by decide) gf_CO_15 rfl d_CO_sentByte_24 ?_
        refine lv_iload_n J.1 J.2.1 d_CO_sentByte_27 rfl (lv_at hl 1 rfl) ?_
        replace h := g_ck h
        obtain ⟨k_4, h⟩ := h
        refine jai J hJ hP 1 rfl k_4 d_CO_sentByte_28 ?_
        have h := Option.some.inj h
        rw [← h]
        exact jr_i J hS hP hD rfl d_CO_sentByte_29
      · replace h := g_f c_3 h
        refine lv_iconst (v := (-1)) J.1 J.2.1 d_CO_sentByte_19 (by decide) ?_
        refine lv_goto (tgt := 29) J.1 J.2.1 d_CO_sentByte_20 (by decide) ?_
        have h := Option.some.inj h
        rw [← h]
        exact jr_i J hS hP hD rfl d_CO_sentByte_29
