/-! LOAD: class and Model -/
section ASK
variable {T : Nat → Nat} {z zw wN : Nat → Int32} {e most l1 : Nat}
variable {ztp zen zlb zf zfl zit zms zg zv zvf zvs x1 x2 x3 : Int32} {zth zsz zdp zmem zreg zmd zpc zba zbo zti zro zha zst zou zwa zdk lF lS lA : Nat → Int32}
theorem m_lz : ∀ (r i u : Nat) (md : Nat → Int32), i + r = 1024 → r < u → (∀ j, j < i → md j = nI 0) → ∃ (md' : Nat → Int32) (u' : Nat), (∀ j, j < 1024 → md' j = nI 0) ∧ b_MD_load_86 u ztp zen zlb zf zfl zit zms zg zv zvf zvs z zth zsz zdp zmem zreg zmd zpc zba zbo zti zro zha zst zou zwa zdk zw lF lS lA md x1 x2 x3 (nI i) = b_MD_load_86 (u' + 1) ztp zen zlb zf zfl zit zms zg zv zvf zvs z zth zsz zdp zmem zreg zmd zpc zba zbo zti zro zha zst zou zwa zdk zw lF lS lA md' x1 x2 x3 1024 := by
  intro r
  induction r with
  | zero =>
    intro i u md h1 h2 h3
    obtain ⟨u, rfl⟩ : ∃ m, u = m + 1 := ⟨u - 1, by omega⟩
    have e : i = 1024 := by omega
    subst e
    refine ⟨md, u, h3, ?_⟩
    rw [show nI 1024 = (1024 : Int32) from rfl]
  | succ r ih =>
    intro i u md h1 h2 h3
    obtain ⟨u, rfl⟩ : ∃ m, u = m + 1 := ⟨u - 1, by omega⟩
    obtain ⟨md', u', k1, k2⟩ := ih (i + 1) u (upd md i (nI 0)) (by omega) (by omega) (fun j hj => by
      by_cases q : j = i
      · subst q; rw [pk_us]
      · rw [pk_un q]; exact h3 j (by omega))
    refine ⟨md', u', k1, ?_⟩
    rw [← k2, b_MD_load_86, if_neg (fun q => by have := (nIn_1024 (by omega)).mp q; omega), if_pos ((ck_nI (by omega)).mpr (by omega)), nI_clamp (by omega), nI_1, show nI 0 = (0 : Int32) from rfl]
theorem mdL_0 {g v vf vs x2 : Int32} {md : Nat → Int32} : f_MD_lines (nI e) 0 0 0 0 g v vf vs z zw lF lS lA md (nI most) x2 = mdL 65536 x2 z zw e most 0 0 0 0 0 0 0 (g, v, vf, vs) lF lS lA md := by
  unfold f_MD_lines mdL
  dsimp only
  rw [show nI 0 = (0 : Int32) from rfl]
theorem mdL_1 {g v vf vs x2 : Int32} {lc : Nat} {md : Nat → Int32} : f_MD_lines (nI e) (nI lc) 0 0 0 g v vf vs z zw lF lS lA md (nI most) x2 = mdL 65536 x2 z zw e most 0 0 0 0 lc 0 0 (g, v, vf, vs) lF lS lA md := by
  unfold f_MD_lines mdL
  dsimp only
  rw [show nI 0 = (0 : Int32) from rfl]
theorem ld_both {g d tl l9 : Nat} {W : Nat → Nat} {slb sul : Nat → Int64} {sla sua suL : Nat → Int32} {lat len lor laa lbb lnu zat zln zad : Int32} {llb lwa : Int64} {md : Nat → Int32} (hT : ∀ i, T i < 256) (hz : tp z T) (hW : ∀ o, o < 28 → wN o = nI (wnt o)) (hZ : ∀ o, o < 25 → zw o = nI (wnt o)) (hg : g < 3) (h64 : 64 ≤ most) (hm : most ≤ 1024) (hd : d ≤ 2) (he : e ≤ tl) (htl : tl ≤ 3000) (hw : ∀ i, W i < 65536) : (∃ f fl h W', ¬ f = 0 ∧ f ≤ 5 ∧ (∀ i, W' i < 65536) ∧ asR l1 l9 (f_AS_assemble l1 wN (nf W) slb sla sul sua suL l9 lat len llb lor laa lbb lnu lwa (nf T) (nI e) (nI most)) h f fl W' ∧ ∃ a y8 y1 y2 y3 y4 y5 y6 y7 y10 y11 y12 y13, f_MD_load (nI tl) zat zen zln zlb zf zfl zit zad zms zg zv zvf zvs z zth zsz zdp zmem zreg zmd zpc zba zbo zti zro zha zst zou zwa zdk zw lF lS lA md (nI g) (nI most) (nI d) (nI e) = some (-1, 0, y1, nI e, y2, y3, nI f, nI fl, 1, a, y8, y4, y5, y6, y7, zth, zsz, zdp, zmem, zreg, zmd, zpc, zba, zbo, zti, zro, zha, zst, zou, zwa, zdk, y10, y11, y12, y13)) ∨ (∃ h W', h ≤ most ∧ (∀ i, W' i < 65536) ∧ asR l1 l9 (f_AS_assemble l1 wN (nf W) slb sla sul sua suL l9 lat len llb lor laa lbb lnu lwa (nf T) (nI e) (nI most)) h 0 0 W' ∧ ∃ (md' : Nat → Int32) (y1 y2 y3 y4 y5 y6 y7 : Int32) (y10 y11 y12 : Nat → Int32), (∀ j, j < 1024 → md' j = nI (if j < h then W' j else 0)) ∧ f_MD_load (nI tl) zat zen zln zlb zf zfl zit zad zms zg zv zvf zvs z zth zsz zdp zmem zreg zmd zpc zba zbo zti zro zha zst zou zwa zdk zw lF lS lA md (nI g) (nI most) (nI d) (nI e) = (f_MD_begin zth zsz zdp zmem zreg zmd zpc zba zbo zti zro zha zst zou zwa zdk md' (nI g) (nI most) (nI d)).bind fun x => match x with | (w1, w2, w3, w4, w5, w6, w7, w8, w9, w10, w11, w12, w13, w14, w15, w16) => some (nI h, (0 : Int32), y1, nI e, y2, y3, (0 : Int32), (0 : Int32), (1 : Int32), nI h, (0 : Int32), y4, y5, y6, y7, w1, w2, w3, w4, w5, w6, w7, w8, w9, w10, w11, w12, w13, w14, w15, w16, y10, y11, y12, md')) := by
  have n0 : nI 0 = (0 : Int32) := rfl
  -- the loop that clears
  obtain ⟨md0, u0, z1, z2⟩ := m_lz (ztp := 0) (zen := nI e) (zlb := 0) (zf := 0) (zfl := 0) (zit := 1) (zms := 0) (zg := zg) (zv := zv) (zvf := zvf) (zvs := zvs) (z := z) (zw := zw) (zth := zth) (zsz := zsz) (zdp := zdp) (zmem := zmem) (zreg := zreg) (zmd := zmd) (zpc := zpc) (zba := zba) (zbo := zbo) (zti := zti) (zro := zro) (zha := zha) (zst := zst) (zou := zou) (zwa := zwa) (zdk := zdk) (lF := lF) (lS := lS) (lA := lA) (x1 := nI g) (x2 := nI most) (x3 := nI d) 1024 0 65536 md (by omega) (by omega) (fun j hj => by omega)
  rw [n0] at z2
  have E1 : f_MD_load (nI tl) zat zen zln zlb zf zfl zit zad zms zg zv zvf zvs z zth zsz zdp zmem zreg zmd zpc zba zbo zti zro zha zst zou zwa zdk zw lF lS lA md (nI g) (nI most) (nI d) (nI e) = b_MD_load_86 65536 0 (nI e) 0 0 0 1 0 zg zv zvf zvs z zth zsz zdp zmem zreg zmd zpc zba zbo zti zro zha zst zou zwa zdk zw lF lS lA md (nI g) (nI most) (nI d) 0 := by
    unfold f_MD_load
    rw [in1 (nI_pos (by omega)) (fun q => by have := (nIg_k (k := 2) (x := (2 : Int32)) (by decide) (by omega) rfl).mp q; omega), Option.bind_some, if_neg (show ¬ (1 : Int32) = 0 by decide), in1 (fun q => by have := (nIl_64 (by omega)).mp q; omega) (fun q => by have := (nIg_k (k := 1024) (x := (1024 : Int32)) (by decide) (by omega) rfl).mp q; omega), Option.bind_some, if_neg (show ¬ (1 : Int32) = 0 by decide), in1 (nI_pos (by omega)) (fun q => by have := (nIg_k (k := 2) (x := (2 : Int32)) (by decide) (by omega) rfl).mp q; omega), Option.bind_some, if_neg (show ¬ (1 : Int32) = 0 by decide), if_neg (nI_pos (by omega)), if_pos ((nI_leI (by omega) (by omega)).mpr he)]
  rw [E1, z2, b_MD_load_86, if_pos (show (1024 : Int32) ≤ 1024 by decide), mdL_0]
  have E2 : f_AS_assemble l1 wN (nf W) slb sla sul sua suL l9 lat len llb lor laa lbb lnu lwa (nf T) (nI e) (nI most) = clL l1 65536 wN T e most 0 0 (0, (0, (fun _ => 0), (fun _ => 0), (fun _ => 0)), (0, (fun _ => 0), (fun _ => 0), (fun _ => 0), (fun _ => 0)), W) (slb, sla, sul, sua, suL) l9 (lat, len, llb, lor, laa, lbb, lnu, lwa) := by
    unfold f_AS_assemble clL
    dsimp only
    rw [n0, show nI (0 + 1) = (1 : Int32) from rfl]
  rw [E2]
  have hI0 : aI T most (0, (0, (fun _ => 0), (fun _ => 0), (fun _ => 0)), (0, (fun _ => 0), (fun _ => 0), (fun _ => 0), (fun _ => 0)), W) := ⟨by omega, ⟨by omega, fun k hk => by omega⟩, by omega, fun i hi => by omega, hw⟩
  have hC0 : aC T (0, (0, (fun _ => 0), (fun _ => 0), (fun _ => 0)), (0, (fun _ => 0), (fun _ => 0), (fun _ => 0), (fun _ => 0)), W) (slb, sla, sul, sua, suL) := ⟨fun k hk => by omega, fun i hi => by omega⟩
  have hM0 : aM (0, (0, (fun _ => 0), (fun _ => 0), (fun _ => 0)), (0, (fun _ => 0), (fun _ => 0), (fun _ => 0), (fun _ => 0)), W) lF lS lA := fun k hk => by omega
  rcases as_loop (T := T) (z := z) (zw := zw) (wN := wN) (l1 := l1) (zf := 0) (zfl := 0) hT hz hW hZ (show e ≤ 3000 by omega) hm 3001 0 0 65536 65536 _ _ l9 (lat, len, llb, lor, laa, lbb, lnu, lwa) 0 (zg, zv, zvf, zvs) lF lS lA md0 (by omega) (by omega) (by omega) (by omega) (by omega) hI0 hC0 hM0 with ⟨f, fl, h', W', k1, k2, k3, k4, k5, y1, y2, y3, y4, y5, y6, y7, y8, y9, y10, y11, y12, y13, k6⟩ | ⟨s', A', l9', R', lF', lS', lA', k1, k2, k3, k4, k5, ⟨y1, y2, y3, y4, y5, y6, k6⟩, k7⟩
  · left
    refine ⟨f, fl, h', W', k1, by omega, k4, k5, ?_⟩
    have k6' : mdL 65536 0 z zw e most 0 0 0 0 0 0 0 (zg, zv, zvf, zvs) lF lS lA md0 = some (0, y1, y2, y3, nI f, nI fl, y4, y5, y6, y7, y8, y9, y10, y11, y12, y13) := k6
    rw [k6', Option.bind_some]
    exact ⟨y4, y5, y1, y2, y3, y6, y7, y8, y9, y10, y11, y12, y13, if_pos rfl⟩
  · obtain ⟨h, ⟨lc, LF, LS, LA⟩, ⟨uc, UF, US, UA, UL⟩, W'⟩ := s'
    have k1' := k1
    obtain ⟨i1, i2, i4, i5, i6⟩ := k1
    have k6' : mdL 65536 0 z zw e most 0 0 0 0 0 0 0 (zg, zv, zvf, zvs) lF lS lA md0 = some (1, y1, y2, nI lc, 0, 0, nI h, 0, y3, y4, y5, y6, lF', lS', lA', md0) := k6
    rw [k6', Option.bind_some]
    dsimp only
    rw [if_neg (show ¬ (1 : Int32) = 0 by decide), mdL_1]
    have A0 : a2 T (lc, LF, LS, LA) (0, (0, (fun _ => 0), (fun _ => 0), (fun _ => 0)), (0, (fun _ => 0), (fun _ => 0), (fun _ => 0), (fun _ => 0)), W) 0 md0 := ⟨rfl, fun _ j hj => by rw [if_neg (by omega)]; exact z1 j hj⟩
    obtain ⟨ms, md2, ⟨b1, b2⟩, v1, v2, v3, v4, v5, v6, b3⟩ := k7 (lc, LF, LS, LA) lF' lS' lA' md0 0 65536 (y3, y4, y5, y6) 0 0 i2 k3 (by omega) A0
    have b3' : mdL 65536 1 z zw e most 0 0 0 0 lc 0 0 (y3, y4, y5, y6) lF' lS' lA' md0 = some (1, v1, v2, nI lc, 0, 0, nI h, nI ms, v3, v4, v5, v6, lF', lS', lA', md2) := b3
    rw [b3', Option.bind_some]
    dsimp only
    have hms : ms < 2 ^ 31 := by
      rw [b1]
      exact Ms_lt uc fun i hi => (i5 i hi).2.2.2.2
    rw [if_neg (show ¬ (1 : Int32) = 0 by decide), ic (nIm_0 hms)]
    have F := q_fus (T := T) hm k1' k2
    obtain ⟨slb', sla', sul', sua', suL'⟩ := A'
    obtain ⟨lat', len', llb', lor', laa', lbb', lnu', lwa'⟩ := R'
    dsimp only at F
    have F0 := F uc 0 65536 (by omega) (by omega) rfl
    rw [n0] at F0
    have K5 : clF (h, (lc, LF, LS, LA), (uc, UF, US, UA, UL), W') (slb', sla', sul', sua', suL') l9' (lat', len', llb', lor', laa', lbb', lnu', lwa') = (f_AS_fillUses 0 0 (nI lc) (nI uc) (nf W') slb' sla' sul' sua' suL').bind fun (x, y, w) => some (nI h, x, y, nI lc, nI uc, w, slb', sla', sul', sua', suL', l9', lat', len', llb', lor', laa', lbb', lnu', lwa') := rfl
    rcases F0 with ⟨f1, f2⟩ | ⟨f1, j, f2⟩
    · have f2' : f_AS_fillUses 0 0 (nI lc) (nI uc) (nf W') slb' sla' sul' sua' suL' = some (0, 0, nf (Fw W' UA (fun i => LA (fnd T LF LS lc (UF i) (US i))) uc)) := f2
      have m0 : ms = 0 := b1.trans f1
      right
      refine ⟨h, Fw W' UA (fun i => LA (fnd T LF LS lc (UF i) (US i))) uc, i1, Fw_lt i6 uc, ?_, md2, v1, v2, nI lc, v3, v4, v5, v6, lF', lS', lA', b2 m0, ?_⟩
      · rw [k5, K5, f2', Option.bind_some]
        exact ⟨_, _, _, _, _, _, _, _, _, _, _, _, _, _, _, _, rfl, k4⟩
      · rw [if_pos (by omega), m0, n0]
    · have f2' : f_AS_fillUses 0 0 (nI lc) (nI uc) (nf W') slb' sla' sul' sua' suL' = some (5, nI (Ms (fun i => decide (fnd T LF LS lc (UF i) (US i) < lc)) UL uc), nf (Fw W' UA (fun i => LA (fnd T LF LS lc (UF i) (US i))) j)) := f2
      have m1 : ms = Ms (fun i => decide (fnd T LF LS lc (UF i) (US i) < lc)) UL uc := b1
      left
      refine ⟨5, ms, h, Fw W' UA (fun i => LA (fnd T LF LS lc (UF i) (US i))) j, by omega, by omega, Fw_lt i6 j, ?_, ?_⟩
      · rw [k5, K5, f2', Option.bind_some, m1]
        exact ⟨_, _, _, _, _, _, _, _, _, _, _, _, _, _, _, _, rfl, k4⟩
      · rw [if_neg (by omega)]
        exact ⟨nI h, nI ms, v1, v2, nI lc, v3, v4, v5, v6, lF', lS', lA', md2, rfl⟩
end ASK
