/-! LOAD: what the class answers when the text is assembled -/
section LWH
theorem ldg_of {tl g Sg d n h : Nat} {l1 : Nat} {wW : Nat → Int32} {wN : Nat → Int32} {swd : Nat → Int32} {slb : Nat → Int64} {sla : Nat → Int32} {sul : Nat → Int64} {sua : Nat → Int32} {suL : Nat → Int32} {l9 : Nat} {lat : Int32} {len : Int32} {llb : Int64} {lor : Int32} {laa : Int32} {lbb : Int32} {lnu : Int32} {lwa : Int64} {ltx : Nat → Int32} {vmem : Nat → Int32} {vreg : Nat → Int32} {vblk : Nat → Int32} {ktyp : Nat → Int32} {ksen : Nat → Int32} {o_gsz : Int32} {o_gdp : Int32} {o_gst : Int32} {o_gsp : Int32} {o_vsz : Int32} {o_vmd : Int32} {o_vpc : Int32} {o_vba : Int32} {o_vbo : Int32} {o_vre : Int32} {o_vti : Int32} {o_vro : Int32} {o_vha : Int32} {o_vmem : Nat → Int32} {o_vreg : Nat → Int32} {o_vblk : Nat → Int32} {o_kold : Int32} {o_kwai : Int32} {o_ksnt : Int32} {o_ksen : Nat → Int32} {o_slc : Int32} {o_suc : Int32} {o_swd : Nat → Int32} {o_slb : Nat → Int64} {o_sla : Nat → Int32} {o_sul : Nat → Int64} {o_sua : Nat → Int32} {o_suL : Nat → Int32} {o_l9 : Nat} {o_lat : Int32} {o_len : Int32} {o_llb : Int64} {o_lor : Int32} {o_laa : Int32} {o_lbb : Int32} {o_lnu : Int32} {o_lwa : Int64} (htl : tl ≤ 3000) (hg : g < 3) (h1 : 64 ≤ Sg) (h2 : Sg ≤ 1024) (hd : d ≤ 2) (hn : n ≤ tl) (hA : f_AS_assemble l1 wN swd slb sla sul sua suL l9 lat len llb lor laa lbb lnu lwa ltx (nI n) (nI Sg) = some (nI h, nI 0, nI 0, o_slc, o_suc, o_swd, o_slb, o_sla, o_sul, o_sua, o_suL, o_l9, o_lat, o_len, o_llb, o_lor, o_laa, o_lbb, o_lnu, o_lwa)) (hB : f_GU_begin wW vmem vreg vblk ktyp ksen o_swd (nI h) (nI Sg) (nI d) = some (o_gsz, o_gdp, o_gst, o_gsp, o_vsz, o_vmd, o_vpc, o_vba, o_vbo, o_vre, o_vti, o_vro, o_vha, o_vmem, o_vreg, o_vblk, o_kold, o_kwai, o_ksnt, o_ksen)) : f_GT_loadg l1 wW wN (nI tl) swd slb sla sul sua suL l9 lat len llb lor laa lbb lnu lwa ltx vmem vreg vblk ktyp ksen (nI g) (nI Sg) (nI d) (nI n) = some (nI h, nI 0, nI 0, nI 0, nI h, nI 0, nI 0, o_slc, o_suc, o_swd, o_slb, o_sla, o_sul, o_sua, o_suL, o_l9, o_lat, o_len, o_llb, o_lor, o_laa, o_lbb, o_lnu, o_lwa, o_gsz, o_gdp, o_gst, o_gsp, o_vsz, o_vmd, o_vpc, o_vba, o_vbo, o_vre, o_vti, o_vro, o_vha, o_vmem, o_vreg, o_vblk, o_kold, o_kwai, o_ksnt, o_ksen) := by
  obtain ⟨c1, c2, c3, c4, c5, c6, c7⟩ := ld_okc htl hg h1 h2 hd hn
  have hc : ck (nI g) 3 := (ck_nI (by omega)).mpr hg
  unfold f_GT_loadg fl_124
  rw [c1, Option.bind_some, if_neg (show ¬ (1 : Int32) = 0 by decide), if_neg c2, if_pos c3, if_neg c4, if_neg c5, if_neg c6, if_pos c7, hA, Option.bind_some]
  dsimp only
  rw [if_pos (show nI 0 = (0 : Int32) from rfl), if_pos hc, if_pos hc, hB, Option.bind_some]
  dsimp only
  rw [if_pos hc, Option.bind_some]
  rfl
theorem ldn_of {tl g Sg d n h : Nat} {l1 : Nat} {wW : Nat → Int32} {wN : Nat → Int32} {swd : Nat → Int32} {slb : Nat → Int64} {sla : Nat → Int32} {sul : Nat → Int64} {sua : Nat → Int32} {suL : Nat → Int32} {l9 : Nat} {lat : Int32} {len : Int32} {llb : Int64} {lor : Int32} {laa : Int32} {lbb : Int32} {lnu : Int32} {lwa : Int64} {ltx : Nat → Int32} {o_gsz : Int32} {o_gdp : Int32} {o_gst : Int32} {o_gsp : Int32} {o_vsz : Int32} {o_vmd : Int32} {o_vpc : Int32} {o_vba : Int32} {o_vbo : Int32} {o_vre : Int32} {o_vti : Int32} {o_vro : Int32} {o_vha : Int32} {o_vmem : Nat → Int32} {o_vreg : Nat → Int32} {o_vblk : Nat → Int32} {o_kold : Int32} {o_kwai : Int32} {o_ksnt : Int32} {o_ksen : Nat → Int32} {o_slc : Int32} {o_suc : Int32} {o_swd : Nat → Int32} {o_slb : Nat → Int64} {o_sla : Nat → Int32} {o_sul : Nat → Int64} {o_sua : Nat → Int32} {o_suL : Nat → Int32} {o_l9 : Nat} {o_lat : Int32} {o_len : Int32} {o_llb : Int64} {o_lor : Int32} {o_laa : Int32} {o_lbb : Int32} {o_lnu : Int32} {o_lwa : Int64} (htl : tl ≤ 3000) (hg : g < 3) (h1 : 64 ≤ Sg) (h2 : Sg ≤ 1024) (hd : d ≤ 2) (hn : n ≤ tl) (hA : f_AS_assemble l1 wN swd slb sla sul sua suL l9 lat len llb lor laa lbb lnu lwa ltx (nI n) (nI Sg) = some (nI h, nI 0, nI 0, o_slc, o_suc, o_swd, o_slb, o_sla, o_sul, o_sua, o_suL, o_l9, o_lat, o_len, o_llb, o_lor, o_laa, o_lbb, o_lnu, o_lwa)) (hB : f_GU_begin wW (fun _ => 0) (fun _ => 0) (fun _ => 0) (fun _ => 0) (fun _ => 0) o_swd (nI h) (nI Sg) (nI d) = some (o_gsz, o_gdp, o_gst, o_gsp, o_vsz, o_vmd, o_vpc, o_vba, o_vbo, o_vre, o_vti, o_vro, o_vha, o_vmem, o_vreg, o_vblk, o_kold, o_kwai, o_ksnt, o_ksen)) : f_GT_loadn l1 wW wN (nI tl) swd slb sla sul sua suL l9 lat len llb lor laa lbb lnu lwa ltx (nI g) (nI Sg) (nI d) (nI n) = some (nI h, nI 0, nI 0, nI 0, nI h, nI 0, nI 0, o_slc, o_suc, o_swd, o_slb, o_sla, o_sul, o_sua, o_suL, o_l9, o_lat, o_len, o_llb, o_lor, o_laa, o_lbb, o_lnu, o_lwa, o_gsz, o_gdp, o_gst, o_gsp, o_vsz, o_vmd, o_vpc, o_vba, o_vbo, o_vre, o_vti, o_vro, o_vha, o_vmem, o_vreg, o_vblk, o_kold, o_kwai, o_ksnt, o_ksen) := by
  obtain ⟨c1, c2, c3, c4, c5, c6, c7⟩ := ld_okc htl hg h1 h2 hd hn
  have hc : ck (nI g) 3 := (ck_nI (by omega)).mpr hg
  unfold f_GT_loadn fl_124
  rw [c1, Option.bind_some, if_neg (show ¬ (1 : Int32) = 0 by decide), if_neg c2, if_pos c3, if_neg c4, if_neg c5, if_neg c6, if_pos c7, hA, Option.bind_some]
  dsimp only
  rw [if_pos (show nI 0 = (0 : Int32) from rfl), if_pos hc, hB, Option.bind_some]
  dsimp only
  rw [if_pos hc, Option.bind_some]
  rfl
theorem lda_of {tl g Sg d n h f fl : Nat} {l1 : Nat} {wN : Nat → Int32} {hlf : Int32} {hll : Int32} {shr : Int32} {sft : Int32} {sfl : Int32} {slc : Int32} {suc : Int32} {swd : Nat → Int32} {slb : Nat → Int64} {sla : Nat → Int32} {sul : Nat → Int64} {sua : Nat → Int32} {suL : Nat → Int32} {l9 : Nat} {lat : Int32} {len : Int32} {llb : Int64} {lor : Int32} {laa : Int32} {lbb : Int32} {lnu : Int32} {lwa : Int64} {ltx : Nat → Int32} {o_slc : Int32} {o_suc : Int32} {o_swd : Nat → Int32} {o_slb : Nat → Int64} {o_sla : Nat → Int32} {o_sul : Nat → Int64} {o_sua : Nat → Int32} {o_suL : Nat → Int32} {o_l9 : Nat} {o_lat : Int32} {o_len : Int32} {o_llb : Int64} {o_lor : Int32} {o_laa : Int32} {o_lbb : Int32} {o_lnu : Int32} {o_lwa : Int64} (htl : tl ≤ 3000) (hg : g < 3) (h1 : 64 ≤ Sg) (h2 : Sg ≤ 1024) (hd : d ≤ 2) (hn : n ≤ tl) (hf : ¬ f = 0) (hf5 : f ≤ 5) (hA : f_AS_assemble l1 wN swd slb sla sul sua suL l9 lat len llb lor laa lbb lnu lwa ltx (nI n) (nI Sg) = some (nI h, nI f, nI fl, o_slc, o_suc, o_swd, o_slb, o_sla, o_sul, o_sua, o_suL, o_l9, o_lat, o_len, o_llb, o_lor, o_laa, o_lbb, o_lnu, o_lwa)) : f_GT_loada l1 wN (nI tl) hlf hll shr sft sfl slc suc swd slb sla sul sua suL l9 lat len llb lor laa lbb lnu lwa ltx (nI g) (nI Sg) (nI d) (nI n) = some (-1, nI 0, nI f, nI fl, nI h, nI f, nI fl, o_slc, o_suc, o_swd, o_slb, o_sla, o_sul, o_sua, o_suL, o_l9, o_lat, o_len, o_llb, o_lor, o_laa, o_lbb, o_lnu, o_lwa) := by
  obtain ⟨c1, c2, c3, c4, c5, c6, c7⟩ := ld_okc htl hg h1 h2 hd hn
  unfold f_GT_loada
  rw [c1, Option.bind_some, if_neg (show ¬ (1 : Int32) = 0 by decide), if_neg c2, if_pos c3, if_neg c4, if_neg c5, if_neg c6, if_pos c7, hA, Option.bind_some]
  dsimp only
  rw [if_neg (show ¬ nI f = (0 : Int32) from fun q => hf ((nIe_0 (by omega)).mp q))]
  rfl
/-- the relation behind a load that went well -/
theorem ld_rel {E : jz_E} {k g tl : Nat} {T : Nat → Nat} {hlf hll : Int32} {hgs hgs' : Nat → Option Nat} {W W' : Nat → Nat} {zs zs' : Nat → Int32} {za za' : Nat → Nat → Int32} {GC : Nat → va_W} {C : va_W} (h : Rel E k tl T hlf hll hgs W zs za GC) (hW : ∀ i, W' i < 65536) (z0 : zs' 0 = nI 0) (z5 : zs' 5 = nI 0) (z6 : zs' 6 = nI 0) (z7 : zs' 7 = 1) (a1 : za' 1 = za 1) (a20 : za' 20 = za 20) (hh : ∀ h, h ≠ g → hgs' h = hgs h) (f2 : fs g (za 2) (za' 2)) (f3 : fs g (za 3) (za' 3)) (f4 : fs g (za 4) (za' 4)) (f14 : fs g (za 14) (za' 14)) (hF : mF g (mB za) (mB za')) (hP : RelP E (k + 1) g hgs' za' C) : Rel E (k + 1) 0 T (nI 0) (nI 0) hgs' W' zs' za' (up1 GC g C) := by
  obtain ⟨h1, h2, h3, h4, h5, h6, h7, h8⟩ := h
  refine ⟨Nat.zero_le _, h2, by rw [a1]; exact h3, z0, Or.inr ⟨z7, z5.symm, z6.symm⟩, hW, by rw [a20]; exact h7, fun h hh0 => ?_⟩
  by_cases e : h = g
  · subst e
    have : up1 GC h C h = C := if_pos rfl
    rw [this]
    exact Or.inr hP
  · have : up1 GC g C h = GC h := if_neg e
    rw [this]
    exact RelG_k (RelG_f e (hh h e) f2 f3 f4 f14 hF (h8 h hh0))
theorem hd_GT_load : y_GT_load.cls ≠ "java/lang/invoke/MethodHandle" ∧ y_GT_load.cls ≠ "java/lang/invoke/VarHandle" ∧ (parseMethodDescriptor y_GT_load.desc).map (fun d => d.parameters.length) = some 4 := by decide +kernel
end LWH
