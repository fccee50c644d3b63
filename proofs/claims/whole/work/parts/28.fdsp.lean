section DSP
variable {S Sg bo' pc ba bo ti k c : Nat} {x0 x1 x2 x3 x4 w n : Nat} {X rg mm dk : Nat → Nat} {cs : mc_K}
theorem rn_imp {S : Nat} {Q Q' : mc_S → Prop} (h : ∀ s, Q s → Q' s) : ∀ (k c : Nat) (s : mc_S), rn S Q k c s → rn S Q' k c s := by
  intro k
  induction k with
  | zero => intro c s q; exact h s q
  | succ k ih =>
    intro c s q
    obtain ⟨h1, w, h2, h3, h4⟩ := q
    exact ⟨h1, w, h2, h3, ih _ _ h4⟩
theorem RN.imp {S : Nat} {Q Q' : mc_S → Prop} {k c : Nat} {s : mc_S} (h : ∀ s, Q s → Q' s) (q : RN S Q k c s) : RN S Q' k c s := by
  obtain ⟨j, h1, h2⟩ := q
  exact ⟨j, h1, rn_imp h _ _ _ h2⟩
/-- the real machine R is halted, and so is the guest G -/
def smH (Sg : Nat) (R G : mc_S) : Prop := match R, G with
  | (md', _, _, _, ti', ro', ha', rg', m, dk', cs'), (md, pc, ba, bo, ti, ro, ha, rg, mm, dk, cs) => md' = 0 ∧ ha' = true ∧ ha = true ∧ md = 0 ∧ ti' = 0 ∧ ro' = ro ∧ rg' = rg ∧ dk' = dk ∧ cs' = cs ∧ m 1 = pc ∧ smM Sg m 0 ba bo ti mm
def sx (Sg : Nat) (R G : mc_S) : Prop := sm Sg R G ∨ smH Sg R G
/-- HALT -/
theorem bl_180 (hS : 474 ≤ S ∧ S ≤ bo') (h : nxM Sg X pc ba bo ti mm rg) : RN S (fun R => smH Sg R (0, pc, ba, bo, ti, false, true, rg, mm, dk, cs)) (k + 6) (c + 205) (0, 180, 0, bo', 0, false, false, rf x0 x1 x2 x3 x4 (rg 5) (rg 6) (rg 7) rg, X, dk, cs) := by
  obtain ⟨h1, h2, h3, h4, h5, h6, h7, h8, h9, h10, h11, h12⟩ := h
  refine bb_180 hS h1 ?_
  refine RN.done ?_
  rw [h12 0 (by decide), h12 1 (by decide), h12 2 (by decide), h12 3 (by decide), h12 4 (by decide), rf_all]
  exact ⟨rfl, rfl, rfl, rfl, rfl, rfl, rfl, rfl, rfl, h2, h1, h3, h4, h5, fun _ => h6, h7, h8, h11⟩
/-- what a privileged instruction w n does in supervisor mode -/
def mc_sp (S w n pc ba bo ti : Nat) (rg mm dk : Nat → Nat) (cs : mc_K) : mc_S := if 0 < mc_ct (w / 64) ∧ ¬ mc_gd S ba bo (mc_ad (w / 64) (w % 8) n rg) then mc_trap 2 (mc_ad (w / 64) (w % 8) n rg) pc 0 ba bo ti false rg mm dk cs else if 0 < mc_ct (w / 64) ∧ ¬ mc_gd S ba bo (mc_ad (w / 64) (w % 8) n rg + mc_ct (w / 64) - 1) then mc_trap 2 (mc_rc S ba bo) pc 0 ba bo ti false rg mm dk cs else mc_pv (w / 64) (w / 8 % 8) (mc_ad (w / 64) (w % 8) n rg) 0 pc ba bo ti false rg mm dk cs
theorem bl_172 (hS : 474 ≤ S ∧ S ≤ bo') (hS2 : S ≤ 65535) (hSg : Sg + 410 = S) (h : nxM Sg X pc ba bo ti mm rg) (h9 : X 9 = w) (hop : (w / 64 = 0 ∨ 17 ≤ w / 64) ∧ w / 64 ≤ 24) (hb : ba < 65536) (hbo : bo < 65536) (hg : mc_gd Sg ba bo (pc + 1)) (hn : mm (ba + pc + 1) = n) (hn2 : n < 65536) (hr : ∀ j, rg j < 65536) : RN S (fun R => sx Sg R (mc_sp Sg w n pc ba bo ti rg mm dk cs)) (k + 103) (c + 1003) (0, 172, 0, bo', 0, false, false, rf x0 x1 x2 x3 x4 (rg 5) (rg 6) (rg 7) rg, X, dk, cs) := by
  have hp : pc + 2 < 65536 := by have := hg.1; omega
  have e22 : mc_sh (X 9) 22 = w / 64 := by rw [h9]; simp [mc_sh]
  have hc := h.1
  refine bb_172 hS hc (a176 := w / 64 + 370) (by rw [e22]; omega) (by omega) ?_
  have et : ∀ q v : Nat, w / 64 + 370 = q → mW.getD q 0 = v → q < 395 → X (w / 64 + 370) = v := fun q v h1 h2 h3 => by rw [h1, hc q (by omega), h2]
  have e : w / 64 = 0 ∨ w / 64 = 17 ∨ w / 64 = 18 ∨ w / 64 = 19 ∨ w / 64 = 20 ∨ w / 64 = 21 ∨ w / 64 = 22 ∨ w / 64 = 23 ∨ w / 64 = 24 := by omega
  unfold mc_sp
  rcases e with e | e | e | e | e | e | e | e | e
  · rw [et 370 180 (by omega) mw_370 (by omega), e]
    refine RN.imp (fun s q => Or.inr q) ?_
    exact RN.mono (k := 0 + 6) (c := 0 + 205) (by omega) (by omega) (bl_180 hS h)
  · rw [et 387 192 (by omega) mw_387 (by omega), e]
    refine RN.imp (fun s q => Or.inl q) (RN.mono (k := 0 + 83) (c := 0 + 983) (by omega) (by omega) ?_)
    have q := bl_192 (k := 0) (c := 0) (x0 := x0) (x1 := 192) (x2 := x2) (x3 := x3) (x4 := x4) (dk := dk) (cs := cs) hS hS2 hSg h hb hbo hg hn hn2
    refine RN.imp (fun s z => ?_) q
    simpa [mc_ct, mc_ad, mc_pv] using z
  · rw [et 388 202 (by omega) mw_388 (by omega), e]
    refine RN.imp (fun s q => Or.inl q) (RN.mono (k := 0 + 83) (c := 0 + 983) (by omega) (by omega) ?_)
    have q := bl_202 (k := 0) (c := 0) (x0 := x0) (x1 := 202) (x2 := x2) (x3 := x3) (x4 := x4) (dk := dk) (cs := cs) hS hS2 hSg h hb hbo hp hg hn hn2
    refine RN.imp (fun s z => ?_) q
    simpa [mc_ct, mc_ad, mc_pv] using z
  · rw [et 389 230 (by omega) mw_389 (by omega), e]
    refine RN.imp (fun s q => Or.inl q) ?_
    exact RN.mono (k := 0 + 23) (c := 0 + 222) (by omega) (by omega) (bl_230 hS h h9 hp)
  · rw [et 390 238 (by omega) mw_390 (by omega), e]
    refine RN.imp (fun s q => Or.inl q) ?_
    exact RN.mono (k := 0 + 27) (c := 0 + 226) (by omega) (by omega) (bl_238 hS h h9 hp)
  · rw [et 391 244 (by omega) mw_391 (by omega), e]
    refine RN.imp (fun s q => Or.inl q) ?_
    exact RN.mono (k := 0 + 26) (c := 0 + 424) (by omega) (by omega) (bl_244 hS h h9 hp)
  · rw [et 392 258 (by omega) mw_392 (by omega), e]
    refine RN.imp (fun s q => Or.inl q) ?_
    exact RN.mono (k := 0 + 23) (c := 0 + 421) (by omega) (by omega) (bl_258 hS h h9 hp)
  · rw [et 393 266 (by omega) mw_393 (by omega), e]
    refine RN.imp (fun s q => Or.inl q) (RN.mono (k := 0 + 99) (c := 0 + 999) (by omega) (by omega) ?_)
    have q := bl_266 (k := 0) (c := 0) (x0 := x0) (x1 := 266) (x2 := x2) (x3 := x3) (x4 := x4) (dk := dk) (cs := cs) (ad := (rg (w % 8) + n) % 65536) hS hS2 hSg h h9 rfl rfl hb hbo hp hg hn hn2 hr (by rw [Nat.add_comm])
    refine RN.imp (fun s z => ?_) q
    simpa [mc_ct, mc_ad, mc_pv] using z
  · rw [et 394 272 (by omega) mw_394 (by omega), e]
    refine RN.imp (fun s q => Or.inl q) (RN.mono (k := 0 + 99) (c := 0 + 999) (by omega) (by omega) ?_)
    have q := bl_272 (k := 0) (c := 0) (x0 := x0) (x1 := 272) (x2 := x2) (x3 := x3) (x4 := x4) (dk := dk) (cs := cs) (ad := (rg (w % 8) + n) % 65536) hS hS2 hSg h h9 rfl rfl hb hbo hp hg hn hn2 hr (by rw [Nat.add_comm])
    refine RN.imp (fun s z => ?_) q
    simpa [mc_ct, mc_ad, mc_pv] using z
end DSP
