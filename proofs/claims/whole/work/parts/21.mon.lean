/-! THE MONITOR (mine): its words, runs of it with a budget, a row an instruction -/
section MON
def mW : List Nat := [0, 0, 0, 0, 0, 36, 0, 65535, 0, 0, 0, 0, 0, 0, 0, 0, 1152, 0, 128, 3, 72, 410, 513, 0, 192, 403, 192, 12, 192, 409, 64, 0, 72, 0, 1088, 406, 192, 395, 200, 396, 208, 397, 216, 398, 224, 399, 128, 10, 832, 162, 192, 410, 136, 1, 200, 411, 136, 11, 200, 412, 136, 12, 200, 413, 136, 8, 200, 418, 136, 9, 200, 419, 72, 414, 273, 1, 208, 407, 273, 2, 208, 11, 281, 3, 216, 12, 265, 0, 96, 410, 482, 0, 224, 408, 160, 403, 660, 0, 848, 134, 144, 11, 546, 0, 404, 0, 659, 0, 848, 112, 412, 0, 216, 409, 840, 146, 72, 1, 200, 10, 832, 138, 128, 395, 136, 396, 144, 397, 152, 398, 160, 399, 1088, 406, 88, 0, 768, 112, 136, 13, 840, 122, 1224, 0, 768, 122, 200, 10, 832, 122, 1288, 0, 200, 13, 840, 122, 72, 0, 1224, 0, 768, 122, 136, 8, 80, 1, 522, 0, 840, 172, 768, 50, 136, 9, 712, 22, 265, 370, 904, 0, 128, 395, 136, 396, 144, 397, 152, 398, 160, 399, 0, 0, 80, 0, 96, 3, 984, 328, 64, 0, 768, 74, 80, 0, 96, 3, 984, 328, 80, 0, 337, 0, 144, 1, 88, 2, 467, 0, 337, 1, 144, 11, 337, 2, 144, 12, 337, 3, 768, 276, 984, 286, 273, 395, 208, 13, 768, 276, 984, 286, 144, 13, 768, 248, 984, 286, 1360, 0, 337, 395, 168, 400, 176, 401, 184, 402, 768, 276, 984, 286, 273, 395, 1424, 0, 768, 276, 984, 302, 1489, 0, 768, 276, 984, 302, 1553, 0, 136, 1, 80, 2, 458, 0, 200, 407, 768, 122, 232, 400, 240, 401, 248, 402, 136, 9, 712, 19, 80, 7, 586, 0, 920, 0, 216, 404, 984, 286, 273, 395, 208, 405, 144, 9, 96, 7, 596, 0, 274, 395, 96, 15, 984, 328, 144, 405, 152, 404, 920, 0, 136, 408, 128, 1, 456, 0, 265, 1, 458, 0, 144, 409, 385, 0, 642, 0, 832, 360, 481, 0, 674, 0, 864, 358, 144, 408, 458, 0, 920, 0, 394, 0, 200, 9, 72, 2, 200, 8, 64, 0, 768, 50, 180, 0, 0, 0, 0, 0, 0, 0, 0, 0, 0, 0, 0, 0, 0, 0, 0, 192, 202, 230, 238, 244, 258, 266, 272, 0, 0, 0, 0, 0, 0, 0, 0, 0, 0, 0, 1, 16, 410, 0]
def mcode (m : Nat → Nat) : Prop := ∀ a, (4 ≤ a ∧ a < 8 ∨ 16 ≤ a ∧ a < 395) → m a = mW.getD a 0
theorem mcode_mu {m : Nat → Nat} {a x : Nat} (h : mcode m) (ha : ¬ (4 ≤ a ∧ a < 8 ∨ 16 ≤ a ∧ a < 395)) : mcode (mu m a x) := by
  intro j hj
  have hne : j ≠ a := fun e => ha (e ▸ hj)
  rw [mu_n _ _ hne]
  exact h j hj
/-- ordinary: an operation 1 to 15 that does not trap, in supervisor mode -/
def mc_or (S : Nat) (s : mc_S) : Prop := match s with
  | (md, pc, ba, bo, _, _, _, rg, mm, _, _) => md = 0 ∧ mc_gd S ba bo pc ∧ mc_gd S ba bo (pc + 1) ∧ 1 ≤ mm (ba + pc) / 64 ∧ mm (ba + pc) / 64 ≤ 15 ∧ (2 ≤ mm (ba + pc) / 64 ∧ mm (ba + pc) / 64 ≤ 5 → mc_gd S ba bo (mc_ad (mm (ba + pc) / 64) (mm (ba + pc) % 8) (mm (ba + pc + 1)) rg))
def mc_sup (s : mc_S) : Prop := s.1 = 0 ∧ s.2.2.2.2.2.2.1 = false
/-- k steps, all of a supervisor that is not halted; an ordinary one costs 1, another 200 -/
def rn (S : Nat) (Q : mc_S → Prop) : Nat → Nat → mc_S → Prop
  | 0, _, s => Q s
  | k + 1, c, s => mc_sup s ∧ ∃ w, w ≤ c ∧ (mc_or S s ∧ w = 1 ∨ w = 200) ∧ rn S Q k (c - w) (mc_step S s)
theorem rn_mono {S : Nat} {Q : mc_S → Prop} : ∀ (k c c' : Nat) (s : mc_S), c ≤ c' → rn S Q k c s → rn S Q k c' s := by
  intro k
  induction k with
  | zero => intro c c' s _ h; exact h
  | succ k ih =>
    intro c c' s hc h
    obtain ⟨h1, w, h2, h3, h4⟩ := h
    exact ⟨h1, w, by omega, h3, ih _ _ _ (by omega) h4⟩
def RN (S : Nat) (Q : mc_S → Prop) (k c : Nat) (s : mc_S) : Prop := ∃ j, j ≤ k ∧ rn S Q j c s
theorem RN.done {S : Nat} {Q : mc_S → Prop} {k c : Nat} {s : mc_S} (h : Q s) : RN S Q k c s := ⟨0, Nat.zero_le _, h⟩
theorem RN.mono {S : Nat} {Q : mc_S → Prop} {k c k' c' : Nat} {s : mc_S} (hk : k ≤ k') (hc : c ≤ c') (h : RN S Q k c s) : RN S Q k' c' s := by
  obtain ⟨j, h1, h2⟩ := h
  exact ⟨j, by omega, rn_mono _ _ _ _ hc h2⟩
theorem RN.ord {S : Nat} {Q : mc_S → Prop} {k c : Nat} {s s' : mc_S} (h1 : mc_sup s) (h2 : mc_or S s) (h3 : mc_step S s = s') (h : RN S Q k c s') : RN S Q (k + 1) (c + 1) s := by
  obtain ⟨j, h4, h5⟩ := h
  subst h3
  exact ⟨j + 1, by omega, h1, 1, by omega, Or.inl ⟨h2, rfl⟩, by simpa using h5⟩
theorem RN.prv {S : Nat} {Q : mc_S → Prop} {k c : Nat} {s s' : mc_S} (h1 : mc_sup s) (h3 : mc_step S s = s') (h : RN S Q k c s') : RN S Q (k + 1) (c + 200) s := by
  obtain ⟨j, h4, h5⟩ := h
  subst h3
  exact ⟨j + 1, by omega, h1, 200, by omega, Or.inr rfl, by simpa using h5⟩
/-- the registers, named -/
def rf (r0 r1 r2 r3 r4 r5 r6 r7 : Nat) (g : Nat → Nat) : Nat → Nat := fun j => match j with
  | 0 => r0
  | 1 => r1
  | 2 => r2
  | 3 => r3
  | 4 => r4
  | 5 => r5
  | 6 => r6
  | 7 => r7
  | j + 8 => g (j + 8)
variable {r0 r1 r2 r3 r4 r5 r6 r7 : Nat} {g : Nat → Nat}
theorem rf_all (g : Nat → Nat) : rf (g 0) (g 1) (g 2) (g 3) (g 4) (g 5) (g 6) (g 7) g = g := by
  funext j
  match j with
  | 0 => rfl
  | 1 => rfl
  | 2 => rfl
  | 3 => rfl
  | 4 => rfl
  | 5 => rfl
  | 6 => rfl
  | 7 => rfl
  | j + 8 => rfl
theorem rf_m0 {x : Nat} : mu (rf r0 r1 r2 r3 r4 r5 r6 r7 g) 0 x = rf x r1 r2 r3 r4 r5 r6 r7 g := by
  funext j
  match j with
  | 0 => rfl
  | 1 => rfl
  | 2 => rfl
  | 3 => rfl
  | 4 => rfl
  | 5 => rfl
  | 6 => rfl
  | 7 => rfl
  | j + 8 => simp [mu, rf]
theorem rf_m1 {x : Nat} : mu (rf r0 r1 r2 r3 r4 r5 r6 r7 g) 1 x = rf r0 x r2 r3 r4 r5 r6 r7 g := by
  funext j
  match j with
  | 0 => rfl
  | 1 => rfl
  | 2 => rfl
  | 3 => rfl
  | 4 => rfl
  | 5 => rfl
  | 6 => rfl
  | 7 => rfl
  | j + 8 => simp [mu, rf]
theorem rf_m2 {x : Nat} : mu (rf r0 r1 r2 r3 r4 r5 r6 r7 g) 2 x = rf r0 r1 x r3 r4 r5 r6 r7 g := by
  funext j
  match j with
  | 0 => rfl
  | 1 => rfl
  | 2 => rfl
  | 3 => rfl
  | 4 => rfl
  | 5 => rfl
  | 6 => rfl
  | 7 => rfl
  | j + 8 => simp [mu, rf]
theorem rf_m3 {x : Nat} : mu (rf r0 r1 r2 r3 r4 r5 r6 r7 g) 3 x = rf r0 r1 r2 x r4 r5 r6 r7 g := by
  funext j
  match j with
  | 0 => rfl
  | 1 => rfl
  | 2 => rfl
  | 3 => rfl
  | 4 => rfl
  | 5 => rfl
  | 6 => rfl
  | 7 => rfl
  | j + 8 => simp [mu, rf]
theorem rf_m4 {x : Nat} : mu (rf r0 r1 r2 r3 r4 r5 r6 r7 g) 4 x = rf r0 r1 r2 r3 x r5 r6 r7 g := by
  funext j
  match j with
  | 0 => rfl
  | 1 => rfl
  | 2 => rfl
  | 3 => rfl
  | 4 => rfl
  | 5 => rfl
  | 6 => rfl
  | 7 => rfl
  | j + 8 => simp [mu, rf]
theorem rf_m5 {x : Nat} : mu (rf r0 r1 r2 r3 r4 r5 r6 r7 g) 5 x = rf r0 r1 r2 r3 r4 x r6 r7 g := by
  funext j
  match j with
  | 0 => rfl
  | 1 => rfl
  | 2 => rfl
  | 3 => rfl
  | 4 => rfl
  | 5 => rfl
  | 6 => rfl
  | 7 => rfl
  | j + 8 => simp [mu, rf]
theorem rf_m6 {x : Nat} : mu (rf r0 r1 r2 r3 r4 r5 r6 r7 g) 6 x = rf r0 r1 r2 r3 r4 r5 x r7 g := by
  funext j
  match j with
  | 0 => rfl
  | 1 => rfl
  | 2 => rfl
  | 3 => rfl
  | 4 => rfl
  | 5 => rfl
  | 6 => rfl
  | 7 => rfl
  | j + 8 => simp [mu, rf]
theorem rf_m7 {x : Nat} : mu (rf r0 r1 r2 r3 r4 r5 r6 r7 g) 7 x = rf r0 r1 r2 r3 r4 r5 r6 x g := by
  funext j
  match j with
  | 0 => rfl
  | 1 => rfl
  | 2 => rfl
  | 3 => rfl
  | 4 => rfl
  | 5 => rfl
  | 6 => rfl
  | 7 => rfl
  | j + 8 => simp [mu, rf]
variable {S k c pc bo ti w n : Nat} {Q : mc_S → Prop} {ro : Bool} {rg rg' m dk : Nat → Nat} {cs : mc_K}
theorem mo_step (hS : 474 ≤ S ∧ S ≤ bo) (hc : mcode m) (hp : 16 ≤ pc ∧ pc + 1 < 395) (hw : mW.getD pc 0 = w) (hn : mW.getD (pc + 1) 0 = n) : mc_step S (0, pc, 0, bo, ti, ro, false, rg, m, dk, cs) = mc_ex S w n 0 pc 0 bo ti ro rg m dk cs ∧ m (0 + pc) = w ∧ m (0 + pc + 1) = n ∧ mc_gd S 0 bo pc ∧ mc_gd S 0 bo (pc + 1) := by
  have e1 : m (0 + pc) = w := by rw [Nat.zero_add, hc pc (by omega), hw]
  have e2 : m (0 + pc + 1) = n := by rw [Nat.zero_add, hc (pc + 1) (by omega), hn]
  refine ⟨?_, e1, e2, by omega, by omega⟩
  show mc_st S 0 pc 0 bo ti ro rg m dk cs = _
  unfold mc_st
  rw [if_neg (by simp), if_neg (by simp only [mc_gd]; omega), if_neg (by simp only [mc_gd]; omega), e1, e2]
theorem mo_alu (hS : 474 ≤ S ∧ S ≤ bo) (hc : mcode m) (hp : 16 ≤ pc ∧ pc + 1 < 395) (hw : mW.getD pc 0 = w) (hn : mW.getD (pc + 1) 0 = n) (ho : (w / 64 = 1 ∨ 6 ≤ w / 64) ∧ w / 64 ≤ 15) {nx : Nat} {rg1 : Nat → Nat} (hr : mc_alu (w / 64) (w / 8 % 8) (w % 8) n pc rg = (nx, rg1)) (he : rg1 = rg') (kk : RN S Q k c (0, nx, 0, bo, ti, ro, false, rg', m, dk, cs)) : RN S Q (k + 1) (c + 1) (0, pc, 0, bo, ti, ro, false, rg, m, dk, cs) := by
  obtain ⟨h1, h2, h3, h4, h5⟩ := mo_step (ti := ti) (ro := ro) (rg := rg) (dk := dk) (cs := cs) hS hc hp hw hn
  refine RN.ord ⟨rfl, rfl⟩ ⟨rfl, h4, h5, ?_, ?_, ?_⟩ h1 ?_
  · rw [h2]; omega
  · rw [h2]; omega
  · rw [h2]; intro q; omega
  · unfold mc_ex
    rw [if_neg (by omega), if_neg (by omega), if_neg (by omega), if_neg (by omega), if_pos (by omega), hr, he]
    exact kk
theorem mo_ld (hS : 474 ≤ S ∧ S ≤ bo) (hc : mcode m) (hp : 16 ≤ pc ∧ pc + 1 < 395) (hw : mW.getD pc 0 = w) (hn : mW.getD (pc + 1) 0 = n) {ad v : Nat} (ho : w / 64 = 2 ∨ w / 64 = 4) (ha : mc_ad (w / 64) (w % 8) n rg = ad) (hg : ad < S) (hv : m ad = v) (he : mu rg (w / 8 % 8) v = rg') (kk : RN S Q k c (0, pc + 2, 0, bo, ti, ro, false, rg', m, dk, cs)) : RN S Q (k + 1) (c + 1) (0, pc, 0, bo, ti, ro, false, rg, m, dk, cs) := by
  obtain ⟨h1, h2, h3, h4, h5⟩ := mo_step (ti := ti) (ro := ro) (rg := rg) (dk := dk) (cs := cs) hS hc hp hw hn
  refine RN.ord ⟨rfl, rfl⟩ ⟨rfl, h4, h5, ?_, ?_, ?_⟩ h1 ?_
  · rw [h2]; omega
  · rw [h2]; omega
  · rw [h2, h3, ha]; intro q; simp only [mc_gd]; omega
  · unfold mc_ex
    rw [ha, if_neg (by omega), if_neg (by omega), if_neg (by omega), if_pos (by omega), if_pos (by simp only [mc_gd]; omega), if_pos (by omega), Nat.zero_add, hv, he]
    exact kk
theorem mo_sto (hS : 474 ≤ S ∧ S ≤ bo) (hc : mcode m) (hp : 16 ≤ pc ∧ pc + 1 < 395) (hw : mW.getD pc 0 = w) (hn : mW.getD (pc + 1) 0 = n) {ad v : Nat} (ho : w / 64 = 3 ∨ w / 64 = 5) (ha : mc_ad (w / 64) (w % 8) n rg = ad) (hg : ad < S) (hv : rg (w / 8 % 8) = v) (kk : RN S Q k c (0, pc + 2, 0, bo, ti, ro, false, rg, mu m ad v, dk, cs)) : RN S Q (k + 1) (c + 1) (0, pc, 0, bo, ti, ro, false, rg, m, dk, cs) := by
  obtain ⟨h1, h2, h3, h4, h5⟩ := mo_step (ti := ti) (ro := ro) (rg := rg) (dk := dk) (cs := cs) hS hc hp hw hn
  refine RN.ord ⟨rfl, rfl⟩ ⟨rfl, h4, h5, ?_, ?_, ?_⟩ h1 ?_
  · rw [h2]; omega
  · rw [h2]; omega
  · rw [h2, h3, ha]; intro q; simp only [mc_gd]; omega
  · unfold mc_ex
    rw [ha, if_neg (by omega), if_neg (by omega), if_neg (by omega), if_pos (by omega), if_pos (by simp only [mc_gd]; omega), if_neg (by omega), Nat.zero_add, hv]
    exact kk
theorem mo_pv (hS : 474 ≤ S ∧ S ≤ bo) (hc : mcode m) (hp : 16 ≤ pc ∧ pc + 1 < 395) (hw : mW.getD pc 0 = w) (hn : mW.getD (pc + 1) 0 = n) {ad ct : Nat} (ho : (w / 64 = 0 ∨ 17 ≤ w / 64) ∧ w / 64 ≤ 24) (ha : mc_ad (w / 64) (w % 8) n rg = ad) (hct : mc_ct (w / 64) = ct) (hg : ct = 0 ∨ 0 < ct ∧ ad + ct - 1 < S) {s' : mc_S} (hs : mc_pv (w / 64) (w / 8 % 8) ad 0 pc 0 bo ti ro rg m dk cs = s') (kk : RN S Q k c s') : RN S Q (k + 1) (c + 200) (0, pc, 0, bo, ti, ro, false, rg, m, dk, cs) := by
  obtain ⟨h1, h2, h3, h4, h5⟩ := mo_step (ti := ti) (ro := ro) (rg := rg) (dk := dk) (cs := cs) hS hc hp hw hn
  refine RN.prv ⟨rfl, rfl⟩ h1 ?_
  unfold mc_ex
  rw [ha, hct, if_neg (by omega), if_neg (by omega), if_neg (by omega), if_neg (by omega), if_neg (by omega), if_neg (by simp only [mc_gd]; omega), if_neg (by simp only [mc_gd]; omega), hs]
  exact kk
end MON
