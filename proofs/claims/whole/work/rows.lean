section
/-! THE MACHINE OF THE DOCUMENT, over Nat (mine): a state is (mode, pc, base, bound, timer, run out, halted, registers, memory, disk, console) -/
section ABS
abbrev mc_K : Type := List Nat × (Nat → Nat) × Nat
abbrev mc_S : Type := Nat × Nat × Nat × Nat × Nat × Bool × Bool × (Nat → Nat) × (Nat → Nat) × (Nat → Nat) × mc_K
def mu (f : Nat → Nat) (k x j : Nat) : Nat := if j = k then x else f j
theorem mu_s (f : Nat → Nat) (k x : Nat) : mu f k x k = x := by simp [mu]
theorem mu_n (f : Nat → Nat) {k j : Nat} (x : Nat) (h : j ≠ k) : mu f k x j = f j := by simp [mu, h]
def mc_in (c : mc_K) : Nat × mc_K := match c.1 with
  | [] => (65535, c)
  | b :: t => (b, t, c.2)
def mc_out (c : mc_K) (b : Nat) : mc_K := (c.1, (if c.2.2 < 500 then mu c.2.1 c.2.2 b else c.2.1), c.2.2 + 1)
abbrev mc_gd (S ba bo n : Nat) : Prop := n < bo ∧ ba + n < S
def mc_rc (S ba bo : Nat) : Nat := if bo < S - ba then bo else S - ba
def mc_tk (p ti : Nat) (ro : Bool) (rg mm dk : Nat → Nat) (cs : mc_K) : mc_S := ((if mm p = 0 then 0 else 1), mm (p + 1), mm (p + 2), mm (p + 3), ti, ro, false, rg, mm, dk, cs)
def mc_tm (mm : Nat → Nat) (c i k md ba bo : Nat) : Nat → Nat := mu (mu (mu (mu (mu (mu mm 0 md) 1 k) 2 ba) 3 bo) 8 c) 9 i
def mc_trap (c i k md ba bo ti : Nat) (ro : Bool) (rg mm dk : Nat → Nat) (cs : mc_K) : mc_S := mc_tk 4 ti ro rg (mc_tm mm c i k md ba bo) dk cs
def mc_go (nx md ba bo ti : Nat) (ro : Bool) (rg mm dk : Nat → Nat) (cs : mc_K) : mc_S := if md = 1 ∧ 0 < ti then (md, nx, ba, bo, ti - 1, decide (ti = 1), false, rg, mm, dk, cs) else (md, nx, ba, bo, ti, ro, false, rg, mm, dk, cs)
def mc_ad (op b n : Nat) (rg : Nat → Nat) : Nat := if op = 4 ∨ op = 5 ∨ 23 ≤ op then (rg b + n) % 65536 else n
def mc_ct (op : Nat) : Nat := if op = 17 ∨ op = 18 then 4 else if op < 23 then 0 else 16
def mc_sh (x n : Nat) : Nat := if n / 16 % 2 = 0 then x * 2 ^ (n % 16) % 65536 else x / 2 ^ (n % 16)
def mc_alu (op a b n pc : Nat) (rg : Nat → Nat) : Nat × (Nat → Nat) :=
  if op = 1 then (pc + 2, mu rg a n)
  else if op = 6 then (pc + 2, mu rg a (rg b))
  else if op = 7 then (pc + 2, mu rg a ((rg a + rg b) % 65536))
  else if op = 8 then (pc + 2, mu rg a ((rg a + 65536 - rg b) % 65536))
  else if op = 9 then (pc + 2, mu rg a (rg a &&& rg b))
  else if op = 10 then (pc + 2, mu rg a (if rg a < rg b then 1 else 0))
  else if op = 11 then (pc + 2, mu rg a (mc_sh (rg a) n))
  else if op = 12 then (n, rg)
  else if op = 13 then ((if rg a = 0 then n else pc + 2), rg)
  else if op = 14 then (rg a, rg)
  else (n, mu rg a (pc + 2))
def mc_pv (op a ad md pc ba bo ti : Nat) (ro : Bool) (rg mm dk : Nat → Nat) (cs : mc_K) : mc_S :=
  if op = 0 then (md, pc, ba, bo, ti, ro, true, rg, mm, dk, cs)
  else if op = 17 then mc_tk (ba + ad) ti ro rg mm dk cs
  else if op = 18 then (md, pc + 2, ba, bo, ti, ro, false, rg, mu (mu (mu (mu mm (ba + ad) md) (ba + ad + 1) (pc + 2)) (ba + ad + 2) ba) (ba + ad + 3) bo, dk, cs)
  else if op = 19 then (md, pc + 2, ba, bo, rg a, false, false, rg, mm, dk, cs)
  else if op = 20 then (md, pc + 2, ba, bo, ti, ro, false, mu rg a ti, mm, dk, cs)
  else if op = 21 then (md, pc + 2, ba, bo, ti, ro, false, mu rg a (mc_in cs).1, mm, dk, (mc_in cs).2)
  else if op = 22 then (md, pc + 2, ba, bo, ti, ro, false, rg, mm, dk, mc_out cs (rg a % 256))
  else if op = 23 then (md, pc + 2, ba, bo, ti, ro, false, rg, va_cpy dk mm (rg a % 8 * 16) (ba + ad) 16, dk, cs)
  else (md, pc + 2, ba, bo, ti, ro, false, rg, mm, va_cpy mm dk (ba + ad) (rg a % 8 * 16) 16, cs)
/-- the instruction w n, its words being good -/
def mc_ex (S w n md pc ba bo ti : Nat) (ro : Bool) (rg mm dk : Nat → Nat) (cs : mc_K) : mc_S :=
  if 24 < w / 64 then mc_trap 5 w pc md ba bo ti ro rg mm dk cs
  else if md = 1 ∧ (w / 64 = 0 ∨ 17 ≤ w / 64) then mc_trap 1 w pc md ba bo ti ro rg mm dk cs
  else if w / 64 = 16 then mc_trap 3 n (pc + 2) md ba bo ti ro rg mm dk cs
  else if 2 ≤ w / 64 ∧ w / 64 ≤ 5 then
    (if mc_gd S ba bo (mc_ad (w / 64) (w % 8) n rg) then
      (if w / 64 = 2 ∨ w / 64 = 4 then mc_go (pc + 2) md ba bo ti ro (mu rg (w / 8 % 8) (mm (ba + mc_ad (w / 64) (w % 8) n rg))) mm dk cs
       else mc_go (pc + 2) md ba bo ti ro rg (mu mm (ba + mc_ad (w / 64) (w % 8) n rg) (rg (w / 8 % 8))) dk cs)
     else mc_trap 2 (mc_ad (w / 64) (w % 8) n rg) pc md ba bo ti ro rg mm dk cs)
  else if 1 ≤ w / 64 ∧ w / 64 ≤ 15 then mc_go (mc_alu (w / 64) (w / 8 % 8) (w % 8) n pc rg).1 md ba bo ti ro (mc_alu (w / 64) (w / 8 % 8) (w % 8) n pc rg).2 mm dk cs
  else if 0 < mc_ct (w / 64) ∧ ¬ mc_gd S ba bo (mc_ad (w / 64) (w % 8) n rg) then mc_trap 2 (mc_ad (w / 64) (w % 8) n rg) pc md ba bo ti ro rg mm dk cs
  else if 0 < mc_ct (w / 64) ∧ ¬ mc_gd S ba bo (mc_ad (w / 64) (w % 8) n rg + mc_ct (w / 64) - 1) then mc_trap 2 (mc_rc S ba bo) pc md ba bo ti ro rg mm dk cs
  else mc_pv (w / 64) (w / 8 % 8) (mc_ad (w / 64) (w % 8) n rg) md pc ba bo ti ro rg mm dk cs
/-- a step of a machine of S words that is not halted -/
def mc_st (S md pc ba bo ti : Nat) (ro : Bool) (rg mm dk : Nat → Nat) (cs : mc_K) : mc_S :=
  if md = 1 ∧ ro = true then mc_trap 4 0 pc md ba bo ti false rg mm dk cs
  else if ¬ mc_gd S ba bo pc then mc_trap 2 pc pc md ba bo ti ro rg mm dk cs
  else if ¬ mc_gd S ba bo (pc + 1) then mc_trap 2 (pc + 1) pc md ba bo ti ro rg mm dk cs
  else mc_ex S (mm (ba + pc)) (mm (ba + pc + 1)) md pc ba bo ti ro rg mm dk cs
def mc_step (S : Nat) (s : mc_S) : mc_S := match s with
  | (md, pc, ba, bo, ti, ro, _, rg, mm, dk, cs) => mc_st S md pc ba bo ti ro rg mm dk cs
end ABS
end
section
/-! THE MONITOR (mine): its words, runs of it with a budget, a row an instruction -/
section MON
def mW : List Nat := [0, 0, 0, 0, 0, 36, 0, 65535, 0, 0, 0, 0, 0, 0, 0, 0, 1152, 0, 128, 3, 72, 410, 513, 0, 192, 403, 192, 12, 192, 409, 64, 0, 72, 0, 1088, 406, 192, 395, 200, 396, 208, 397, 216, 398, 224, 399, 128, 10, 832, 162, 192, 410, 136, 1, 200, 411, 136, 11, 200, 412, 136, 12, 200, 413, 136, 8, 200, 418, 136, 9, 200, 419, 72, 414, 273, 1, 208, 407, 273, 2, 208, 11, 281, 3, 216, 12, 265, 0, 96, 410, 482, 0, 224, 408, 160, 403, 660, 0, 848, 134, 144, 11, 546, 0, 404, 0, 659, 0, 848, 112, 412, 0, 216, 409, 840, 146, 72, 1, 200, 10, 832, 138, 128, 395, 136, 396, 144, 397, 152, 398, 160, 399, 1088, 406, 88, 0, 768, 112, 136, 13, 840, 122, 1224, 0, 768, 122, 200, 10, 832, 122, 1288, 0, 200, 13, 840, 122, 72, 0, 1224, 0, 768, 122, 136, 8, 80, 1, 522, 0, 840, 172, 768, 50, 136, 9, 712, 22, 265, 370, 904, 0, 128, 395, 136, 396, 144, 397, 152, 398, 160, 399, 0, 0, 80, 0, 96, 3, 984, 328, 64, 0, 768, 74, 80, 0, 96, 3, 984, 328, 80, 0, 337, 0, 144, 1, 88, 2, 467, 0, 337, 1, 144, 11, 337, 2, 144, 12, 337, 3, 768, 276, 984, 286, 273, 395, 208, 13, 768, 276, 984, 286, 144, 13, 768, 248, 984, 286, 1360, 0, 337, 395, 168, 400, 176, 401, 184, 402, 768, 276, 984, 286, 273, 395, 1424, 0, 768, 276, 984, 302, 1489, 0, 768, 276, 984, 302, 1553, 0, 136, 1, 80, 2, 458, 0, 200, 407, 768, 122, 232, 400, 240, 401, 248, 402, 136, 9, 712, 19, 80, 7, 586, 0, 920, 0, 216, 404, 984, 286, 273, 395, 208, 405, 144, 9, 96, 7, 596, 0, 274, 395, 96, 15, 984, 328, 144, 405, 152, 404, 920, 0, 136, 408, 128, 1, 456, 0, 265, 1, 458, 0, 144, 409, 385, 0, 642, 0, 832, 360, 481, 0, 674, 0, 864, 358, 144, 408, 458, 0, 920, 0, 394, 0, 200, 9, 72, 2, 200, 8, 64, 0, 768, 50, 180, 0, 0, 0, 0, 0, 0, 0, 0, 0, 0, 0, 0, 0, 0, 0, 0, 192, 202, 230, 238, 244, 258, 266, 272, 0, 0, 0, 0, 0, 0, 0, 0, 0, 0, 0, 1, 16, 410, 0]
def mcode (m : Nat → Nat) : Prop := ∀ a, (4 ≤ a ∧ a < 8 ∨ 16 ≤ a ∧ a < 395) → m a = mW.getD a 0
theorem mcode_mu {m : Nat → Nat} {a x : Nat} (h : mcode m) (ha : ¬ (4 ≤ a ∧ a < 8 ∨ 16 ≤ a ∧ a < 395)) : mcode (mu m a x) := by
  intro j hj
  have hne : j ≠ a := fun e => ha (e ▸ hj)
  rw [mu_n _ _ hne]
  exact h j hj
/-- ordinary: an operation 1 to 15 that does not trap, in supervisor mode -/
def mc_or (S : Nat) (s : mc_S) : Prop := match s with
  | (md, pc, ba, bo, _, _, _, rg, mm, _, _) => md = 0 ∧ mc_gd S ba bo pc ∧ mc_gd S ba bo (pc + 1) ∧ 1 ≤ mm (ba + pc) / 64 ∧ mm (ba + pc) / 64 ≤ 15 ∧ (2 ≤ mm (ba + pc) / 64 ∧ mm (ba + pc) / 64 ≤ 5 → mc_gd S ba bo (mc_ad (mm (ba + pc) / 64) (mm (ba + pc) % 8) (mm (ba + pc + 1)) rg))
def mc_sup (s : mc_S) : Prop := s.1 = 0 ∧ s.2.2.2.2.2.2.1 = false
/-- k steps, all of a supervisor that is not halted; an ordinary one costs 1, another 200 -/
def rn (S : Nat) (Q : mc_S → Prop) : Nat → Nat → mc_S → Prop
  | 0, _, s => Q s
  | k + 1, c, s => mc_sup s ∧ ∃ w, w ≤ c ∧ (mc_or S s ∧ w = 1 ∨ w = 200) ∧ rn S Q k (c - w) (mc_step S s)
theorem rn_mono {S : Nat} {Q : mc_S → Prop} : ∀ (k c c' : Nat) (s : mc_S), c ≤ c' → rn S Q k c s → rn S Q k c' s := by
  intro k
  induction k with
  | zero => intro c c' s _ h; exact h
  | succ k ih =>
    intro c c' s hc h
    obtain ⟨h1, w, h2, h3, h4⟩ := h
    exact ⟨h1, w, by omega, h3, ih _ _ _ (by omega) h4⟩
def RN (S : Nat) (Q : mc_S → Prop) (k c : Nat) (s : mc_S) : Prop := ∃ j, j ≤ k ∧ rn S Q j c s
theorem RN.done {S : Nat} {Q : mc_S → Prop} {k c : Nat} {s : mc_S} (h : Q s) : RN S Q k c s := ⟨0, Nat.zero_le _, h⟩
theorem RN.mono {S : Nat} {Q : mc_S → Prop} {k c k' c' : Nat} {s : mc_S} (hk : k ≤ k') (hc : c ≤ c') (h : RN S Q k c s) : RN S Q k' c' s := by
  obtain ⟨j, h1, h2⟩ := h
  exact ⟨j, by omega, rn_mono _ _ _ _ hc h2⟩
theorem RN.ord {S : Nat} {Q : mc_S → Prop} {k c : Nat} {s s' : mc_S} (h1 : mc_sup s) (h2 : mc_or S s) (h3 : mc_step S s = s') (h : RN S Q k c s') : RN S Q (k + 1) (c + 1) s := by
  obtain ⟨j, h4, h5⟩ := h
  subst h3
  exact ⟨j + 1, by omega, h1, 1, by omega, Or.inl ⟨h2, rfl⟩, by simpa using h5⟩
theorem RN.prv {S : Nat} {Q : mc_S → Prop} {k c : Nat} {s s' : mc_S} (h1 : mc_sup s) (h3 : mc_step S s = s') (h : RN S Q k c s') : RN S Q (k + 1) (c + 200) s := by
  obtain ⟨j, h4, h5⟩ := h
  subst h3
  exact ⟨j + 1, by omega, h1, 200, by omega, Or.inr rfl, by simpa using h5⟩
/-- the registers, named -/
def rf (r0 r1 r2 r3 r4 r5 r6 r7 : Nat) (g : Nat → Nat) : Nat → Nat := fun j => match j with
  | 0 => r0
  | 1 => r1
  | 2 => r2
  | 3 => r3
  | 4 => r4
  | 5 => r5
  | 6 => r6
  | 7 => r7
  | j + 8 => g (j + 8)
variable {r0 r1 r2 r3 r4 r5 r6 r7 : Nat} {g : Nat → Nat}
theorem rf_all (g : Nat → Nat) : rf (g 0) (g 1) (g 2) (g 3) (g 4) (g 5) (g 6) (g 7) g = g := by
  funext j
  match j with
  | 0 => rfl
  | 1 => rfl
  | 2 => rfl
  | 3 => rfl
  | 4 => rfl
  | 5 => rfl
  | 6 => rfl
  | 7 => rfl
  | j + 8 => rfl
theorem rf_m0 {x : Nat} : mu (rf r0 r1 r2 r3 r4 r5 r6 r7 g) 0 x = rf x r1 r2 r3 r4 r5 r6 r7 g := by
  funext j
  match j with
  | 0 => rfl
  | 1 => rfl
  | 2 => rfl
  | 3 => rfl
  | 4 => rfl
  | 5 => rfl
  | 6 => rfl
  | 7 => rfl
  | j + 8 => simp [mu, rf]
theorem rf_m1 {x : Nat} : mu (rf r0 r1 r2 r3 r4 r5 r6 r7 g) 1 x = rf r0 x r2 r3 r4 r5 r6 r7 g := by
  funext j
  match j with
  | 0 => rfl
  | 1 => rfl
  | 2 => rfl
  | 3 => rfl
  | 4 => rfl
  | 5 => rfl
  | 6 => rfl
  | 7 => rfl
  | j + 8 => simp [mu, rf]
theorem rf_m2 {x : Nat} : mu (rf r0 r1 r2 r3 r4 r5 r6 r7 g) 2 x = rf r0 r1 x r3 r4 r5 r6 r7 g := by
  funext j
  match j with
  | 0 => rfl
  | 1 => rfl
  | 2 => rfl
  | 3 => rfl
  | 4 => rfl
  | 5 => rfl
  | 6 => rfl
  | 7 => rfl
  | j + 8 => simp [mu, rf]
theorem rf_m3 {x : Nat} : mu (rf r0 r1 r2 r3 r4 r5 r6 r7 g) 3 x = rf r0 r1 r2 x r4 r5 r6 r7 g := by
  funext j
  match j with
  | 0 => rfl
  | 1 => rfl
  | 2 => rfl
  | 3 => rfl
  | 4 => rfl
  | 5 => rfl
  | 6 => rfl
  | 7 => rfl
  | j + 8 => simp [mu, rf]
theorem rf_m4 {x : Nat} : mu (rf r0 r1 r2 r3 r4 r5 r6 r7 g) 4 x = rf r0 r1 r2 r3 x r5 r6 r7 g := by
  funext j
  match j with
  | 0 => rfl
  | 1 => rfl
  | 2 => rfl
  | 3 => rfl
  | 4 => rfl
  | 5 => rfl
  | 6 => rfl
  | 7 => rfl
  | j + 8 => simp [mu, rf]
theorem rf_m5 {x : Nat} : mu (rf r0 r1 r2 r3 r4 r5 r6 r7 g) 5 x = rf r0 r1 r2 r3 r4 x r6 r7 g := by
  funext j
  match j with
  | 0 => rfl
  | 1 => rfl
  | 2 => rfl
  | 3 => rfl
  | 4 => rfl
  | 5 => rfl
  | 6 => rfl
  | 7 => rfl
  | j + 8 => simp [mu, rf]
theorem rf_m6 {x : Nat} : mu (rf r0 r1 r2 r3 r4 r5 r6 r7 g) 6 x = rf r0 r1 r2 r3 r4 r5 x r7 g := by
  funext j
  match j with
  | 0 => rfl
  | 1 => rfl
  | 2 => rfl
  | 3 => rfl
  | 4 => rfl
  | 5 => rfl
  | 6 => rfl
  | 7 => rfl
  | j + 8 => simp [mu, rf]
theorem rf_m7 {x : Nat} : mu (rf r0 r1 r2 r3 r4 r5 r6 r7 g) 7 x = rf r0 r1 r2 r3 r4 r5 r6 x g := by
  funext j
  match j with
  | 0 => rfl
  | 1 => rfl
  | 2 => rfl
  | 3 => rfl
  | 4 => rfl
  | 5 => rfl
  | 6 => rfl
  | 7 => rfl
  | j + 8 => simp [mu, rf]
variable {S k c pc bo ti w n : Nat} {Q : mc_S → Prop} {ro : Bool} {rg rg' m dk : Nat → Nat} {cs : mc_K}
theorem mo_step (hS : 474 ≤ S ∧ S ≤ bo) (hc : mcode m) (hp : 16 ≤ pc ∧ pc + 1 < 395) (hw : mW.getD pc 0 = w) (hn : mW.getD (pc + 1) 0 = n) : mc_step S (0, pc, 0, bo, ti, ro, false, rg, m, dk, cs) = mc_ex S w n 0 pc 0 bo ti ro rg m dk cs ∧ m (0 + pc) = w ∧ m (0 + pc + 1) = n ∧ mc_gd S 0 bo pc ∧ mc_gd S 0 bo (pc + 1) := by
  have e1 : m (0 + pc) = w := by rw [Nat.zero_add, hc pc (by omega), hw]
  have e2 : m (0 + pc + 1) = n := by rw [Nat.zero_add, hc (pc + 1) (by omega), hn]
  refine ⟨?_, e1, e2, by omega, by omega⟩
  show mc_st S 0 pc 0 bo ti ro rg m dk cs = _
  unfold mc_st
  rw [if_neg (by simp), if_neg (by simp only [mc_gd]; omega), if_neg (by simp only [mc_gd]; omega), e1, e2]
theorem mo_alu (hS : 474 ≤ S ∧ S ≤ bo) (hc : mcode m) (hp : 16 ≤ pc ∧ pc + 1 < 395) (hw : mW.getD pc 0 = w) (hn : mW.getD (pc + 1) 0 = n) (ho : (w / 64 = 1 ∨ 6 ≤ w / 64) ∧ w / 64 ≤ 15) {nx : Nat} {rg1 : Nat → Nat} (hr : mc_alu (w / 64) (w / 8 % 8) (w % 8) n pc rg = (nx, rg1)) (he : rg1 = rg') (kk : RN S Q k c (0, nx, 0, bo, ti, ro, false, rg', m, dk, cs)) : RN S Q (k + 1) (c + 1) (0, pc, 0, bo, ti, ro, false, rg, m, dk, cs) := by
  obtain ⟨h1, h2, h3, h4, h5⟩ := mo_step (ti := ti) (ro := ro) (rg := rg) (dk := dk) (cs := cs) hS hc hp hw hn
  refine RN.ord ⟨rfl, rfl⟩ ⟨rfl, h4, h5, ?_, ?_, ?_⟩ h1 ?_
  · rw [h2]; omega
  · rw [h2]; omega
  · rw [h2]; intro q; omega
  · unfold mc_ex
    rw [if_neg (by omega), if_neg (by omega), if_neg (by omega), if_neg (by omega), if_pos (by omega), hr, he]
    exact kk
theorem mo_ld (hS : 474 ≤ S ∧ S ≤ bo) (hc : mcode m) (hp : 16 ≤ pc ∧ pc + 1 < 395) (hw : mW.getD pc 0 = w) (hn : mW.getD (pc + 1) 0 = n) {ad v : Nat} (ho : w / 64 = 2 ∨ w / 64 = 4) (ha : mc_ad (w / 64) (w % 8) n rg = ad) (hg : ad < S) (hv : m ad = v) (he : mu rg (w / 8 % 8) v = rg') (kk : RN S Q k c (0, pc + 2, 0, bo, ti, ro, false, rg', m, dk, cs)) : RN S Q (k + 1) (c + 1) (0, pc, 0, bo, ti, ro, false, rg, m, dk, cs) := by
  obtain ⟨h1, h2, h3, h4, h5⟩ := mo_step (ti := ti) (ro := ro) (rg := rg) (dk := dk) (cs := cs) hS hc hp hw hn
  refine RN.ord ⟨rfl, rfl⟩ ⟨rfl, h4, h5, ?_, ?_, ?_⟩ h1 ?_
  · rw [h2]; omega
  · rw [h2]; omega
  · rw [h2, h3, ha]; intro q; simp only [mc_gd]; omega
  · unfold mc_ex
    rw [ha, if_neg (by omega), if_neg (by omega), if_neg (by omega), if_pos (by omega), if_pos (by simp only [mc_gd]; omega), if_pos (by omega), Nat.zero_add, hv, he]
    exact kk
theorem mo_sto (hS : 474 ≤ S ∧ S ≤ bo) (hc : mcode m) (hp : 16 ≤ pc ∧ pc + 1 < 395) (hw : mW.getD pc 0 = w) (hn : mW.getD (pc + 1) 0 = n) {ad v : Nat} (ho : w / 64 = 3 ∨ w / 64 = 5) (ha : mc_ad (w / 64) (w % 8) n rg = ad) (hg : ad < S) (hv : rg (w / 8 % 8) = v) (kk : RN S Q k c (0, pc + 2, 0, bo, ti, ro, false, rg, mu m ad v, dk, cs)) : RN S Q (k + 1) (c + 1) (0, pc, 0, bo, ti, ro, false, rg, m, dk, cs) := by
  obtain ⟨h1, h2, h3, h4, h5⟩ := mo_step (ti := ti) (ro := ro) (rg := rg) (dk := dk) (cs := cs) hS hc hp hw hn
  refine RN.ord ⟨rfl, rfl⟩ ⟨rfl, h4, h5, ?_, ?_, ?_⟩ h1 ?_
  · rw [h2]; omega
  · rw [h2]; omega
  · rw [h2, h3, ha]; intro q; simp only [mc_gd]; omega
  · unfold mc_ex
    rw [ha, if_neg (by omega), if_neg (by omega), if_neg (by omega), if_pos (by omega), if_pos (by simp only [mc_gd]; omega), if_neg (by omega), Nat.zero_add, hv]
    exact kk
theorem mo_pv (hS : 474 ≤ S ∧ S ≤ bo) (hc : mcode m) (hp : 16 ≤ pc ∧ pc + 1 < 395) (hw : mW.getD pc 0 = w) (hn : mW.getD (pc + 1) 0 = n) {ad ct : Nat} (ho : (w / 64 = 0 ∨ 17 ≤ w / 64) ∧ w / 64 ≤ 24) (ha : mc_ad (w / 64) (w % 8) n rg = ad) (hct : mc_ct (w / 64) = ct) (hg : ct = 0 ∨ 0 < ct ∧ ad + ct - 1 < S) {s' : mc_S} (hs : mc_pv (w / 64) (w / 8 % 8) ad 0 pc 0 bo ti ro rg m dk cs = s') (kk : RN S Q k c s') : RN S Q (k + 1) (c + 200) (0, pc, 0, bo, ti, ro, false, rg, m, dk, cs) := by
  obtain ⟨h1, h2, h3, h4, h5⟩ := mo_step (ti := ti) (ro := ro) (rg := rg) (dk := dk) (cs := cs) hS hc hp hw hn
  refine RN.prv ⟨rfl, rfl⟩ h1 ?_
  unfold mc_ex
  rw [ha, hct, if_neg (by omega), if_neg (by omega), if_neg (by omega), if_neg (by omega), if_neg (by omega), if_neg (by simp only [mc_gd]; omega), if_neg (by simp only [mc_gd]; omega), hs]
  exact kk
end MON
end
section
theorem mw_16 : mW.getD 16 0 = 1152 := by decide +kernel
theorem mw_17 : mW.getD 17 0 = 0 := by decide +kernel
theorem mw_18 : mW.getD 18 0 = 128 := by decide +kernel
theorem mw_19 : mW.getD 19 0 = 3 := by decide +kernel
theorem mw_20 : mW.getD 20 0 = 72 := by decide +kernel
theorem mw_21 : mW.getD 21 0 = 410 := by decide +kernel
theorem mw_22 : mW.getD 22 0 = 513 := by decide +kernel
theorem mw_23 : mW.getD 23 0 = 0 := by decide +kernel
theorem mw_24 : mW.getD 24 0 = 192 := by decide +kernel
theorem mw_25 : mW.getD 25 0 = 403 := by decide +kernel
theorem mw_26 : mW.getD 26 0 = 192 := by decide +kernel
theorem mw_27 : mW.getD 27 0 = 12 := by decide +kernel
theorem mw_28 : mW.getD 28 0 = 192 := by decide +kernel
theorem mw_29 : mW.getD 29 0 = 409 := by decide +kernel
theorem mw_30 : mW.getD 30 0 = 64 := by decide +kernel
theorem mw_31 : mW.getD 31 0 = 0 := by decide +kernel
theorem mw_32 : mW.getD 32 0 = 72 := by decide +kernel
theorem mw_33 : mW.getD 33 0 = 0 := by decide +kernel
theorem mw_34 : mW.getD 34 0 = 1088 := by decide +kernel
theorem mw_35 : mW.getD 35 0 = 406 := by decide +kernel
theorem mw_36 : mW.getD 36 0 = 192 := by decide +kernel
theorem mw_37 : mW.getD 37 0 = 395 := by decide +kernel
theorem mw_38 : mW.getD 38 0 = 200 := by decide +kernel
theorem mw_39 : mW.getD 39 0 = 396 := by decide +kernel
theorem mw_40 : mW.getD 40 0 = 208 := by decide +kernel
theorem mw_41 : mW.getD 41 0 = 397 := by decide +kernel
theorem mw_42 : mW.getD 42 0 = 216 := by decide +kernel
theorem mw_43 : mW.getD 43 0 = 398 := by decide +kernel
theorem mw_44 : mW.getD 44 0 = 224 := by decide +kernel
theorem mw_45 : mW.getD 45 0 = 399 := by decide +kernel
theorem mw_46 : mW.getD 46 0 = 128 := by decide +kernel
theorem mw_47 : mW.getD 47 0 = 10 := by decide +kernel
theorem mw_48 : mW.getD 48 0 = 832 := by decide +kernel
theorem mw_49 : mW.getD 49 0 = 162 := by decide +kernel
theorem mw_50 : mW.getD 50 0 = 192 := by decide +kernel
theorem mw_51 : mW.getD 51 0 = 410 := by decide +kernel
theorem mw_52 : mW.getD 52 0 = 136 := by decide +kernel
theorem mw_53 : mW.getD 53 0 = 1 := by decide +kernel
theorem mw_54 : mW.getD 54 0 = 200 := by decide +kernel
theorem mw_55 : mW.getD 55 0 = 411 := by decide +kernel
theorem mw_56 : mW.getD 56 0 = 136 := by decide +kernel
theorem mw_57 : mW.getD 57 0 = 11 := by decide +kernel
theorem mw_58 : mW.getD 58 0 = 200 := by decide +kernel
theorem mw_59 : mW.getD 59 0 = 412 := by decide +kernel
theorem mw_60 : mW.getD 60 0 = 136 := by decide +kernel
theorem mw_61 : mW.getD 61 0 = 12 := by decide +kernel
theorem mw_62 : mW.getD 62 0 = 200 := by decide +kernel
theorem mw_63 : mW.getD 63 0 = 413 := by decide +kernel
theorem mw_64 : mW.getD 64 0 = 136 := by decide +kernel
theorem mw_65 : mW.getD 65 0 = 8 := by decide +kernel
theorem mw_66 : mW.getD 66 0 = 200 := by decide +kernel
theorem mw_67 : mW.getD 67 0 = 418 := by decide +kernel
theorem mw_68 : mW.getD 68 0 = 136 := by decide +kernel
theorem mw_69 : mW.getD 69 0 = 9 := by decide +kernel
theorem mw_70 : mW.getD 70 0 = 200 := by decide +kernel
theorem mw_71 : mW.getD 71 0 = 419 := by decide +kernel
theorem mw_72 : mW.getD 72 0 = 72 := by decide +kernel
theorem mw_73 : mW.getD 73 0 = 414 := by decide +kernel
theorem mw_74 : mW.getD 74 0 = 273 := by decide +kernel
theorem mw_75 : mW.getD 75 0 = 1 := by decide +kernel
theorem mw_76 : mW.getD 76 0 = 208 := by decide +kernel
theorem mw_77 : mW.getD 77 0 = 407 := by decide +kernel
theorem mw_78 : mW.getD 78 0 = 273 := by decide +kernel
theorem mw_79 : mW.getD 79 0 = 2 := by decide +kernel
theorem mw_80 : mW.getD 80 0 = 208 := by decide +kernel
theorem mw_81 : mW.getD 81 0 = 11 := by decide +kernel
theorem mw_82 : mW.getD 82 0 = 281 := by decide +kernel
theorem mw_83 : mW.getD 83 0 = 3 := by decide +kernel
theorem mw_84 : mW.getD 84 0 = 216 := by decide +kernel
theorem mw_85 : mW.getD 85 0 = 12 := by decide +kernel
theorem mw_86 : mW.getD 86 0 = 265 := by decide +kernel
theorem mw_87 : mW.getD 87 0 = 0 := by decide +kernel
theorem mw_88 : mW.getD 88 0 = 96 := by decide +kernel
theorem mw_89 : mW.getD 89 0 = 410 := by decide +kernel
theorem mw_90 : mW.getD 90 0 = 482 := by decide +kernel
theorem mw_91 : mW.getD 91 0 = 0 := by decide +kernel
theorem mw_92 : mW.getD 92 0 = 224 := by decide +kernel
theorem mw_93 : mW.getD 93 0 = 408 := by decide +kernel
theorem mw_94 : mW.getD 94 0 = 160 := by decide +kernel
theorem mw_95 : mW.getD 95 0 = 403 := by decide +kernel
theorem mw_96 : mW.getD 96 0 = 660 := by decide +kernel
theorem mw_97 : mW.getD 97 0 = 0 := by decide +kernel
theorem mw_98 : mW.getD 98 0 = 848 := by decide +kernel
theorem mw_99 : mW.getD 99 0 = 134 := by decide +kernel
theorem mw_100 : mW.getD 100 0 = 144 := by decide +kernel
theorem mw_101 : mW.getD 101 0 = 11 := by decide +kernel
theorem mw_102 : mW.getD 102 0 = 546 := by decide +kernel
theorem mw_103 : mW.getD 103 0 = 0 := by decide +kernel
theorem mw_104 : mW.getD 104 0 = 404 := by decide +kernel
theorem mw_105 : mW.getD 105 0 = 0 := by decide +kernel
theorem mw_106 : mW.getD 106 0 = 659 := by decide +kernel
theorem mw_107 : mW.getD 107 0 = 0 := by decide +kernel
theorem mw_108 : mW.getD 108 0 = 848 := by decide +kernel
theorem mw_109 : mW.getD 109 0 = 112 := by decide +kernel
theorem mw_110 : mW.getD 110 0 = 412 := by decide +kernel
theorem mw_111 : mW.getD 111 0 = 0 := by decide +kernel
theorem mw_112 : mW.getD 112 0 = 216 := by decide +kernel
theorem mw_113 : mW.getD 113 0 = 409 := by decide +kernel
theorem mw_114 : mW.getD 114 0 = 840 := by decide +kernel
theorem mw_115 : mW.getD 115 0 = 146 := by decide +kernel
theorem mw_116 : mW.getD 116 0 = 72 := by decide +kernel
theorem mw_117 : mW.getD 117 0 = 1 := by decide +kernel
theorem mw_118 : mW.getD 118 0 = 200 := by decide +kernel
theorem mw_119 : mW.getD 119 0 = 10 := by decide +kernel
theorem mw_120 : mW.getD 120 0 = 832 := by decide +kernel
theorem mw_121 : mW.getD 121 0 = 138 := by decide +kernel
theorem mw_122 : mW.getD 122 0 = 128 := by decide +kernel
theorem mw_123 : mW.getD 123 0 = 395 := by decide +kernel
theorem mw_124 : mW.getD 124 0 = 136 := by decide +kernel
theorem mw_125 : mW.getD 125 0 = 396 := by decide +kernel
theorem mw_126 : mW.getD 126 0 = 144 := by decide +kernel
theorem mw_127 : mW.getD 127 0 = 397 := by decide +kernel
theorem mw_128 : mW.getD 128 0 = 152 := by decide +kernel
theorem mw_129 : mW.getD 129 0 = 398 := by decide +kernel
theorem mw_130 : mW.getD 130 0 = 160 := by decide +kernel
theorem mw_131 : mW.getD 131 0 = 399 := by decide +kernel
theorem mw_132 : mW.getD 132 0 = 1088 := by decide +kernel
theorem mw_133 : mW.getD 133 0 = 406 := by decide +kernel
theorem mw_134 : mW.getD 134 0 = 88 := by decide +kernel
theorem mw_135 : mW.getD 135 0 = 0 := by decide +kernel
theorem mw_136 : mW.getD 136 0 = 768 := by decide +kernel
theorem mw_137 : mW.getD 137 0 = 112 := by decide +kernel
theorem mw_138 : mW.getD 138 0 = 136 := by decide +kernel
theorem mw_139 : mW.getD 139 0 = 13 := by decide +kernel
theorem mw_140 : mW.getD 140 0 = 840 := by decide +kernel
theorem mw_141 : mW.getD 141 0 = 122 := by decide +kernel
theorem mw_142 : mW.getD 142 0 = 1224 := by decide +kernel
theorem mw_143 : mW.getD 143 0 = 0 := by decide +kernel
theorem mw_144 : mW.getD 144 0 = 768 := by decide +kernel
theorem mw_145 : mW.getD 145 0 = 122 := by decide +kernel
theorem mw_146 : mW.getD 146 0 = 200 := by decide +kernel
theorem mw_147 : mW.getD 147 0 = 10 := by decide +kernel
theorem mw_148 : mW.getD 148 0 = 832 := by decide +kernel
theorem mw_149 : mW.getD 149 0 = 122 := by decide +kernel
theorem mw_150 : mW.getD 150 0 = 1288 := by decide +kernel
theorem mw_151 : mW.getD 151 0 = 0 := by decide +kernel
theorem mw_152 : mW.getD 152 0 = 200 := by decide +kernel
theorem mw_153 : mW.getD 153 0 = 13 := by decide +kernel
theorem mw_154 : mW.getD 154 0 = 840 := by decide +kernel
theorem mw_155 : mW.getD 155 0 = 122 := by decide +kernel
theorem mw_156 : mW.getD 156 0 = 72 := by decide +kernel
theorem mw_157 : mW.getD 157 0 = 0 := by decide +kernel
theorem mw_158 : mW.getD 158 0 = 1224 := by decide +kernel
theorem mw_159 : mW.getD 159 0 = 0 := by decide +kernel
theorem mw_160 : mW.getD 160 0 = 768 := by decide +kernel
theorem mw_161 : mW.getD 161 0 = 122 := by decide +kernel
theorem mw_162 : mW.getD 162 0 = 136 := by decide +kernel
theorem mw_163 : mW.getD 163 0 = 8 := by decide +kernel
theorem mw_164 : mW.getD 164 0 = 80 := by decide +kernel
theorem mw_165 : mW.getD 165 0 = 1 := by decide +kernel
theorem mw_166 : mW.getD 166 0 = 522 := by decide +kernel
theorem mw_167 : mW.getD 167 0 = 0 := by decide +kernel
theorem mw_168 : mW.getD 168 0 = 840 := by decide +kernel
theorem mw_169 : mW.getD 169 0 = 172 := by decide +kernel
theorem mw_170 : mW.getD 170 0 = 768 := by decide +kernel
theorem mw_171 : mW.getD 171 0 = 50 := by decide +kernel
theorem mw_172 : mW.getD 172 0 = 136 := by decide +kernel
theorem mw_173 : mW.getD 173 0 = 9 := by decide +kernel
theorem mw_174 : mW.getD 174 0 = 712 := by decide +kernel
theorem mw_175 : mW.getD 175 0 = 22 := by decide +kernel
theorem mw_176 : mW.getD 176 0 = 265 := by decide +kernel
theorem mw_177 : mW.getD 177 0 = 370 := by decide +kernel
theorem mw_178 : mW.getD 178 0 = 904 := by decide +kernel
theorem mw_179 : mW.getD 179 0 = 0 := by decide +kernel
theorem mw_180 : mW.getD 180 0 = 128 := by decide +kernel
theorem mw_181 : mW.getD 181 0 = 395 := by decide +kernel
theorem mw_182 : mW.getD 182 0 = 136 := by decide +kernel
theorem mw_183 : mW.getD 183 0 = 396 := by decide +kernel
theorem mw_184 : mW.getD 184 0 = 144 := by decide +kernel
theorem mw_185 : mW.getD 185 0 = 397 := by decide +kernel
theorem mw_186 : mW.getD 186 0 = 152 := by decide +kernel
theorem mw_187 : mW.getD 187 0 = 398 := by decide +kernel
theorem mw_188 : mW.getD 188 0 = 160 := by decide +kernel
theorem mw_189 : mW.getD 189 0 = 399 := by decide +kernel
theorem mw_190 : mW.getD 190 0 = 0 := by decide +kernel
theorem mw_191 : mW.getD 191 0 = 0 := by decide +kernel
theorem mw_192 : mW.getD 192 0 = 80 := by decide +kernel
theorem mw_193 : mW.getD 193 0 = 0 := by decide +kernel
theorem mw_194 : mW.getD 194 0 = 96 := by decide +kernel
theorem mw_195 : mW.getD 195 0 = 3 := by decide +kernel
theorem mw_196 : mW.getD 196 0 = 984 := by decide +kernel
theorem mw_197 : mW.getD 197 0 = 328 := by decide +kernel
theorem mw_198 : mW.getD 198 0 = 64 := by decide +kernel
theorem mw_199 : mW.getD 199 0 = 0 := by decide +kernel
theorem mw_200 : mW.getD 200 0 = 768 := by decide +kernel
theorem mw_201 : mW.getD 201 0 = 74 := by decide +kernel
theorem mw_202 : mW.getD 202 0 = 80 := by decide +kernel
theorem mw_203 : mW.getD 203 0 = 0 := by decide +kernel
theorem mw_204 : mW.getD 204 0 = 96 := by decide +kernel
theorem mw_205 : mW.getD 205 0 = 3 := by decide +kernel
theorem mw_206 : mW.getD 206 0 = 984 := by decide +kernel
theorem mw_207 : mW.getD 207 0 = 328 := by decide +kernel
theorem mw_208 : mW.getD 208 0 = 80 := by decide +kernel
theorem mw_209 : mW.getD 209 0 = 0 := by decide +kernel
theorem mw_210 : mW.getD 210 0 = 337 := by decide +kernel
theorem mw_211 : mW.getD 211 0 = 0 := by decide +kernel
theorem mw_212 : mW.getD 212 0 = 144 := by decide +kernel
theorem mw_213 : mW.getD 213 0 = 1 := by decide +kernel
theorem mw_214 : mW.getD 214 0 = 88 := by decide +kernel
theorem mw_215 : mW.getD 215 0 = 2 := by decide +kernel
theorem mw_216 : mW.getD 216 0 = 467 := by decide +kernel
theorem mw_217 : mW.getD 217 0 = 0 := by decide +kernel
theorem mw_218 : mW.getD 218 0 = 337 := by decide +kernel
theorem mw_219 : mW.getD 219 0 = 1 := by decide +kernel
theorem mw_220 : mW.getD 220 0 = 144 := by decide +kernel
theorem mw_221 : mW.getD 221 0 = 11 := by decide +kernel
theorem mw_222 : mW.getD 222 0 = 337 := by decide +kernel
theorem mw_223 : mW.getD 223 0 = 2 := by decide +kernel
theorem mw_224 : mW.getD 224 0 = 144 := by decide +kernel
theorem mw_225 : mW.getD 225 0 = 12 := by decide +kernel
theorem mw_226 : mW.getD 226 0 = 337 := by decide +kernel
theorem mw_227 : mW.getD 227 0 = 3 := by decide +kernel
theorem mw_228 : mW.getD 228 0 = 768 := by decide +kernel
theorem mw_229 : mW.getD 229 0 = 276 := by decide +kernel
theorem mw_230 : mW.getD 230 0 = 984 := by decide +kernel
theorem mw_231 : mW.getD 231 0 = 286 := by decide +kernel
theorem mw_232 : mW.getD 232 0 = 273 := by decide +kernel
theorem mw_233 : mW.getD 233 0 = 395 := by decide +kernel
theorem mw_234 : mW.getD 234 0 = 208 := by decide +kernel
theorem mw_235 : mW.getD 235 0 = 13 := by decide +kernel
theorem mw_236 : mW.getD 236 0 = 768 := by decide +kernel
theorem mw_237 : mW.getD 237 0 = 276 := by decide +kernel
theorem mw_238 : mW.getD 238 0 = 984 := by decide +kernel
theorem mw_239 : mW.getD 239 0 = 286 := by decide +kernel
theorem mw_240 : mW.getD 240 0 = 144 := by decide +kernel
theorem mw_241 : mW.getD 241 0 = 13 := by decide +kernel
theorem mw_242 : mW.getD 242 0 = 768 := by decide +kernel
theorem mw_243 : mW.getD 243 0 = 248 := by decide +kernel
theorem mw_244 : mW.getD 244 0 = 984 := by decide +kernel
theorem mw_245 : mW.getD 245 0 = 286 := by decide +kernel
theorem mw_246 : mW.getD 246 0 = 1360 := by decide +kernel
theorem mw_247 : mW.getD 247 0 = 0 := by decide +kernel
theorem mw_248 : mW.getD 248 0 = 337 := by decide +kernel
theorem mw_249 : mW.getD 249 0 = 395 := by decide +kernel
theorem mw_250 : mW.getD 250 0 = 168 := by decide +kernel
theorem mw_251 : mW.getD 251 0 = 400 := by decide +kernel
theorem mw_252 : mW.getD 252 0 = 176 := by decide +kernel
theorem mw_253 : mW.getD 253 0 = 401 := by decide +kernel
theorem mw_254 : mW.getD 254 0 = 184 := by decide +kernel
theorem mw_255 : mW.getD 255 0 = 402 := by decide +kernel
theorem mw_256 : mW.getD 256 0 = 768 := by decide +kernel
theorem mw_257 : mW.getD 257 0 = 276 := by decide +kernel
theorem mw_258 : mW.getD 258 0 = 984 := by decide +kernel
theorem mw_259 : mW.getD 259 0 = 286 := by decide +kernel
theorem mw_260 : mW.getD 260 0 = 273 := by decide +kernel
theorem mw_261 : mW.getD 261 0 = 395 := by decide +kernel
theorem mw_262 : mW.getD 262 0 = 1424 := by decide +kernel
theorem mw_263 : mW.getD 263 0 = 0 := by decide +kernel
theorem mw_264 : mW.getD 264 0 = 768 := by decide +kernel
theorem mw_265 : mW.getD 265 0 = 276 := by decide +kernel
theorem mw_266 : mW.getD 266 0 = 984 := by decide +kernel
theorem mw_267 : mW.getD 267 0 = 302 := by decide +kernel
theorem mw_268 : mW.getD 268 0 = 1489 := by decide +kernel
theorem mw_269 : mW.getD 269 0 = 0 := by decide +kernel
theorem mw_270 : mW.getD 270 0 = 768 := by decide +kernel
theorem mw_271 : mW.getD 271 0 = 276 := by decide +kernel
theorem mw_272 : mW.getD 272 0 = 984 := by decide +kernel
theorem mw_273 : mW.getD 273 0 = 302 := by decide +kernel
theorem mw_274 : mW.getD 274 0 = 1553 := by decide +kernel
theorem mw_275 : mW.getD 275 0 = 0 := by decide +kernel
theorem mw_276 : mW.getD 276 0 = 136 := by decide +kernel
theorem mw_277 : mW.getD 277 0 = 1 := by decide +kernel
theorem mw_278 : mW.getD 278 0 = 80 := by decide +kernel
theorem mw_279 : mW.getD 279 0 = 2 := by decide +kernel
theorem mw_280 : mW.getD 280 0 = 458 := by decide +kernel
theorem mw_281 : mW.getD 281 0 = 0 := by decide +kernel
theorem mw_282 : mW.getD 282 0 = 200 := by decide +kernel
theorem mw_283 : mW.getD 283 0 = 407 := by decide +kernel
theorem mw_284 : mW.getD 284 0 = 768 := by decide +kernel
theorem mw_285 : mW.getD 285 0 = 122 := by decide +kernel
theorem mw_286 : mW.getD 286 0 = 232 := by decide +kernel
theorem mw_287 : mW.getD 287 0 = 400 := by decide +kernel
theorem mw_288 : mW.getD 288 0 = 240 := by decide +kernel
theorem mw_289 : mW.getD 289 0 = 401 := by decide +kernel
theorem mw_290 : mW.getD 290 0 = 248 := by decide +kernel
theorem mw_291 : mW.getD 291 0 = 402 := by decide +kernel
theorem mw_292 : mW.getD 292 0 = 136 := by decide +kernel
theorem mw_293 : mW.getD 293 0 = 9 := by decide +kernel
theorem mw_294 : mW.getD 294 0 = 712 := by decide +kernel
theorem mw_295 : mW.getD 295 0 = 19 := by decide +kernel
theorem mw_296 : mW.getD 296 0 = 80 := by decide +kernel
theorem mw_297 : mW.getD 297 0 = 7 := by decide +kernel
theorem mw_298 : mW.getD 298 0 = 586 := by decide +kernel
theorem mw_299 : mW.getD 299 0 = 0 := by decide +kernel
theorem mw_300 : mW.getD 300 0 = 920 := by decide +kernel
theorem mw_301 : mW.getD 301 0 = 0 := by decide +kernel
theorem mw_302 : mW.getD 302 0 = 216 := by decide +kernel
theorem mw_303 : mW.getD 303 0 = 404 := by decide +kernel
theorem mw_304 : mW.getD 304 0 = 984 := by decide +kernel
theorem mw_305 : mW.getD 305 0 = 286 := by decide +kernel
theorem mw_306 : mW.getD 306 0 = 273 := by decide +kernel
theorem mw_307 : mW.getD 307 0 = 395 := by decide +kernel
theorem mw_308 : mW.getD 308 0 = 208 := by decide +kernel
theorem mw_309 : mW.getD 309 0 = 405 := by decide +kernel
theorem mw_310 : mW.getD 310 0 = 144 := by decide +kernel
theorem mw_311 : mW.getD 311 0 = 9 := by decide +kernel
theorem mw_312 : mW.getD 312 0 = 96 := by decide +kernel
theorem mw_313 : mW.getD 313 0 = 7 := by decide +kernel
theorem mw_314 : mW.getD 314 0 = 596 := by decide +kernel
theorem mw_315 : mW.getD 315 0 = 0 := by decide +kernel
theorem mw_316 : mW.getD 316 0 = 274 := by decide +kernel
theorem mw_317 : mW.getD 317 0 = 395 := by decide +kernel
theorem mw_318 : mW.getD 318 0 = 96 := by decide +kernel
theorem mw_319 : mW.getD 319 0 = 15 := by decide +kernel
theorem mw_320 : mW.getD 320 0 = 984 := by decide +kernel
theorem mw_321 : mW.getD 321 0 = 328 := by decide +kernel
theorem mw_322 : mW.getD 322 0 = 144 := by decide +kernel
theorem mw_323 : mW.getD 323 0 = 405 := by decide +kernel
theorem mw_324 : mW.getD 324 0 = 152 := by decide +kernel
theorem mw_325 : mW.getD 325 0 = 404 := by decide +kernel
theorem mw_326 : mW.getD 326 0 = 920 := by decide +kernel
theorem mw_327 : mW.getD 327 0 = 0 := by decide +kernel
theorem mw_328 : mW.getD 328 0 = 136 := by decide +kernel
theorem mw_329 : mW.getD 329 0 = 408 := by decide +kernel
theorem mw_330 : mW.getD 330 0 = 128 := by decide +kernel
theorem mw_331 : mW.getD 331 0 = 1 := by decide +kernel
theorem mw_332 : mW.getD 332 0 = 456 := by decide +kernel
theorem mw_333 : mW.getD 333 0 = 0 := by decide +kernel
theorem mw_334 : mW.getD 334 0 = 265 := by decide +kernel
theorem mw_335 : mW.getD 335 0 = 1 := by decide +kernel
theorem mw_336 : mW.getD 336 0 = 458 := by decide +kernel
theorem mw_337 : mW.getD 337 0 = 0 := by decide +kernel
theorem mw_338 : mW.getD 338 0 = 144 := by decide +kernel
theorem mw_339 : mW.getD 339 0 = 409 := by decide +kernel
theorem mw_340 : mW.getD 340 0 = 385 := by decide +kernel
theorem mw_341 : mW.getD 341 0 = 0 := by decide +kernel
theorem mw_342 : mW.getD 342 0 = 642 := by decide +kernel
theorem mw_343 : mW.getD 343 0 = 0 := by decide +kernel
theorem mw_344 : mW.getD 344 0 = 832 := by decide +kernel
theorem mw_345 : mW.getD 345 0 = 360 := by decide +kernel
theorem mw_346 : mW.getD 346 0 = 481 := by decide +kernel
theorem mw_347 : mW.getD 347 0 = 0 := by decide +kernel
theorem mw_348 : mW.getD 348 0 = 674 := by decide +kernel
theorem mw_349 : mW.getD 349 0 = 0 := by decide +kernel
theorem mw_350 : mW.getD 350 0 = 864 := by decide +kernel
theorem mw_351 : mW.getD 351 0 = 358 := by decide +kernel
theorem mw_352 : mW.getD 352 0 = 144 := by decide +kernel
theorem mw_353 : mW.getD 353 0 = 408 := by decide +kernel
theorem mw_354 : mW.getD 354 0 = 458 := by decide +kernel
theorem mw_355 : mW.getD 355 0 = 0 := by decide +kernel
theorem mw_356 : mW.getD 356 0 = 920 := by decide +kernel
theorem mw_357 : mW.getD 357 0 = 0 := by decide +kernel
theorem mw_358 : mW.getD 358 0 = 394 := by decide +kernel
theorem mw_359 : mW.getD 359 0 = 0 := by decide +kernel
theorem mw_360 : mW.getD 360 0 = 200 := by decide +kernel
theorem mw_361 : mW.getD 361 0 = 9 := by decide +kernel
theorem mw_362 : mW.getD 362 0 = 72 := by decide +kernel
theorem mw_363 : mW.getD 363 0 = 2 := by decide +kernel
theorem mw_364 : mW.getD 364 0 = 200 := by decide +kernel
theorem mw_365 : mW.getD 365 0 = 8 := by decide +kernel
theorem mw_366 : mW.getD 366 0 = 64 := by decide +kernel
theorem mw_367 : mW.getD 367 0 = 0 := by decide +kernel
theorem mw_368 : mW.getD 368 0 = 768 := by decide +kernel
theorem mw_369 : mW.getD 369 0 = 50 := by decide +kernel
theorem mw_370 : mW.getD 370 0 = 180 := by decide +kernel
theorem mw_371 : mW.getD 371 0 = 0 := by decide +kernel
theorem mw_372 : mW.getD 372 0 = 0 := by decide +kernel
theorem mw_373 : mW.getD 373 0 = 0 := by decide +kernel
theorem mw_374 : mW.getD 374 0 = 0 := by decide +kernel
theorem mw_375 : mW.getD 375 0 = 0 := by decide +kernel
theorem mw_376 : mW.getD 376 0 = 0 := by decide +kernel
theorem mw_377 : mW.getD 377 0 = 0 := by decide +kernel
theorem mw_378 : mW.getD 378 0 = 0 := by decide +kernel
theorem mw_379 : mW.getD 379 0 = 0 := by decide +kernel
theorem mw_380 : mW.getD 380 0 = 0 := by decide +kernel
theorem mw_381 : mW.getD 381 0 = 0 := by decide +kernel
theorem mw_382 : mW.getD 382 0 = 0 := by decide +kernel
theorem mw_383 : mW.getD 383 0 = 0 := by decide +kernel
theorem mw_384 : mW.getD 384 0 = 0 := by decide +kernel
theorem mw_385 : mW.getD 385 0 = 0 := by decide +kernel
theorem mw_386 : mW.getD 386 0 = 0 := by decide +kernel
theorem mw_387 : mW.getD 387 0 = 192 := by decide +kernel
theorem mw_388 : mW.getD 388 0 = 202 := by decide +kernel
theorem mw_389 : mW.getD 389 0 = 230 := by decide +kernel
theorem mw_390 : mW.getD 390 0 = 238 := by decide +kernel
theorem mw_391 : mW.getD 391 0 = 244 := by decide +kernel
theorem mw_392 : mW.getD 392 0 = 258 := by decide +kernel
theorem mw_393 : mW.getD 393 0 = 266 := by decide +kernel
theorem mw_394 : mW.getD 394 0 = 272 := by decide +kernel
end
section
section MON2
variable {r0 r1 r2 r3 r4 r5 r6 r7 : Nat} {g : Nat → Nat} {S k c bo ti : Nat} {Q : mc_S → Prop} {ro : Bool} {m dk : Nat → Nat} {cs : mc_K}
theorem bb_16 (hS : 474 ≤ S ∧ S ≤ bo) (hc : mcode m)  (kk : RN S Q k c ((if (m 406) = 0 then 0 else 1), (m 407), (m 408), ((bo + 65536 - 410) % 65536), ti, ro, false, rf 0 0 r2 r3 r4 r5 r6 r7 g, (mu (mu (mu (mu (mu (mu (mu m 0 0) 1 18) 2 0) 3 bo) 403 ((bo + 65536 - 410) % 65536)) 12 ((bo + 65536 - 410) % 65536)) 409 ((bo + 65536 - 410) % 65536)), dk, cs)) : RN S Q (k + 10) (c + 408) (0, 16, 0, bo, ti, ro, false, rf r0 r1 r2 r3 r4 r5 r6 r7 g, m, dk, cs) := by
  refine mo_pv hS hc (by decide) mw_16 mw_17 (ad := 0) (ct := 4) (by decide) rfl rfl (by omega) (s' := (0, 18, 0, bo, ti, ro, false, rf r0 r1 r2 r3 r4 r5 r6 r7 g, (mu (mu (mu (mu m 0 0) 1 18) 2 0) 3 bo), dk, cs)) rfl ?_
  have hc := mcode_mu (a := 0) (x := 0) hc (by omega)
  have hc := mcode_mu (a := 1) (x := 18) hc (by omega)
  have hc := mcode_mu (a := 2) (x := 0) hc (by omega)
  have hc := mcode_mu (a := 3) (x := bo) hc (by omega)
  refine mo_ld hS hc (by decide) mw_18 mw_19 (ad := 3) (v := bo) (by decide) rfl (by omega) (mu_s _ _ _) rf_m0 ?_
  refine mo_alu hS hc (by decide) mw_20 mw_21 (by decide) (nx := 22) (rg1 := mu (rf bo r1 r2 r3 r4 r5 r6 r7 g) 1 410) rfl rf_m1 ?_
  refine mo_alu hS hc (by decide) mw_22 mw_23 (by decide) (nx := 24) (rg1 := mu (rf bo 410 r2 r3 r4 r5 r6 r7 g) 0 ((bo + 65536 - 410) % 65536)) rfl rf_m0 ?_
  refine mo_sto hS hc (by decide) mw_24 mw_25 (ad := 403) (v := ((bo + 65536 - 410) % 65536)) (by decide) rfl (by omega) rfl ?_
  have hc := mcode_mu (a := 403) (x := ((bo + 65536 - 410) % 65536)) hc (by omega)
  refine mo_sto hS hc (by decide) mw_26 mw_27 (ad := 12) (v := ((bo + 65536 - 410) % 65536)) (by decide) rfl (by omega) rfl ?_
  have hc := mcode_mu (a := 12) (x := ((bo + 65536 - 410) % 65536)) hc (by omega)
  refine mo_sto hS hc (by decide) mw_28 mw_29 (ad := 409) (v := ((bo + 65536 - 410) % 65536)) (by decide) rfl (by omega) rfl ?_
  have hc := mcode_mu (a := 409) (x := ((bo + 65536 - 410) % 65536)) hc (by omega)
  refine mo_alu hS hc (by decide) mw_30 mw_31 (by decide) (nx := 32) (rg1 := mu (rf ((bo + 65536 - 410) % 65536) 410 r2 r3 r4 r5 r6 r7 g) 0 0) rfl rf_m0 ?_
  refine mo_alu hS hc (by decide) mw_32 mw_33 (by decide) (nx := 34) (rg1 := mu (rf 0 410 r2 r3 r4 r5 r6 r7 g) 1 0) rfl rf_m1 ?_
  refine mo_pv hS hc (by decide) mw_34 mw_35 (ad := 406) (ct := 4) (by decide) rfl rfl (by omega) (s' := ((if (m 406) = 0 then 0 else 1), (m 407), (m 408), ((bo + 65536 - 410) % 65536), ti, ro, false, rf 0 0 r2 r3 r4 r5 r6 r7 g, (mu (mu (mu (mu (mu (mu (mu m 0 0) 1 18) 2 0) 3 bo) 403 ((bo + 65536 - 410) % 65536)) 12 ((bo + 65536 - 410) % 65536)) 409 ((bo + 65536 - 410) % 65536)), dk, cs)) rfl ?_
  exact kk
theorem bb_36 (hS : 474 ≤ S ∧ S ≤ bo) (hc : mcode m)  (kk : RN S Q k c (0, (if (m 10) = 0 then 162 else 50), 0, bo, ti, ro, false, rf (m 10) r1 r2 r3 r4 r5 r6 r7 g, (mu (mu (mu (mu (mu m 395 r0) 396 r1) 397 r2) 398 r3) 399 r4), dk, cs)) : RN S Q (k + 7) (c + 7) (0, 36, 0, bo, ti, ro, false, rf r0 r1 r2 r3 r4 r5 r6 r7 g, m, dk, cs) := by
  refine mo_sto hS hc (by decide) mw_36 mw_37 (ad := 395) (v := r0) (by decide) rfl (by omega) rfl ?_
  have hc := mcode_mu (a := 395) (x := r0) hc (by omega)
  refine mo_sto hS hc (by decide) mw_38 mw_39 (ad := 396) (v := r1) (by decide) rfl (by omega) rfl ?_
  have hc := mcode_mu (a := 396) (x := r1) hc (by omega)
  refine mo_sto hS hc (by decide) mw_40 mw_41 (ad := 397) (v := r2) (by decide) rfl (by omega) rfl ?_
  have hc := mcode_mu (a := 397) (x := r2) hc (by omega)
  refine mo_sto hS hc (by decide) mw_42 mw_43 (ad := 398) (v := r3) (by decide) rfl (by omega) rfl ?_
  have hc := mcode_mu (a := 398) (x := r3) hc (by omega)
  refine mo_sto hS hc (by decide) mw_44 mw_45 (ad := 399) (v := r4) (by decide) rfl (by omega) rfl ?_
  have hc := mcode_mu (a := 399) (x := r4) hc (by omega)
  refine mo_ld hS hc (by decide) mw_46 mw_47 (ad := 10) (v := (m 10)) (by decide) rfl (by omega) ((mu_n _ _ (by decide)).trans ((mu_n _ _ (by decide)).trans ((mu_n _ _ (by decide)).trans ((mu_n _ _ (by decide)).trans ((mu_n _ _ (by decide)).trans (rfl)))))) rf_m0 ?_
  refine mo_alu hS hc (by decide) mw_48 mw_49 (by decide) (nx := (if (m 10) = 0 then 162 else 50)) (rg1 := rf (m 10) r1 r2 r3 r4 r5 r6 r7 g) rfl rfl ?_
  exact kk
theorem bb_50 (hS : 474 ≤ S ∧ S ≤ bo) (hc : mcode m)  (kk : RN S Q k c (0, 74, 0, bo, ti, ro, false, rf r0 414 r2 r3 r4 r5 r6 r7 g, (mu (mu (mu (mu (mu (mu m 410 r0) 411 (m 1)) 412 (m 11)) 413 (m 12)) 418 (m 8)) 419 (m 9)), dk, cs)) : RN S Q (k + 12) (c + 12) (0, 50, 0, bo, ti, ro, false, rf r0 r1 r2 r3 r4 r5 r6 r7 g, m, dk, cs) := by
  refine mo_sto hS hc (by decide) mw_50 mw_51 (ad := 410) (v := r0) (by decide) rfl (by omega) rfl ?_
  have hc := mcode_mu (a := 410) (x := r0) hc (by omega)
  refine mo_ld hS hc (by decide) mw_52 mw_53 (ad := 1) (v := (m 1)) (by decide) rfl (by omega) ((mu_n _ _ (by decide)).trans (rfl)) rf_m1 ?_
  refine mo_sto hS hc (by decide) mw_54 mw_55 (ad := 411) (v := (m 1)) (by decide) rfl (by omega) rfl ?_
  have hc := mcode_mu (a := 411) (x := (m 1)) hc (by omega)
  refine mo_ld hS hc (by decide) mw_56 mw_57 (ad := 11) (v := (m 11)) (by decide) rfl (by omega) ((mu_n _ _ (by decide)).trans ((mu_n _ _ (by decide)).trans (rfl))) rf_m1 ?_
  refine mo_sto hS hc (by decide) mw_58 mw_59 (ad := 412) (v := (m 11)) (by decide) rfl (by omega) rfl ?_
  have hc := mcode_mu (a := 412) (x := (m 11)) hc (by omega)
  refine mo_ld hS hc (by decide) mw_60 mw_61 (ad := 12) (v := (m 12)) (by decide) rfl (by omega) ((mu_n _ _ (by decide)).trans ((mu_n _ _ (by decide)).trans ((mu_n _ _ (by decide)).trans (rfl)))) rf_m1 ?_
  refine mo_sto hS hc (by decide) mw_62 mw_63 (ad := 413) (v := (m 12)) (by decide) rfl (by omega) rfl ?_
  have hc := mcode_mu (a := 413) (x := (m 12)) hc (by omega)
  refine mo_ld hS hc (by decide) mw_64 mw_65 (ad := 8) (v := (m 8)) (by decide) rfl (by omega) ((mu_n _ _ (by decide)).trans ((mu_n _ _ (by decide)).trans ((mu_n _ _ (by decide)).trans ((mu_n _ _ (by decide)).trans (rfl))))) rf_m1 ?_
  refine mo_sto hS hc (by decide) mw_66 mw_67 (ad := 418) (v := (m 8)) (by decide) rfl (by omega) rfl ?_
  have hc := mcode_mu (a := 418) (x := (m 8)) hc (by omega)
  refine mo_ld hS hc (by decide) mw_68 mw_69 (ad := 9) (v := (m 9)) (by decide) rfl (by omega) ((mu_n _ _ (by decide)).trans ((mu_n _ _ (by decide)).trans ((mu_n _ _ (by decide)).trans ((mu_n _ _ (by decide)).trans ((mu_n _ _ (by decide)).trans (rfl)))))) rf_m1 ?_
  refine mo_sto hS hc (by decide) mw_70 mw_71 (ad := 419) (v := (m 9)) (by decide) rfl (by omega) rfl ?_
  have hc := mcode_mu (a := 419) (x := (m 9)) hc (by omega)
  refine mo_alu hS hc (by decide) mw_72 mw_73 (by decide) (nx := 74) (rg1 := mu (rf r0 (m 9) r2 r3 r4 r5 r6 r7 g) 1 414) rfl rf_m1 ?_
  exact kk
theorem bb_74 (hS : 474 ≤ S ∧ S ≤ bo) (hc : mcode m) {a74 : Nat} (e74 : (r1 + 1) % 65536 = a74) (b74 : a74 < S) {a78 : Nat} (e78 : (r1 + 2) % 65536 = a78) (b78 : a78 < S) {a82 : Nat} (e82 : (r1 + 3) % 65536 = a82) (b82 : a82 < S) {a86 : Nat} (e86 : (r1 + 0) % 65536 = a86) (b86 : a86 < S) (kk : RN S Q k c (0, (if (if ((mu m 407 (m a74)) a78) < (m 403) then 1 else 0) = 0 then 134 else 100), 0, bo, ti, ro, false, rf r0 ((mu (mu (mu m 407 (m a74)) 11 ((mu m 407 (m a74)) a78)) 12 ((mu (mu m 407 (m a74)) 11 ((mu m 407 (m a74)) a78)) a82)) a86) (if ((mu m 407 (m a74)) a78) < (m 403) then 1 else 0) ((mu (mu m 407 (m a74)) 11 ((mu m 407 (m a74)) a78)) a82) (m 403) r5 r6 r7 g, (mu (mu (mu (mu m 407 (m a74)) 11 ((mu m 407 (m a74)) a78)) 12 ((mu (mu m 407 (m a74)) 11 ((mu m 407 (m a74)) a78)) a82)) 408 ((410 + ((mu m 407 (m a74)) a78)) % 65536)), dk, cs)) : RN S Q (k + 13) (c + 13) (0, 74, 0, bo, ti, ro, false, rf r0 r1 r2 r3 r4 r5 r6 r7 g, m, dk, cs) := by
  refine mo_ld hS hc (by decide) mw_74 mw_75 (ad := a74) (v := (m a74)) (by decide) e74 b74 rfl rf_m2 ?_
  refine mo_sto hS hc (by decide) mw_76 mw_77 (ad := 407) (v := (m a74)) (by decide) rfl (by omega) rfl ?_
  have hc := mcode_mu (a := 407) (x := (m a74)) hc (by omega)
  refine mo_ld hS hc (by decide) mw_78 mw_79 (ad := a78) (v := ((mu m 407 (m a74)) a78)) (by decide) e78 b78 rfl rf_m2 ?_
  refine mo_sto hS hc (by decide) mw_80 mw_81 (ad := 11) (v := ((mu m 407 (m a74)) a78)) (by decide) rfl (by omega) rfl ?_
  have hc := mcode_mu (a := 11) (x := ((mu m 407 (m a74)) a78)) hc (by omega)
  refine mo_ld hS hc (by decide) mw_82 mw_83 (ad := a82) (v := ((mu (mu m 407 (m a74)) 11 ((mu m 407 (m a74)) a78)) a82)) (by decide) e82 b82 rfl rf_m3 ?_
  refine mo_sto hS hc (by decide) mw_84 mw_85 (ad := 12) (v := ((mu (mu m 407 (m a74)) 11 ((mu m 407 (m a74)) a78)) a82)) (by decide) rfl (by omega) rfl ?_
  have hc := mcode_mu (a := 12) (x := ((mu (mu m 407 (m a74)) 11 ((mu m 407 (m a74)) a78)) a82)) hc (by omega)
  refine mo_ld hS hc (by decide) mw_86 mw_87 (ad := a86) (v := ((mu (mu (mu m 407 (m a74)) 11 ((mu m 407 (m a74)) a78)) 12 ((mu (mu m 407 (m a74)) 11 ((mu m 407 (m a74)) a78)) a82)) a86)) (by decide) e86 b86 rfl rf_m1 ?_
  refine mo_alu hS hc (by decide) mw_88 mw_89 (by decide) (nx := 90) (rg1 := mu (rf r0 ((mu (mu (mu m 407 (m a74)) 11 ((mu m 407 (m a74)) a78)) 12 ((mu (mu m 407 (m a74)) 11 ((mu m 407 (m a74)) a78)) a82)) a86) ((mu m 407 (m a74)) a78) ((mu (mu m 407 (m a74)) 11 ((mu m 407 (m a74)) a78)) a82) r4 r5 r6 r7 g) 4 410) rfl rf_m4 ?_
  refine mo_alu hS hc (by decide) mw_90 mw_91 (by decide) (nx := 92) (rg1 := mu (rf r0 ((mu (mu (mu m 407 (m a74)) 11 ((mu m 407 (m a74)) a78)) 12 ((mu (mu m 407 (m a74)) 11 ((mu m 407 (m a74)) a78)) a82)) a86) ((mu m 407 (m a74)) a78) ((mu (mu m 407 (m a74)) 11 ((mu m 407 (m a74)) a78)) a82) 410 r5 r6 r7 g) 4 ((410 + ((mu m 407 (m a74)) a78)) % 65536)) rfl rf_m4 ?_
  refine mo_sto hS hc (by decide) mw_92 mw_93 (ad := 408) (v := ((410 + ((mu m 407 (m a74)) a78)) % 65536)) (by decide) rfl (by omega) rfl ?_
  have hc := mcode_mu (a := 408) (x := ((410 + ((mu m 407 (m a74)) a78)) % 65536)) hc (by omega)
  refine mo_ld hS hc (by decide) mw_94 mw_95 (ad := 403) (v := (m 403)) (by decide) rfl (by omega) ((mu_n _ _ (by decide)).trans ((mu_n _ _ (by decide)).trans ((mu_n _ _ (by decide)).trans ((mu_n _ _ (by decide)).trans (rfl))))) rf_m4 ?_
  refine mo_alu hS hc (by decide) mw_96 mw_97 (by decide) (nx := 98) (rg1 := mu (rf r0 ((mu (mu (mu m 407 (m a74)) 11 ((mu m 407 (m a74)) a78)) 12 ((mu (mu m 407 (m a74)) 11 ((mu m 407 (m a74)) a78)) a82)) a86) ((mu m 407 (m a74)) a78) ((mu (mu m 407 (m a74)) 11 ((mu m 407 (m a74)) a78)) a82) (m 403) r5 r6 r7 g) 2 (if ((mu m 407 (m a74)) a78) < (m 403) then 1 else 0)) rfl rf_m2 ?_
  refine mo_alu hS hc (by decide) mw_98 mw_99 (by decide) (nx := (if (if ((mu m 407 (m a74)) a78) < (m 403) then 1 else 0) = 0 then 134 else 100)) (rg1 := rf r0 ((mu (mu (mu m 407 (m a74)) 11 ((mu m 407 (m a74)) a78)) 12 ((mu (mu m 407 (m a74)) 11 ((mu m 407 (m a74)) a78)) a82)) a86) (if ((mu m 407 (m a74)) a78) < (m 403) then 1 else 0) ((mu (mu m 407 (m a74)) 11 ((mu m 407 (m a74)) a78)) a82) (m 403) r5 r6 r7 g) rfl rfl ?_
  exact kk
theorem bb_100 (hS : 474 ≤ S ∧ S ≤ bo) (hc : mcode m)  (kk : RN S Q k c (0, (if (if ((r4 + 65536 - (m 11)) % 65536) < r3 then 1 else 0) = 0 then 112 else 110), 0, bo, ti, ro, false, rf r0 r1 (if ((r4 + 65536 - (m 11)) % 65536) < r3 then 1 else 0) r3 ((r4 + 65536 - (m 11)) % 65536) r5 r6 r7 g, m, dk, cs)) : RN S Q (k + 5) (c + 5) (0, 100, 0, bo, ti, ro, false, rf r0 r1 r2 r3 r4 r5 r6 r7 g, m, dk, cs) := by
  refine mo_ld hS hc (by decide) mw_100 mw_101 (ad := 11) (v := (m 11)) (by decide) rfl (by omega) (rfl) rf_m2 ?_
  refine mo_alu hS hc (by decide) mw_102 mw_103 (by decide) (nx := 104) (rg1 := mu (rf r0 r1 (m 11) r3 r4 r5 r6 r7 g) 4 ((r4 + 65536 - (m 11)) % 65536)) rfl rf_m4 ?_
  refine mo_alu hS hc (by decide) mw_104 mw_105 (by decide) (nx := 106) (rg1 := mu (rf r0 r1 (m 11) r3 ((r4 + 65536 - (m 11)) % 65536) r5 r6 r7 g) 2 ((r4 + 65536 - (m 11)) % 65536)) rfl rf_m2 ?_
  refine mo_alu hS hc (by decide) mw_106 mw_107 (by decide) (nx := 108) (rg1 := mu (rf r0 r1 ((r4 + 65536 - (m 11)) % 65536) r3 ((r4 + 65536 - (m 11)) % 65536) r5 r6 r7 g) 2 (if ((r4 + 65536 - (m 11)) % 65536) < r3 then 1 else 0)) rfl rf_m2 ?_
  refine mo_alu hS hc (by decide) mw_108 mw_109 (by decide) (nx := (if (if ((r4 + 65536 - (m 11)) % 65536) < r3 then 1 else 0) = 0 then 112 else 110)) (rg1 := rf r0 r1 (if ((r4 + 65536 - (m 11)) % 65536) < r3 then 1 else 0) r3 ((r4 + 65536 - (m 11)) % 65536) r5 r6 r7 g) rfl rfl ?_
  exact kk
theorem bb_110 (hS : 474 ≤ S ∧ S ≤ bo) (hc : mcode m)  (kk : RN S Q k c (0, 112, 0, bo, ti, ro, false, rf r0 r1 r2 r4 r4 r5 r6 r7 g, m, dk, cs)) : RN S Q (k + 1) (c + 1) (0, 110, 0, bo, ti, ro, false, rf r0 r1 r2 r3 r4 r5 r6 r7 g, m, dk, cs) := by
  refine mo_alu hS hc (by decide) mw_110 mw_111 (by decide) (nx := 112) (rg1 := mu (rf r0 r1 r2 r3 r4 r5 r6 r7 g) 3 r4) rfl rf_m3 ?_
  exact kk
theorem bb_112 (hS : 474 ≤ S ∧ S ≤ bo) (hc : mcode m)  (kk : RN S Q k c (0, (if r1 = 0 then 146 else 116), 0, bo, ti, ro, false, rf r0 r1 r2 r3 r4 r5 r6 r7 g, (mu m 409 r3), dk, cs)) : RN S Q (k + 2) (c + 2) (0, 112, 0, bo, ti, ro, false, rf r0 r1 r2 r3 r4 r5 r6 r7 g, m, dk, cs) := by
  refine mo_sto hS hc (by decide) mw_112 mw_113 (ad := 409) (v := r3) (by decide) rfl (by omega) rfl ?_
  have hc := mcode_mu (a := 409) (x := r3) hc (by omega)
  refine mo_alu hS hc (by decide) mw_114 mw_115 (by decide) (nx := (if r1 = 0 then 146 else 116)) (rg1 := rf r0 r1 r2 r3 r4 r5 r6 r7 g) rfl rfl ?_
  exact kk
theorem bb_116 (hS : 474 ≤ S ∧ S ≤ bo) (hc : mcode m)  (kk : RN S Q k c (0, (if r0 = 0 then 138 else 122), 0, bo, ti, ro, false, rf r0 1 r2 r3 r4 r5 r6 r7 g, (mu m 10 1), dk, cs)) : RN S Q (k + 3) (c + 3) (0, 116, 0, bo, ti, ro, false, rf r0 r1 r2 r3 r4 r5 r6 r7 g, m, dk, cs) := by
  refine mo_alu hS hc (by decide) mw_116 mw_117 (by decide) (nx := 118) (rg1 := mu (rf r0 r1 r2 r3 r4 r5 r6 r7 g) 1 1) rfl rf_m1 ?_
  refine mo_sto hS hc (by decide) mw_118 mw_119 (ad := 10) (v := 1) (by decide) rfl (by omega) rfl ?_
  have hc := mcode_mu (a := 10) (x := 1) hc (by omega)
  refine mo_alu hS hc (by decide) mw_120 mw_121 (by decide) (nx := (if r0 = 0 then 138 else 122)) (rg1 := rf r0 1 r2 r3 r4 r5 r6 r7 g) rfl rfl ?_
  exact kk
theorem bb_122 (hS : 474 ≤ S ∧ S ≤ bo) (hc : mcode m)  (kk : RN S Q k c ((if (m 406) = 0 then 0 else 1), (m 407), (m 408), (m 409), ti, ro, false, rf (m 395) (m 396) (m 397) (m 398) (m 399) r5 r6 r7 g, m, dk, cs)) : RN S Q (k + 6) (c + 205) (0, 122, 0, bo, ti, ro, false, rf r0 r1 r2 r3 r4 r5 r6 r7 g, m, dk, cs) := by
  refine mo_ld hS hc (by decide) mw_122 mw_123 (ad := 395) (v := (m 395)) (by decide) rfl (by omega) (rfl) rf_m0 ?_
  refine mo_ld hS hc (by decide) mw_124 mw_125 (ad := 396) (v := (m 396)) (by decide) rfl (by omega) (rfl) rf_m1 ?_
  refine mo_ld hS hc (by decide) mw_126 mw_127 (ad := 397) (v := (m 397)) (by decide) rfl (by omega) (rfl) rf_m2 ?_
  refine mo_ld hS hc (by decide) mw_128 mw_129 (ad := 398) (v := (m 398)) (by decide) rfl (by omega) (rfl) rf_m3 ?_
  refine mo_ld hS hc (by decide) mw_130 mw_131 (ad := 399) (v := (m 399)) (by decide) rfl (by omega) (rfl) rf_m4 ?_
  refine mo_pv hS hc (by decide) mw_132 mw_133 (ad := 406) (ct := 4) (by decide) rfl rfl (by omega) (s' := ((if (m 406) = 0 then 0 else 1), (m 407), (m 408), (m 409), ti, ro, false, rf (m 395) (m 396) (m 397) (m 398) (m 399) r5 r6 r7 g, m, dk, cs)) rfl ?_
  exact kk
theorem bb_134 (hS : 474 ≤ S ∧ S ≤ bo) (hc : mcode m)  (kk : RN S Q k c (0, 112, 0, bo, ti, ro, false, rf r0 r1 r2 0 r4 r5 r6 r7 g, m, dk, cs)) : RN S Q (k + 2) (c + 2) (0, 134, 0, bo, ti, ro, false, rf r0 r1 r2 r3 r4 r5 r6 r7 g, m, dk, cs) := by
  refine mo_alu hS hc (by decide) mw_134 mw_135 (by decide) (nx := 136) (rg1 := mu (rf r0 r1 r2 r3 r4 r5 r6 r7 g) 3 0) rfl rf_m3 ?_
  refine mo_alu hS hc (by decide) mw_136 mw_137 (by decide) (nx := 112) (rg1 := rf r0 r1 r2 0 r4 r5 r6 r7 g) rfl rfl ?_
  exact kk
theorem bb_138 (hS : 474 ≤ S ∧ S ≤ bo) (hc : mcode m)  (kk : RN S Q k c (0, (if (m 13) = 0 then 122 else 142), 0, bo, ti, ro, false, rf r0 (m 13) r2 r3 r4 r5 r6 r7 g, m, dk, cs)) : RN S Q (k + 2) (c + 2) (0, 138, 0, bo, ti, ro, false, rf r0 r1 r2 r3 r4 r5 r6 r7 g, m, dk, cs) := by
  refine mo_ld hS hc (by decide) mw_138 mw_139 (ad := 13) (v := (m 13)) (by decide) rfl (by omega) (rfl) rf_m1 ?_
  refine mo_alu hS hc (by decide) mw_140 mw_141 (by decide) (nx := (if (m 13) = 0 then 122 else 142)) (rg1 := rf r0 (m 13) r2 r3 r4 r5 r6 r7 g) rfl rfl ?_
  exact kk
theorem bb_142 (hS : 474 ≤ S ∧ S ≤ bo) (hc : mcode m)  (kk : RN S Q k c (0, 122, 0, bo, r1, false, false, rf r0 r1 r2 r3 r4 r5 r6 r7 g, m, dk, cs)) : RN S Q (k + 2) (c + 201) (0, 142, 0, bo, ti, ro, false, rf r0 r1 r2 r3 r4 r5 r6 r7 g, m, dk, cs) := by
  refine mo_pv hS hc (by decide) mw_142 mw_143 (ad := 0) (ct := 0) (by decide) rfl rfl (by omega) (s' := (0, 144, 0, bo, r1, false, false, rf r0 r1 r2 r3 r4 r5 r6 r7 g, m, dk, cs)) rfl ?_
  refine mo_alu hS hc (by decide) mw_144 mw_145 (by decide) (nx := 122) (rg1 := rf r0 r1 r2 r3 r4 r5 r6 r7 g) rfl rfl ?_
  exact kk
theorem bb_146 (hS : 474 ≤ S ∧ S ≤ bo) (hc : mcode m)  (kk : RN S Q k c (0, (if r0 = 0 then 122 else 150), 0, bo, ti, ro, false, rf r0 r1 r2 r3 r4 r5 r6 r7 g, (mu m 10 r1), dk, cs)) : RN S Q (k + 2) (c + 2) (0, 146, 0, bo, ti, ro, false, rf r0 r1 r2 r3 r4 r5 r6 r7 g, m, dk, cs) := by
  refine mo_sto hS hc (by decide) mw_146 mw_147 (ad := 10) (v := r1) (by decide) rfl (by omega) rfl ?_
  have hc := mcode_mu (a := 10) (x := r1) hc (by omega)
  refine mo_alu hS hc (by decide) mw_148 mw_149 (by decide) (nx := (if r0 = 0 then 122 else 150)) (rg1 := rf r0 r1 r2 r3 r4 r5 r6 r7 g) rfl rfl ?_
  exact kk
theorem bb_150 (hS : 474 ≤ S ∧ S ≤ bo) (hc : mcode m)  (kk : RN S Q k c (0, (if ti = 0 then 122 else 156), 0, bo, ti, ro, false, rf r0 ti r2 r3 r4 r5 r6 r7 g, (mu m 13 ti), dk, cs)) : RN S Q (k + 3) (c + 202) (0, 150, 0, bo, ti, ro, false, rf r0 r1 r2 r3 r4 r5 r6 r7 g, m, dk, cs) := by
  refine mo_pv hS hc (by decide) mw_150 mw_151 (ad := 0) (ct := 0) (by decide) rfl rfl (by omega) (s' := (0, 152, 0, bo, ti, ro, false, rf r0 ti r2 r3 r4 r5 r6 r7 g, m, dk, cs)) (by show (_, _, _, _, _, _, _, mu _ _ _, _, _, _) = _; rw [rf_m1]) ?_
  refine mo_sto hS hc (by decide) mw_152 mw_153 (ad := 13) (v := ti) (by decide) rfl (by omega) rfl ?_
  have hc := mcode_mu (a := 13) (x := ti) hc (by omega)
  refine mo_alu hS hc (by decide) mw_154 mw_155 (by decide) (nx := (if ti = 0 then 122 else 156)) (rg1 := rf r0 ti r2 r3 r4 r5 r6 r7 g) rfl rfl ?_
  exact kk
theorem bb_156 (hS : 474 ≤ S ∧ S ≤ bo) (hc : mcode m)  (kk : RN S Q k c (0, 122, 0, bo, 0, false, false, rf r0 0 r2 r3 r4 r5 r6 r7 g, m, dk, cs)) : RN S Q (k + 3) (c + 202) (0, 156, 0, bo, ti, ro, false, rf r0 r1 r2 r3 r4 r5 r6 r7 g, m, dk, cs) := by
  refine mo_alu hS hc (by decide) mw_156 mw_157 (by decide) (nx := 158) (rg1 := mu (rf r0 r1 r2 r3 r4 r5 r6 r7 g) 1 0) rfl rf_m1 ?_
  refine mo_pv hS hc (by decide) mw_158 mw_159 (ad := 0) (ct := 0) (by decide) rfl rfl (by omega) (s' := (0, 160, 0, bo, 0, false, false, rf r0 0 r2 r3 r4 r5 r6 r7 g, m, dk, cs)) rfl ?_
  refine mo_alu hS hc (by decide) mw_160 mw_161 (by decide) (nx := 122) (rg1 := rf r0 0 r2 r3 r4 r5 r6 r7 g) rfl rfl ?_
  exact kk
theorem bb_162 (hS : 474 ≤ S ∧ S ≤ bo) (hc : mcode m)  (kk : RN S Q k c (0, (if (((m 8) + 65536 - 1) % 65536) = 0 then 172 else 170), 0, bo, ti, ro, false, rf r0 (((m 8) + 65536 - 1) % 65536) 1 r3 r4 r5 r6 r7 g, m, dk, cs)) : RN S Q (k + 4) (c + 4) (0, 162, 0, bo, ti, ro, false, rf r0 r1 r2 r3 r4 r5 r6 r7 g, m, dk, cs) := by
  refine mo_ld hS hc (by decide) mw_162 mw_163 (ad := 8) (v := (m 8)) (by decide) rfl (by omega) (rfl) rf_m1 ?_
  refine mo_alu hS hc (by decide) mw_164 mw_165 (by decide) (nx := 166) (rg1 := mu (rf r0 (m 8) r2 r3 r4 r5 r6 r7 g) 2 1) rfl rf_m2 ?_
  refine mo_alu hS hc (by decide) mw_166 mw_167 (by decide) (nx := 168) (rg1 := mu (rf r0 (m 8) 1 r3 r4 r5 r6 r7 g) 1 (((m 8) + 65536 - 1) % 65536)) rfl rf_m1 ?_
  refine mo_alu hS hc (by decide) mw_168 mw_169 (by decide) (nx := (if (((m 8) + 65536 - 1) % 65536) = 0 then 172 else 170)) (rg1 := rf r0 (((m 8) + 65536 - 1) % 65536) 1 r3 r4 r5 r6 r7 g) rfl rfl ?_
  exact kk
theorem bb_170 (hS : 474 ≤ S ∧ S ≤ bo) (hc : mcode m)  (kk : RN S Q k c (0, 50, 0, bo, ti, ro, false, rf r0 r1 r2 r3 r4 r5 r6 r7 g, m, dk, cs)) : RN S Q (k + 1) (c + 1) (0, 170, 0, bo, ti, ro, false, rf r0 r1 r2 r3 r4 r5 r6 r7 g, m, dk, cs) := by
  refine mo_alu hS hc (by decide) mw_170 mw_171 (by decide) (nx := 50) (rg1 := rf r0 r1 r2 r3 r4 r5 r6 r7 g) rfl rfl ?_
  exact kk
theorem bb_172 (hS : 474 ≤ S ∧ S ≤ bo) (hc : mcode m) {a176 : Nat} (e176 : ((mc_sh (m 9) 22) + 370) % 65536 = a176) (b176 : a176 < S) (kk : RN S Q k c (0, (m a176), 0, bo, ti, ro, false, rf r0 (m a176) r2 r3 r4 r5 r6 r7 g, m, dk, cs)) : RN S Q (k + 4) (c + 4) (0, 172, 0, bo, ti, ro, false, rf r0 r1 r2 r3 r4 r5 r6 r7 g, m, dk, cs) := by
  refine mo_ld hS hc (by decide) mw_172 mw_173 (ad := 9) (v := (m 9)) (by decide) rfl (by omega) (rfl) rf_m1 ?_
  refine mo_alu hS hc (by decide) mw_174 mw_175 (by decide) (nx := 176) (rg1 := mu (rf r0 (m 9) r2 r3 r4 r5 r6 r7 g) 1 (mc_sh (m 9) 22)) rfl rf_m1 ?_
  refine mo_ld hS hc (by decide) mw_176 mw_177 (ad := a176) (v := (m a176)) (by decide) e176 b176 rfl rf_m1 ?_
  refine mo_alu hS hc (by decide) mw_178 mw_179 (by decide) (nx := (m a176)) (rg1 := rf r0 (m a176) r2 r3 r4 r5 r6 r7 g) rfl rfl ?_
  exact kk
theorem bb_180 (hS : 474 ≤ S ∧ S ≤ bo) (hc : mcode m)  (kk : RN S Q k c (0, 190, 0, bo, ti, ro, true, rf (m 395) (m 396) (m 397) (m 398) (m 399) r5 r6 r7 g, m, dk, cs)) : RN S Q (k + 6) (c + 205) (0, 180, 0, bo, ti, ro, false, rf r0 r1 r2 r3 r4 r5 r6 r7 g, m, dk, cs) := by
  refine mo_ld hS hc (by decide) mw_180 mw_181 (ad := 395) (v := (m 395)) (by decide) rfl (by omega) (rfl) rf_m0 ?_
  refine mo_ld hS hc (by decide) mw_182 mw_183 (ad := 396) (v := (m 396)) (by decide) rfl (by omega) (rfl) rf_m1 ?_
  refine mo_ld hS hc (by decide) mw_184 mw_185 (ad := 397) (v := (m 397)) (by decide) rfl (by omega) (rfl) rf_m2 ?_
  refine mo_ld hS hc (by decide) mw_186 mw_187 (ad := 398) (v := (m 398)) (by decide) rfl (by omega) (rfl) rf_m3 ?_
  refine mo_ld hS hc (by decide) mw_188 mw_189 (ad := 399) (v := (m 399)) (by decide) rfl (by omega) (rfl) rf_m4 ?_
  refine mo_pv hS hc (by decide) mw_190 mw_191 (ad := 0) (ct := 0) (by decide) rfl rfl (by omega) rfl ?_
  exact kk
theorem bb_192 (hS : 474 ≤ S ∧ S ≤ bo) (hc : mcode m)  (kk : RN S Q k c (0, 328, 0, bo, ti, ro, false, rf r0 r1 0 198 3 r5 r6 r7 g, m, dk, cs)) : RN S Q (k + 3) (c + 3) (0, 192, 0, bo, ti, ro, false, rf r0 r1 r2 r3 r4 r5 r6 r7 g, m, dk, cs) := by
  refine mo_alu hS hc (by decide) mw_192 mw_193 (by decide) (nx := 194) (rg1 := mu (rf r0 r1 r2 r3 r4 r5 r6 r7 g) 2 0) rfl rf_m2 ?_
  refine mo_alu hS hc (by decide) mw_194 mw_195 (by decide) (nx := 196) (rg1 := mu (rf r0 r1 0 r3 r4 r5 r6 r7 g) 4 3) rfl rf_m4 ?_
  refine mo_alu hS hc (by decide) mw_196 mw_197 (by decide) (nx := 328) (rg1 := mu (rf r0 r1 0 r3 3 r5 r6 r7 g) 3 198) rfl rf_m3 ?_
  exact kk
theorem bb_198 (hS : 474 ≤ S ∧ S ≤ bo) (hc : mcode m)  (kk : RN S Q k c (0, 74, 0, bo, ti, ro, false, rf 0 r1 r2 r3 r4 r5 r6 r7 g, m, dk, cs)) : RN S Q (k + 2) (c + 2) (0, 198, 0, bo, ti, ro, false, rf r0 r1 r2 r3 r4 r5 r6 r7 g, m, dk, cs) := by
  refine mo_alu hS hc (by decide) mw_198 mw_199 (by decide) (nx := 200) (rg1 := mu (rf r0 r1 r2 r3 r4 r5 r6 r7 g) 0 0) rfl rf_m0 ?_
  refine mo_alu hS hc (by decide) mw_200 mw_201 (by decide) (nx := 74) (rg1 := rf 0 r1 r2 r3 r4 r5 r6 r7 g) rfl rfl ?_
  exact kk
theorem bb_202 (hS : 474 ≤ S ∧ S ≤ bo) (hc : mcode m)  (kk : RN S Q k c (0, 328, 0, bo, ti, ro, false, rf r0 r1 0 208 3 r5 r6 r7 g, m, dk, cs)) : RN S Q (k + 3) (c + 3) (0, 202, 0, bo, ti, ro, false, rf r0 r1 r2 r3 r4 r5 r6 r7 g, m, dk, cs) := by
  refine mo_alu hS hc (by decide) mw_202 mw_203 (by decide) (nx := 204) (rg1 := mu (rf r0 r1 r2 r3 r4 r5 r6 r7 g) 2 0) rfl rf_m2 ?_
  refine mo_alu hS hc (by decide) mw_204 mw_205 (by decide) (nx := 206) (rg1 := mu (rf r0 r1 0 r3 r4 r5 r6 r7 g) 4 3) rfl rf_m4 ?_
  refine mo_alu hS hc (by decide) mw_206 mw_207 (by decide) (nx := 328) (rg1 := mu (rf r0 r1 0 r3 3 r5 r6 r7 g) 3 208) rfl rf_m3 ?_
  exact kk
theorem bb_208 (hS : 474 ≤ S ∧ S ≤ bo) (hc : mcode m) {a210 : Nat} (e210 : (r1 + 0) % 65536 = a210) (b210 : a210 < S) (n210 : 395 ≤ a210) {a218 : Nat} (e218 : (r1 + 1) % 65536 = a218) (b218 : a218 < S) (n218 : 395 ≤ a218) {a222 : Nat} (e222 : (r1 + 2) % 65536 = a222) (b222 : a222 < S) (n222 : 395 ≤ a222) {a226 : Nat} (e226 : (r1 + 3) % 65536 = a226) (b226 : a226 < S) (n226 : 395 ≤ a226) (kk : RN S Q k c (0, 276, 0, bo, ti, ro, false, rf r0 r1 (m 12) 2 r4 r5 r6 r7 g, (mu (mu (mu (mu m a210 0) a218 (((m 1) + 2) % 65536)) a222 (m 11)) a226 (m 12)), dk, cs)) : RN S Q (k + 11) (c + 11) (0, 208, 0, bo, ti, ro, false, rf r0 r1 r2 r3 r4 r5 r6 r7 g, m, dk, cs) := by
  refine mo_alu hS hc (by decide) mw_208 mw_209 (by decide) (nx := 210) (rg1 := mu (rf r0 r1 r2 r3 r4 r5 r6 r7 g) 2 0) rfl rf_m2 ?_
  refine mo_sto hS hc (by decide) mw_210 mw_211 (ad := a210) (v := 0) (by decide) e210 b210 rfl ?_
  have hc := mcode_mu (a := a210) (x := 0) hc (by omega)
  refine mo_ld hS hc (by decide) mw_212 mw_213 (ad := 1) (v := (m 1)) (by decide) rfl (by omega) ((mu_n _ _ (by omega)).trans (rfl)) rf_m2 ?_
  refine mo_alu hS hc (by decide) mw_214 mw_215 (by decide) (nx := 216) (rg1 := mu (rf r0 r1 (m 1) r3 r4 r5 r6 r7 g) 3 2) rfl rf_m3 ?_
  refine mo_alu hS hc (by decide) mw_216 mw_217 (by decide) (nx := 218) (rg1 := mu (rf r0 r1 (m 1) 2 r4 r5 r6 r7 g) 2 (((m 1) + 2) % 65536)) rfl rf_m2 ?_
  refine mo_sto hS hc (by decide) mw_218 mw_219 (ad := a218) (v := (((m 1) + 2) % 65536)) (by decide) e218 b218 rfl ?_
  have hc := mcode_mu (a := a218) (x := (((m 1) + 2) % 65536)) hc (by omega)
  refine mo_ld hS hc (by decide) mw_220 mw_221 (ad := 11) (v := (m 11)) (by decide) rfl (by omega) ((mu_n _ _ (by omega)).trans ((mu_n _ _ (by omega)).trans (rfl))) rf_m2 ?_
  refine mo_sto hS hc (by decide) mw_222 mw_223 (ad := a222) (v := (m 11)) (by decide) e222 b222 rfl ?_
  have hc := mcode_mu (a := a222) (x := (m 11)) hc (by omega)
  refine mo_ld hS hc (by decide) mw_224 mw_225 (ad := 12) (v := (m 12)) (by decide) rfl (by omega) ((mu_n _ _ (by omega)).trans ((mu_n _ _ (by omega)).trans ((mu_n _ _ (by omega)).trans (rfl)))) rf_m2 ?_
  refine mo_sto hS hc (by decide) mw_226 mw_227 (ad := a226) (v := (m 12)) (by decide) e226 b226 rfl ?_
  have hc := mcode_mu (a := a226) (x := (m 12)) hc (by omega)
  refine mo_alu hS hc (by decide) mw_228 mw_229 (by decide) (nx := 276) (rg1 := rf r0 r1 (m 12) 2 r4 r5 r6 r7 g) rfl rfl ?_
  exact kk
theorem bb_230 (hS : 474 ≤ S ∧ S ≤ bo) (hc : mcode m)  (kk : RN S Q k c (0, 286, 0, bo, ti, ro, false, rf r0 r1 r2 232 r4 r5 r6 r7 g, m, dk, cs)) : RN S Q (k + 1) (c + 1) (0, 230, 0, bo, ti, ro, false, rf r0 r1 r2 r3 r4 r5 r6 r7 g, m, dk, cs) := by
  refine mo_alu hS hc (by decide) mw_230 mw_231 (by decide) (nx := 286) (rg1 := mu (rf r0 r1 r2 r3 r4 r5 r6 r7 g) 3 232) rfl rf_m3 ?_
  exact kk
theorem bb_232 (hS : 474 ≤ S ∧ S ≤ bo) (hc : mcode m) {a232 : Nat} (e232 : (r1 + 395) % 65536 = a232) (b232 : a232 < S) (kk : RN S Q k c (0, 276, 0, bo, ti, ro, false, rf r0 r1 (m a232) r3 r4 r5 r6 r7 g, (mu m 13 (m a232)), dk, cs)) : RN S Q (k + 3) (c + 3) (0, 232, 0, bo, ti, ro, false, rf r0 r1 r2 r3 r4 r5 r6 r7 g, m, dk, cs) := by
  refine mo_ld hS hc (by decide) mw_232 mw_233 (ad := a232) (v := (m a232)) (by decide) e232 b232 rfl rf_m2 ?_
  refine mo_sto hS hc (by decide) mw_234 mw_235 (ad := 13) (v := (m a232)) (by decide) rfl (by omega) rfl ?_
  have hc := mcode_mu (a := 13) (x := (m a232)) hc (by omega)
  refine mo_alu hS hc (by decide) mw_236 mw_237 (by decide) (nx := 276) (rg1 := rf r0 r1 (m a232) r3 r4 r5 r6 r7 g) rfl rfl ?_
  exact kk
theorem bb_238 (hS : 474 ≤ S ∧ S ≤ bo) (hc : mcode m)  (kk : RN S Q k c (0, 286, 0, bo, ti, ro, false, rf r0 r1 r2 240 r4 r5 r6 r7 g, m, dk, cs)) : RN S Q (k + 1) (c + 1) (0, 238, 0, bo, ti, ro, false, rf r0 r1 r2 r3 r4 r5 r6 r7 g, m, dk, cs) := by
  refine mo_alu hS hc (by decide) mw_238 mw_239 (by decide) (nx := 286) (rg1 := mu (rf r0 r1 r2 r3 r4 r5 r6 r7 g) 3 240) rfl rf_m3 ?_
  exact kk
theorem bb_240 (hS : 474 ≤ S ∧ S ≤ bo) (hc : mcode m)  (kk : RN S Q k c (0, 248, 0, bo, ti, ro, false, rf r0 r1 (m 13) r3 r4 r5 r6 r7 g, m, dk, cs)) : RN S Q (k + 2) (c + 2) (0, 240, 0, bo, ti, ro, false, rf r0 r1 r2 r3 r4 r5 r6 r7 g, m, dk, cs) := by
  refine mo_ld hS hc (by decide) mw_240 mw_241 (ad := 13) (v := (m 13)) (by decide) rfl (by omega) (rfl) rf_m2 ?_
  refine mo_alu hS hc (by decide) mw_242 mw_243 (by decide) (nx := 248) (rg1 := rf r0 r1 (m 13) r3 r4 r5 r6 r7 g) rfl rfl ?_
  exact kk
theorem bb_244 (hS : 474 ≤ S ∧ S ≤ bo) (hc : mcode m)  (kk : RN S Q k c (0, 286, 0, bo, ti, ro, false, rf r0 r1 r2 246 r4 r5 r6 r7 g, m, dk, cs)) : RN S Q (k + 1) (c + 1) (0, 244, 0, bo, ti, ro, false, rf r0 r1 r2 r3 r4 r5 r6 r7 g, m, dk, cs) := by
  refine mo_alu hS hc (by decide) mw_244 mw_245 (by decide) (nx := 286) (rg1 := mu (rf r0 r1 r2 r3 r4 r5 r6 r7 g) 3 246) rfl rf_m3 ?_
  exact kk
theorem bb_246 (hS : 474 ≤ S ∧ S ≤ bo) (hc : mcode m)  (kk : RN S Q k c (0, 248, 0, bo, ti, ro, false, rf r0 r1 ((mc_in cs).1) r3 r4 r5 r6 r7 g, m, dk, (mc_in cs).2)) : RN S Q (k + 1) (c + 200) (0, 246, 0, bo, ti, ro, false, rf r0 r1 r2 r3 r4 r5 r6 r7 g, m, dk, cs) := by
  refine mo_pv hS hc (by decide) mw_246 mw_247 (ad := 0) (ct := 0) (by decide) rfl rfl (by omega) (s' := (0, 248, 0, bo, ti, ro, false, rf r0 r1 ((mc_in cs).1) r3 r4 r5 r6 r7 g, m, dk, (mc_in cs).2)) (by show (_, _, _, _, _, _, _, mu _ _ _, _, _, _) = _; rw [rf_m2]) ?_
  exact kk
theorem bb_248 (hS : 474 ≤ S ∧ S ≤ bo) (hc : mcode m) {a248 : Nat} (e248 : (r1 + 395) % 65536 = a248) (b248 : a248 < S) (n248 : 395 ≤ a248) (kk : RN S Q k c (0, 276, 0, bo, ti, ro, false, rf r0 r1 r2 r3 r4 ((mu m a248 r2) 400) ((mu m a248 r2) 401) ((mu m a248 r2) 402) g, (mu m a248 r2), dk, cs)) : RN S Q (k + 5) (c + 5) (0, 248, 0, bo, ti, ro, false, rf r0 r1 r2 r3 r4 r5 r6 r7 g, m, dk, cs) := by
  refine mo_sto hS hc (by decide) mw_248 mw_249 (ad := a248) (v := r2) (by decide) e248 b248 rfl ?_
  have hc := mcode_mu (a := a248) (x := r2) hc (by omega)
  refine mo_ld hS hc (by decide) mw_250 mw_251 (ad := 400) (v := ((mu m a248 r2) 400)) (by decide) rfl (by omega) (rfl) rf_m5 ?_
  refine mo_ld hS hc (by decide) mw_252 mw_253 (ad := 401) (v := ((mu m a248 r2) 401)) (by decide) rfl (by omega) (rfl) rf_m6 ?_
  refine mo_ld hS hc (by decide) mw_254 mw_255 (ad := 402) (v := ((mu m a248 r2) 402)) (by decide) rfl (by omega) (rfl) rf_m7 ?_
  refine mo_alu hS hc (by decide) mw_256 mw_257 (by decide) (nx := 276) (rg1 := rf r0 r1 r2 r3 r4 ((mu m a248 r2) 400) ((mu m a248 r2) 401) ((mu m a248 r2) 402) g) rfl rfl ?_
  exact kk
theorem bb_258 (hS : 474 ≤ S ∧ S ≤ bo) (hc : mcode m)  (kk : RN S Q k c (0, 286, 0, bo, ti, ro, false, rf r0 r1 r2 260 r4 r5 r6 r7 g, m, dk, cs)) : RN S Q (k + 1) (c + 1) (0, 258, 0, bo, ti, ro, false, rf r0 r1 r2 r3 r4 r5 r6 r7 g, m, dk, cs) := by
  refine mo_alu hS hc (by decide) mw_258 mw_259 (by decide) (nx := 286) (rg1 := mu (rf r0 r1 r2 r3 r4 r5 r6 r7 g) 3 260) rfl rf_m3 ?_
  exact kk
theorem bb_260 (hS : 474 ≤ S ∧ S ≤ bo) (hc : mcode m) {a260 : Nat} (e260 : (r1 + 395) % 65536 = a260) (b260 : a260 < S) (kk : RN S Q k c (0, 276, 0, bo, ti, ro, false, rf r0 r1 (m a260) r3 r4 r5 r6 r7 g, m, dk, (mc_out cs ((m a260) % 256)))) : RN S Q (k + 3) (c + 202) (0, 260, 0, bo, ti, ro, false, rf r0 r1 r2 r3 r4 r5 r6 r7 g, m, dk, cs) := by
  refine mo_ld hS hc (by decide) mw_260 mw_261 (ad := a260) (v := (m a260)) (by decide) e260 b260 rfl rf_m2 ?_
  refine mo_pv hS hc (by decide) mw_262 mw_263 (ad := 0) (ct := 0) (by decide) rfl rfl (by omega) (s' := (0, 264, 0, bo, ti, ro, false, rf r0 r1 (m a260) r3 r4 r5 r6 r7 g, m, dk, (mc_out cs ((m a260) % 256)))) rfl ?_
  refine mo_alu hS hc (by decide) mw_264 mw_265 (by decide) (nx := 276) (rg1 := rf r0 r1 (m a260) r3 r4 r5 r6 r7 g) rfl rfl ?_
  exact kk
theorem bb_266 (hS : 474 ≤ S ∧ S ≤ bo) (hc : mcode m)  (kk : RN S Q k c (0, 302, 0, bo, ti, ro, false, rf r0 r1 r2 268 r4 r5 r6 r7 g, m, dk, cs)) : RN S Q (k + 1) (c + 1) (0, 266, 0, bo, ti, ro, false, rf r0 r1 r2 r3 r4 r5 r6 r7 g, m, dk, cs) := by
  refine mo_alu hS hc (by decide) mw_266 mw_267 (by decide) (nx := 302) (rg1 := mu (rf r0 r1 r2 r3 r4 r5 r6 r7 g) 3 268) rfl rf_m3 ?_
  exact kk
theorem bb_268 (hS : 474 ≤ S ∧ S ≤ bo) (hc : mcode m) {a268 : Nat} (e268 : (r1 + 0) % 65536 = a268) (b268 : a268 + 15 < S) (n268 : 395 ≤ a268) (kk : RN S Q k c (0, 270, 0, bo, ti, ro, false, rf r0 r1 r2 r3 r4 r5 r6 r7 g, va_cpy dk m (r2 % 8 * 16) a268 16, dk, cs)) : RN S Q (k + 1) (c + 200) (0, 268, 0, bo, ti, ro, false, rf r0 r1 r2 r3 r4 r5 r6 r7 g, m, dk, cs) := by
  refine mo_pv hS hc (by decide) mw_268 mw_269 (ad := a268) (ct := 16) (by decide) e268 rfl (by omega) (s' := (0, 270, 0, bo, ti, ro, false, rf r0 r1 r2 r3 r4 r5 r6 r7 g, va_cpy dk m (r2 % 8 * 16) a268 16, dk, cs)) (by show (_, _, _, _, _, _, _, _, _, _, _) = _; simp only [Nat.zero_add]; rfl) ?_
  exact kk
theorem bb_272 (hS : 474 ≤ S ∧ S ≤ bo) (hc : mcode m)  (kk : RN S Q k c (0, 302, 0, bo, ti, ro, false, rf r0 r1 r2 274 r4 r5 r6 r7 g, m, dk, cs)) : RN S Q (k + 1) (c + 1) (0, 272, 0, bo, ti, ro, false, rf r0 r1 r2 r3 r4 r5 r6 r7 g, m, dk, cs) := by
  refine mo_alu hS hc (by decide) mw_272 mw_273 (by decide) (nx := 302) (rg1 := mu (rf r0 r1 r2 r3 r4 r5 r6 r7 g) 3 274) rfl rf_m3 ?_
  exact kk
theorem bb_274 (hS : 474 ≤ S ∧ S ≤ bo) (hc : mcode m) {a274 : Nat} (e274 : (r1 + 0) % 65536 = a274) (b274 : a274 + 15 < S) (n274 : 395 ≤ a274) (kk : RN S Q k c (0, 276, 0, bo, ti, ro, false, rf r0 r1 r2 r3 r4 r5 r6 r7 g, m, va_cpy m dk a274 (r2 % 8 * 16) 16, cs)) : RN S Q (k + 1) (c + 200) (0, 274, 0, bo, ti, ro, false, rf r0 r1 r2 r3 r4 r5 r6 r7 g, m, dk, cs) := by
  refine mo_pv hS hc (by decide) mw_274 mw_275 (ad := a274) (ct := 16) (by decide) e274 rfl (by omega) (s' := (0, 276, 0, bo, ti, ro, false, rf r0 r1 r2 r3 r4 r5 r6 r7 g, m, va_cpy m dk a274 (r2 % 8 * 16) 16, cs)) (by show (_, _, _, _, _, _, _, _, _, _, _) = _; simp only [Nat.zero_add]; rfl) ?_
  exact kk
theorem bb_276 (hS : 474 ≤ S ∧ S ≤ bo) (hc : mcode m)  (kk : RN S Q k c (0, 122, 0, bo, ti, ro, false, rf r0 (((m 1) + 2) % 65536) 2 r3 r4 r5 r6 r7 g, (mu m 407 (((m 1) + 2) % 65536)), dk, cs)) : RN S Q (k + 5) (c + 5) (0, 276, 0, bo, ti, ro, false, rf r0 r1 r2 r3 r4 r5 r6 r7 g, m, dk, cs) := by
  refine mo_ld hS hc (by decide) mw_276 mw_277 (ad := 1) (v := (m 1)) (by decide) rfl (by omega) (rfl) rf_m1 ?_
  refine mo_alu hS hc (by decide) mw_278 mw_279 (by decide) (nx := 280) (rg1 := mu (rf r0 (m 1) r2 r3 r4 r5 r6 r7 g) 2 2) rfl rf_m2 ?_
  refine mo_alu hS hc (by decide) mw_280 mw_281 (by decide) (nx := 282) (rg1 := mu (rf r0 (m 1) 2 r3 r4 r5 r6 r7 g) 1 (((m 1) + 2) % 65536)) rfl rf_m1 ?_
  refine mo_sto hS hc (by decide) mw_282 mw_283 (ad := 407) (v := (((m 1) + 2) % 65536)) (by decide) rfl (by omega) rfl ?_
  have hc := mcode_mu (a := 407) (x := (((m 1) + 2) % 65536)) hc (by omega)
  refine mo_alu hS hc (by decide) mw_284 mw_285 (by decide) (nx := 122) (rg1 := rf r0 (((m 1) + 2) % 65536) 2 r3 r4 r5 r6 r7 g) rfl rfl ?_
  exact kk
theorem bb_286 (hS : 474 ≤ S ∧ S ≤ bo) (hc : mcode m)  (kk : RN S Q k c (0, r3, 0, bo, ti, ro, false, rf r0 ((mc_sh (m 9) 19) &&& 7) 7 r3 r4 r5 r6 r7 g, (mu (mu (mu m 400 r5) 401 r6) 402 r7), dk, cs)) : RN S Q (k + 8) (c + 8) (0, 286, 0, bo, ti, ro, false, rf r0 r1 r2 r3 r4 r5 r6 r7 g, m, dk, cs) := by
  refine mo_sto hS hc (by decide) mw_286 mw_287 (ad := 400) (v := r5) (by decide) rfl (by omega) rfl ?_
  have hc := mcode_mu (a := 400) (x := r5) hc (by omega)
  refine mo_sto hS hc (by decide) mw_288 mw_289 (ad := 401) (v := r6) (by decide) rfl (by omega) rfl ?_
  have hc := mcode_mu (a := 401) (x := r6) hc (by omega)
  refine mo_sto hS hc (by decide) mw_290 mw_291 (ad := 402) (v := r7) (by decide) rfl (by omega) rfl ?_
  have hc := mcode_mu (a := 402) (x := r7) hc (by omega)
  refine mo_ld hS hc (by decide) mw_292 mw_293 (ad := 9) (v := (m 9)) (by decide) rfl (by omega) ((mu_n _ _ (by decide)).trans ((mu_n _ _ (by decide)).trans ((mu_n _ _ (by decide)).trans (rfl)))) rf_m1 ?_
  refine mo_alu hS hc (by decide) mw_294 mw_295 (by decide) (nx := 296) (rg1 := mu (rf r0 (m 9) r2 r3 r4 r5 r6 r7 g) 1 (mc_sh (m 9) 19)) rfl rf_m1 ?_
  refine mo_alu hS hc (by decide) mw_296 mw_297 (by decide) (nx := 298) (rg1 := mu (rf r0 (mc_sh (m 9) 19) r2 r3 r4 r5 r6 r7 g) 2 7) rfl rf_m2 ?_
  refine mo_alu hS hc (by decide) mw_298 mw_299 (by decide) (nx := 300) (rg1 := mu (rf r0 (mc_sh (m 9) 19) 7 r3 r4 r5 r6 r7 g) 1 ((mc_sh (m 9) 19) &&& 7)) rfl rf_m1 ?_
  refine mo_alu hS hc (by decide) mw_300 mw_301 (by decide) (nx := r3) (rg1 := rf r0 ((mc_sh (m 9) 19) &&& 7) 7 r3 r4 r5 r6 r7 g) rfl rfl ?_
  exact kk
theorem bb_302 (hS : 474 ≤ S ∧ S ≤ bo) (hc : mcode m)  (kk : RN S Q k c (0, 286, 0, bo, ti, ro, false, rf r0 r1 r2 306 r4 r5 r6 r7 g, (mu m 404 r3), dk, cs)) : RN S Q (k + 2) (c + 2) (0, 302, 0, bo, ti, ro, false, rf r0 r1 r2 r3 r4 r5 r6 r7 g, m, dk, cs) := by
  refine mo_sto hS hc (by decide) mw_302 mw_303 (ad := 404) (v := r3) (by decide) rfl (by omega) rfl ?_
  have hc := mcode_mu (a := 404) (x := r3) hc (by omega)
  refine mo_alu hS hc (by decide) mw_304 mw_305 (by decide) (nx := 286) (rg1 := mu (rf r0 r1 r2 r3 r4 r5 r6 r7 g) 3 306) rfl rf_m3 ?_
  exact kk
theorem bb_306 (hS : 474 ≤ S ∧ S ≤ bo) (hc : mcode m) {a306 : Nat} (e306 : (r1 + 395) % 65536 = a306) (b306 : a306 < S) {a316 : Nat} (e316 : (((m 9) &&& 7) + 395) % 65536 = a316) (b316 : a316 < S) (kk : RN S Q k c (0, 328, 0, bo, ti, ro, false, rf r0 r1 ((mu m 405 (m a306)) a316) 322 15 r5 r6 r7 g, (mu m 405 (m a306)), dk, cs)) : RN S Q (k + 8) (c + 8) (0, 306, 0, bo, ti, ro, false, rf r0 r1 r2 r3 r4 r5 r6 r7 g, m, dk, cs) := by
  refine mo_ld hS hc (by decide) mw_306 mw_307 (ad := a306) (v := (m a306)) (by decide) e306 b306 rfl rf_m2 ?_
  refine mo_sto hS hc (by decide) mw_308 mw_309 (ad := 405) (v := (m a306)) (by decide) rfl (by omega) rfl ?_
  have hc := mcode_mu (a := 405) (x := (m a306)) hc (by omega)
  refine mo_ld hS hc (by decide) mw_310 mw_311 (ad := 9) (v := (m 9)) (by decide) rfl (by omega) ((mu_n _ _ (by decide)).trans (rfl)) rf_m2 ?_
  refine mo_alu hS hc (by decide) mw_312 mw_313 (by decide) (nx := 314) (rg1 := mu (rf r0 r1 (m 9) r3 r4 r5 r6 r7 g) 4 7) rfl rf_m4 ?_
  refine mo_alu hS hc (by decide) mw_314 mw_315 (by decide) (nx := 316) (rg1 := mu (rf r0 r1 (m 9) r3 7 r5 r6 r7 g) 2 ((m 9) &&& 7)) rfl rf_m2 ?_
  refine mo_ld hS hc (by decide) mw_316 mw_317 (ad := a316) (v := ((mu m 405 (m a306)) a316)) (by decide) e316 b316 rfl rf_m2 ?_
  refine mo_alu hS hc (by decide) mw_318 mw_319 (by decide) (nx := 320) (rg1 := mu (rf r0 r1 ((mu m 405 (m a306)) a316) r3 7 r5 r6 r7 g) 4 15) rfl rf_m4 ?_
  refine mo_alu hS hc (by decide) mw_320 mw_321 (by decide) (nx := 328) (rg1 := mu (rf r0 r1 ((mu m 405 (m a306)) a316) r3 15 r5 r6 r7 g) 3 322) rfl rf_m3 ?_
  exact kk
theorem bb_322 (hS : 474 ≤ S ∧ S ≤ bo) (hc : mcode m)  (kk : RN S Q k c (0, (m 404), 0, bo, ti, ro, false, rf r0 r1 (m 405) (m 404) r4 r5 r6 r7 g, m, dk, cs)) : RN S Q (k + 3) (c + 3) (0, 322, 0, bo, ti, ro, false, rf r0 r1 r2 r3 r4 r5 r6 r7 g, m, dk, cs) := by
  refine mo_ld hS hc (by decide) mw_322 mw_323 (ad := 405) (v := (m 405)) (by decide) rfl (by omega) (rfl) rf_m2 ?_
  refine mo_ld hS hc (by decide) mw_324 mw_325 (ad := 404) (v := (m 404)) (by decide) rfl (by omega) (rfl) rf_m3 ?_
  refine mo_alu hS hc (by decide) mw_326 mw_327 (by decide) (nx := (m 404)) (rg1 := rf r0 r1 (m 405) (m 404) r4 r5 r6 r7 g) rfl rfl ?_
  exact kk
theorem bb_328 (hS : 474 ≤ S ∧ S ≤ bo) (hc : mcode m) {a334 : Nat} (e334 : ((((m 408) + (m 1)) % 65536) + 1) % 65536 = a334) (b334 : a334 < S) (kk : RN S Q k c (0, (if (if (((m a334) + r2) % 65536) < (m 409) then 1 else 0) = 0 then 360 else 346), 0, bo, ti, ro, false, rf (if (((m a334) + r2) % 65536) < (m 409) then 1 else 0) (((m a334) + r2) % 65536) (m 409) r3 r4 r5 r6 r7 g, m, dk, cs)) : RN S Q (k + 9) (c + 9) (0, 328, 0, bo, ti, ro, false, rf r0 r1 r2 r3 r4 r5 r6 r7 g, m, dk, cs) := by
  refine mo_ld hS hc (by decide) mw_328 mw_329 (ad := 408) (v := (m 408)) (by decide) rfl (by omega) (rfl) rf_m1 ?_
  refine mo_ld hS hc (by decide) mw_330 mw_331 (ad := 1) (v := (m 1)) (by decide) rfl (by omega) (rfl) rf_m0 ?_
  refine mo_alu hS hc (by decide) mw_332 mw_333 (by decide) (nx := 334) (rg1 := mu (rf (m 1) (m 408) r2 r3 r4 r5 r6 r7 g) 1 (((m 408) + (m 1)) % 65536)) rfl rf_m1 ?_
  refine mo_ld hS hc (by decide) mw_334 mw_335 (ad := a334) (v := (m a334)) (by decide) e334 b334 rfl rf_m1 ?_
  refine mo_alu hS hc (by decide) mw_336 mw_337 (by decide) (nx := 338) (rg1 := mu (rf (m 1) (m a334) r2 r3 r4 r5 r6 r7 g) 1 (((m a334) + r2) % 65536)) rfl rf_m1 ?_
  refine mo_ld hS hc (by decide) mw_338 mw_339 (ad := 409) (v := (m 409)) (by decide) rfl (by omega) (rfl) rf_m2 ?_
  refine mo_alu hS hc (by decide) mw_340 mw_341 (by decide) (nx := 342) (rg1 := mu (rf (m 1) (((m a334) + r2) % 65536) (m 409) r3 r4 r5 r6 r7 g) 0 (((m a334) + r2) % 65536)) rfl rf_m0 ?_
  refine mo_alu hS hc (by decide) mw_342 mw_343 (by decide) (nx := 344) (rg1 := mu (rf (((m a334) + r2) % 65536) (((m a334) + r2) % 65536) (m 409) r3 r4 r5 r6 r7 g) 0 (if (((m a334) + r2) % 65536) < (m 409) then 1 else 0)) rfl rf_m0 ?_
  refine mo_alu hS hc (by decide) mw_344 mw_345 (by decide) (nx := (if (if (((m a334) + r2) % 65536) < (m 409) then 1 else 0) = 0 then 360 else 346)) (rg1 := rf (if (((m a334) + r2) % 65536) < (m 409) then 1 else 0) (((m a334) + r2) % 65536) (m 409) r3 r4 r5 r6 r7 g) rfl rfl ?_
  exact kk
theorem bb_346 (hS : 474 ≤ S ∧ S ≤ bo) (hc : mcode m)  (kk : RN S Q k c (0, (if (if ((r4 + r1) % 65536) < r2 then 1 else 0) = 0 then 358 else 352), 0, bo, ti, ro, false, rf r0 r1 r2 r3 (if ((r4 + r1) % 65536) < r2 then 1 else 0) r5 r6 r7 g, m, dk, cs)) : RN S Q (k + 3) (c + 3) (0, 346, 0, bo, ti, ro, false, rf r0 r1 r2 r3 r4 r5 r6 r7 g, m, dk, cs) := by
  refine mo_alu hS hc (by decide) mw_346 mw_347 (by decide) (nx := 348) (rg1 := mu (rf r0 r1 r2 r3 r4 r5 r6 r7 g) 4 ((r4 + r1) % 65536)) rfl rf_m4 ?_
  refine mo_alu hS hc (by decide) mw_348 mw_349 (by decide) (nx := 350) (rg1 := mu (rf r0 r1 r2 r3 ((r4 + r1) % 65536) r5 r6 r7 g) 4 (if ((r4 + r1) % 65536) < r2 then 1 else 0)) rfl rf_m4 ?_
  refine mo_alu hS hc (by decide) mw_350 mw_351 (by decide) (nx := (if (if ((r4 + r1) % 65536) < r2 then 1 else 0) = 0 then 358 else 352)) (rg1 := rf r0 r1 r2 r3 (if ((r4 + r1) % 65536) < r2 then 1 else 0) r5 r6 r7 g) rfl rfl ?_
  exact kk
theorem bb_352 (hS : 474 ≤ S ∧ S ≤ bo) (hc : mcode m)  (kk : RN S Q k c (0, r3, 0, bo, ti, ro, false, rf r0 ((r1 + (m 408)) % 65536) (m 408) r3 r4 r5 r6 r7 g, m, dk, cs)) : RN S Q (k + 3) (c + 3) (0, 352, 0, bo, ti, ro, false, rf r0 r1 r2 r3 r4 r5 r6 r7 g, m, dk, cs) := by
  refine mo_ld hS hc (by decide) mw_352 mw_353 (ad := 408) (v := (m 408)) (by decide) rfl (by omega) (rfl) rf_m2 ?_
  refine mo_alu hS hc (by decide) mw_354 mw_355 (by decide) (nx := 356) (rg1 := mu (rf r0 r1 (m 408) r3 r4 r5 r6 r7 g) 1 ((r1 + (m 408)) % 65536)) rfl rf_m1 ?_
  refine mo_alu hS hc (by decide) mw_356 mw_357 (by decide) (nx := r3) (rg1 := rf r0 ((r1 + (m 408)) % 65536) (m 408) r3 r4 r5 r6 r7 g) rfl rfl ?_
  exact kk
theorem bb_358 (hS : 474 ≤ S ∧ S ≤ bo) (hc : mcode m)  (kk : RN S Q k c (0, 360, 0, bo, ti, ro, false, rf r0 r2 r2 r3 r4 r5 r6 r7 g, m, dk, cs)) : RN S Q (k + 1) (c + 1) (0, 358, 0, bo, ti, ro, false, rf r0 r1 r2 r3 r4 r5 r6 r7 g, m, dk, cs) := by
  refine mo_alu hS hc (by decide) mw_358 mw_359 (by decide) (nx := 360) (rg1 := mu (rf r0 r1 r2 r3 r4 r5 r6 r7 g) 1 r2) rfl rf_m1 ?_
  exact kk
theorem bb_360 (hS : 474 ≤ S ∧ S ≤ bo) (hc : mcode m)  (kk : RN S Q k c (0, 50, 0, bo, ti, ro, false, rf 0 2 r2 r3 r4 r5 r6 r7 g, (mu (mu m 9 r1) 8 2), dk, cs)) : RN S Q (k + 5) (c + 5) (0, 360, 0, bo, ti, ro, false, rf r0 r1 r2 r3 r4 r5 r6 r7 g, m, dk, cs) := by
  refine mo_sto hS hc (by decide) mw_360 mw_361 (ad := 9) (v := r1) (by decide) rfl (by omega) rfl ?_
  have hc := mcode_mu (a := 9) (x := r1) hc (by omega)
  refine mo_alu hS hc (by decide) mw_362 mw_363 (by decide) (nx := 364) (rg1 := mu (rf r0 r1 r2 r3 r4 r5 r6 r7 g) 1 2) rfl rf_m1 ?_
  refine mo_sto hS hc (by decide) mw_364 mw_365 (ad := 8) (v := 2) (by decide) rfl (by omega) rfl ?_
  have hc := mcode_mu (a := 8) (x := 2) hc (by omega)
  refine mo_alu hS hc (by decide) mw_366 mw_367 (by decide) (nx := 368) (rg1 := mu (rf r0 2 r2 r3 r4 r5 r6 r7 g) 0 0) rfl rf_m0 ?_
  refine mo_alu hS hc (by decide) mw_368 mw_369 (by decide) (nx := 50) (rg1 := rf 0 2 r2 r3 r4 r5 r6 r7 g) rfl rfl ?_
  exact kk
end MON2
end
section
/-! THE MONITOR'S WAYS (mine): from a trap to the guest's next turn -/
section SIM
def rb (Sg ba bo : Nat) : Nat := if ba < Sg then (if Sg - ba < bo then Sg - ba else bo) else 0
def tli (o nm v13 ti : Nat) : Nat := if nm = 0 then (if o = 0 then ti else 0) else (if o = 0 ∧ v13 ≠ 0 then v13 else ti)
def tlm (o nm ti : Nat) (M : Nat → Nat) : Nat → Nat := if nm = 0 then (if o = 0 then mu M 10 0 else mu (mu M 10 0) 13 ti) else mu M 10 1
def tl4 (m : Nat → Nat) (p : Nat) : Nat → Nat := mu (mu (mu (mu m 407 (m (p + 1))) 11 (m (p + 2))) 12 (m (p + 3))) 408 ((410 + m (p + 2)) % 65536)
variable {r0 r1 r2 r3 r4 r5 r6 r7 : Nat} {g : Nat → Nat} {S k c bo ti : Nat} {Q : mc_S → Prop} {ro : Bool} {m dk : Nat → Nat} {cs : mc_K}
theorem bl_112 {o nm b9 : Nat} (hS : 474 ≤ S ∧ S ≤ bo) (hc : mcode m) (h6 : m 406 = 1) (kk : Q (1, m 407, m 408, b9, tli o nm (m 13) ti, false, false, rf (m 395) (m 396) (m 397) (m 398) (m 399) r5 r6 r7 g, tlm o nm ti (mu m 409 b9), dk, cs)) : RN S Q (k + 30) (c + 900) (0, 112, 0, bo, ti, false, false, rf o nm r2 b9 r4 r5 r6 r7 g, m, dk, cs) := by
  refine bb_112 hS hc ?_
  have hc1 := mcode_mu (a := 409) (x := b9) hc (by omega)
  by_cases hn : nm = 0
  · rw [if_pos hn]
    refine bb_146 hS hc1 ?_
    have hc2 := mcode_mu (a := 10) (x := nm) hc1 (by omega)
    by_cases ho : o = 0
    · rw [if_pos ho]
      refine bb_122 hS hc2 ?_
      refine RN.done ?_
      simpa [tli, tlm, hn, ho, mu, h6] using kk
    · rw [if_neg ho]
      refine bb_150 hS hc2 ?_
      have hc3 := mcode_mu (a := 13) (x := ti) hc2 (by omega)
      by_cases ht : ti = 0
      · rw [if_pos ht]
        refine bb_122 hS hc3 ?_
        refine RN.done ?_
        simpa [tli, tlm, hn, ho, mu, h6, ht] using kk
      · rw [if_neg ht]
        refine bb_156 hS hc3 ?_
        refine bb_122 hS hc3 ?_
        refine RN.done ?_
        simpa [tli, tlm, hn, ho, mu, h6, ht] using kk
  · rw [if_neg hn]
    refine bb_116 hS hc1 ?_
    have hc2 := mcode_mu (a := 10) (x := 1) hc1 (by omega)
    by_cases ho : o = 0
    · rw [if_pos ho]
      refine bb_138 hS hc2 ?_
      have e13 : mu (mu m 409 b9) 10 1 13 = m 13 := by simp [mu]
      rw [e13]
      by_cases hv : m 13 = 0
      · rw [if_pos hv]
        refine bb_122 hS hc2 ?_
        refine RN.done ?_
        simpa [tli, tlm, hn, ho, mu, h6, hv] using kk
      · rw [if_neg hv]
        refine bb_142 hS hc2 ?_
        refine bb_122 hS hc2 ?_
        refine RN.done ?_
        simpa [tli, tlm, hn, ho, mu, h6, hv] using kk
    · rw [if_neg ho]
      refine bb_122 hS hc2 ?_
      refine RN.done ?_
      simpa [tli, tlm, hn, ho, mu, h6] using kk
theorem bl_74 {Sg p o : Nat} (hS : 474 ≤ S ∧ S ≤ bo) (hS2 : S ≤ 65535) (hc : mcode m) (h6 : m 406 = 1) (h3 : m 403 = Sg) (hSg : Sg + 410 = S) (hp : 410 ≤ p ∧ p + 3 < S) (kk : Q (1, m (p + 1), (410 + m (p + 2)) % 65536, rb Sg (m (p + 2)) (m (p + 3)), tli o (m p) (m 13) ti, false, false, rf (m 395) (m 396) (m 397) (m 398) (m 399) r5 r6 r7 g, tlm o (m p) ti (mu (tl4 m p) 409 (rb Sg (m (p + 2)) (m (p + 3)))), dk, cs)) : RN S Q (k + 50) (c + 950) (0, 74, 0, bo, ti, false, false, rf o p r2 r3 r4 r5 r6 r7 g, m, dk, cs) := by
  refine bb_74 hS hc (a74 := p + 1) (by omega) (by omega) (a78 := p + 2) (by omega) (by omega) (a82 := p + 3) (by omega) (by omega) (a86 := p) (by omega) (by omega) ?_
  have q1 : mu m 407 (m (p + 1)) (p + 2) = m (p + 2) := mu_n _ _ (by omega)
  rw [q1]
  have q2 : mu (mu m 407 (m (p + 1))) 11 (m (p + 2)) (p + 3) = m (p + 3) := (mu_n _ _ (by omega)).trans (mu_n _ _ (by omega))
  rw [q2]
  have q3 : mu (mu (mu m 407 (m (p + 1))) 11 (m (p + 2))) 12 (m (p + 3)) p = m p := (mu_n _ _ (by omega)).trans ((mu_n _ _ (by omega)).trans (mu_n _ _ (by omega)))
  rw [q3, h3]
  have hM : mu (mu (mu (mu m 407 (m (p + 1))) 11 (m (p + 2))) 12 (m (p + 3))) 408 ((410 + m (p + 2)) % 65536) = tl4 m p := rfl
  rw [hM]
  have hc' : mcode (tl4 m p) := mcode_mu (mcode_mu (mcode_mu (mcode_mu hc (by omega)) (by omega)) (by omega)) (by omega)
  have f6 : tl4 m p 406 = 1 := by simp [tl4, mu, h6]
  have f7 : tl4 m p 407 = m (p + 1) := by simp [tl4, mu]
  have f8 : tl4 m p 408 = (410 + m (p + 2)) % 65536 := by simp [tl4, mu]
  have f11 : tl4 m p 11 = m (p + 2) := by simp [tl4, mu]
  have f13 : tl4 m p 13 = m 13 := by simp [tl4, mu]
  have fa : tl4 m p 395 = m 395 := by simp [tl4, mu]
  have fb : tl4 m p 396 = m 396 := by simp [tl4, mu]
  have fc : tl4 m p 397 = m 397 := by simp [tl4, mu]
  have fd : tl4 m p 398 = m 398 := by simp [tl4, mu]
  have fe : tl4 m p 399 = m 399 := by simp [tl4, mu]
  by_cases hb : m (p + 2) < Sg
  · rw [if_pos hb, if_neg (by decide)]
    refine bb_100 hS hc' ?_
    have e1 : (Sg + 65536 - m (p + 2)) % 65536 = Sg - m (p + 2) := by omega
    rw [f11, e1]
    by_cases hb2 : Sg - m (p + 2) < m (p + 3)
    · have er : rb Sg (m (p + 2)) (m (p + 3)) = Sg - m (p + 2) := by simp [rb, hb, hb2]
      rw [er] at kk
      rw [if_pos hb2, if_neg (by decide)]
      refine bb_110 hS hc' ?_
      refine bl_112 hS hc' f6 ?_
      rw [f7, f8, f13, fa, fb, fc, fd, fe]
      exact kk
    · have er : rb Sg (m (p + 2)) (m (p + 3)) = m (p + 3) := by simp [rb, hb, hb2]
      rw [er] at kk
      rw [if_neg hb2, if_pos rfl]
      refine bl_112 hS hc' f6 ?_
      rw [f7, f8, f13, fa, fb, fc, fd, fe]
      exact kk
  · have er : rb Sg (m (p + 2)) (m (p + 3)) = 0 := by simp [rb, hb]
    rw [er] at kk
    rw [if_neg hb, if_pos rfl]
    refine bb_134 hS hc' ?_
    refine bl_112 hS hc' f6 ?_
    rw [f7, f8, f13, fa, fb, fc, fd, fe]
    exact kk
end SIM
end
