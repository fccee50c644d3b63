/-! THE MACHINE OF THE DOCUMENT, over Nat (mine): a state is (mode, pc, base, bound, timer, run out, halted, registers, memory, disk, console) -/
section ABS
abbrev mc_K : Type := List Nat × (Nat → Nat) × Nat
abbrev mc_S : Type := Nat × Nat × Nat × Nat × Nat × Bool × Bool × (Nat → Nat) × (Nat → Nat) × (Nat → Nat) × mc_K
def mu (f : Nat → Nat) (k x j : Nat) : Nat := if j = k then x else f j
theorem mu_s (f : Nat → Nat) (k x : Nat) : mu f k x k = x := by simp [mu]
theorem mu_n (f : Nat → Nat) {k j : Nat} (x : Nat) (h : j ≠ k) : mu f k x j = f j := by simp [mu, h]
def mc_in (c : mc_K) : Nat × mc_K := match c.1 with
  | [] => (65535, c)
  | b :: t => (b, t, c.2)
def mc_out (c : mc_K) (b : Nat) : mc_K := (c.1, (if c.2.2 < 500 then mu c.2.1 c.2.2 b else c.2.1), c.2.2 + 1)
abbrev mc_gd (S ba bo n : Nat) : Prop := n < bo ∧ ba + n < S
def mc_rc (S ba bo : Nat) : Nat := if bo < S - ba then bo else S - ba
def mc_tk (p ti : Nat) (ro : Bool) (rg mm dk : Nat → Nat) (cs : mc_K) : mc_S := ((if mm p = 0 then 0 else 1), mm (p + 1), mm (p + 2), mm (p + 3), ti, ro, false, rg, mm, dk, cs)
def mc_tm (mm : Nat → Nat) (c i k md ba bo : Nat) : Nat → Nat := mu (mu (mu (mu (mu (mu mm 0 md) 1 k) 2 ba) 3 bo) 8 c) 9 i
def mc_trap (c i k md ba bo ti : Nat) (ro : Bool) (rg mm dk : Nat → Nat) (cs : mc_K) : mc_S := mc_tk 4 ti ro rg (mc_tm mm c i k md ba bo) dk cs
def mc_go (nx md ba bo ti : Nat) (ro : Bool) (rg mm dk : Nat → Nat) (cs : mc_K) : mc_S := if md = 1 ∧ 0 < ti then (md, nx, ba, bo, ti - 1, decide (ti = 1), false, rg, mm, dk, cs) else (md, nx, ba, bo, ti, ro, false, rg, mm, dk, cs)
def mc_ad (op b n : Nat) (rg : Nat → Nat) : Nat := if op = 4 ∨ op = 5 ∨ 23 ≤ op then (rg b + n) % 65536 else n
def mc_ct (op : Nat) : Nat := if op = 17 ∨ op = 18 then 4 else if op < 23 then 0 else 16
def mc_sh (x n : Nat) : Nat := if n / 16 % 2 = 0 then x * 2 ^ (n % 16) % 65536 else x / 2 ^ (n % 16)
def mc_alu (op a b n pc : Nat) (rg : Nat → Nat) : Nat × (Nat → Nat) :=
  if op = 1 then (pc + 2, mu rg a n)
  else if op = 6 then (pc + 2, mu rg a (rg b))
  else if op = 7 then (pc + 2, mu rg a ((rg a + rg b) % 65536))
  else if op = 8 then (pc + 2, mu rg a ((rg a + 65536 - rg b) % 65536))
  else if op = 9 then (pc + 2, mu rg a (rg a &&& rg b))
  else if op = 10 then (pc + 2, mu rg a (if rg a < rg b then 1 else 0))
  else if op = 11 then (pc + 2, mu rg a (mc_sh (rg a) n))
  else if op = 12 then (n, rg)
  else if op = 13 then ((if rg a = 0 then n else pc + 2), rg)
  else if op = 14 then (rg a, rg)
  else (n, mu rg a (pc + 2))
def mc_pv (op a ad md pc ba bo ti : Nat) (ro : Bool) (rg mm dk : Nat → Nat) (cs : mc_K) : mc_S :=
  if op = 0 then (md, pc, ba, bo, ti, ro, true, rg, mm, dk, cs)
  else if op = 17 then mc_tk (ba + ad) ti ro rg mm dk cs
  else if op = 18 then (md, pc + 2, ba, bo, ti, ro, false, rg, mu (mu (mu (mu mm (ba + ad) md) (ba + ad + 1) (pc + 2)) (ba + ad + 2) ba) (ba + ad + 3) bo, dk, cs)
  else if op = 19 then (md, pc + 2, ba, bo, rg a, false, false, rg, mm, dk, cs)
  else if op = 20 then (md, pc + 2, ba, bo, ti, ro, false, mu rg a ti, mm, dk, cs)
  else if op = 21 then (md, pc + 2, ba, bo, ti, ro, false, mu rg a (mc_in cs).1, mm, dk, (mc_in cs).2)
  else if op = 22 then (md, pc + 2, ba, bo, ti, ro, false, rg, mm, dk, mc_out cs (rg a % 256))
  else if op = 23 then (md, pc + 2, ba, bo, ti, ro, false, rg, va_cpy dk mm (rg a % 8 * 16) (ba + ad) 16, dk, cs)
  else (md, pc + 2, ba, bo, ti, ro, false, rg, mm, va_cpy mm dk (ba + ad) (rg a % 8 * 16) 16, cs)
/-- the instruction w n, its words being good -/
def mc_ex (S w n md pc ba bo ti : Nat) (ro : Bool) (rg mm dk : Nat → Nat) (cs : mc_K) : mc_S :=
  if 24 < w / 64 then mc_trap 5 w pc md ba bo ti ro rg mm dk cs
  else if md = 1 ∧ (w / 64 = 0 ∨ 17 ≤ w / 64) then mc_trap 1 w pc md ba bo ti ro rg mm dk cs
  else if w / 64 = 16 then mc_trap 3 n (pc + 2) md ba bo ti ro rg mm dk cs
  else if 2 ≤ w / 64 ∧ w / 64 ≤ 5 then
    (if mc_gd S ba bo (mc_ad (w / 64) (w % 8) n rg) then
      (if w / 64 = 2 ∨ w / 64 = 4 then mc_go (pc + 2) md ba bo ti ro (mu rg (w / 8 % 8) (mm (ba + mc_ad (w / 64) (w % 8) n rg))) mm dk cs
       else mc_go (pc + 2) md ba bo ti ro rg (mu mm (ba + mc_ad (w / 64) (w % 8) n rg) (rg (w / 8 % 8))) dk cs)
     else mc_trap 2 (mc_ad (w / 64) (w % 8) n rg) pc md ba bo ti ro rg mm dk cs)
  else if 1 ≤ w / 64 ∧ w / 64 ≤ 15 then mc_go (mc_alu (w / 64) (w / 8 % 8) (w % 8) n pc rg).1 md ba bo ti ro (mc_alu (w / 64) (w / 8 % 8) (w % 8) n pc rg).2 mm dk cs
  else if 0 < mc_ct (w / 64) ∧ ¬ mc_gd S ba bo (mc_ad (w / 64) (w % 8) n rg) then mc_trap 2 (mc_ad (w / 64) (w % 8) n rg) pc md ba bo ti ro rg mm dk cs
  else if 0 < mc_ct (w / 64) ∧ ¬ mc_gd S ba bo (mc_ad (w / 64) (w % 8) n rg + mc_ct (w / 64) - 1) then mc_trap 2 (mc_rc S ba bo) pc md ba bo ti ro rg mm dk cs
  else mc_pv (w / 64) (w / 8 % 8) (mc_ad (w / 64) (w % 8) n rg) md pc ba bo ti ro rg mm dk cs
/-- a step of a machine of S words that is not halted -/
def mc_st (S md pc ba bo ti : Nat) (ro : Bool) (rg mm dk : Nat → Nat) (cs : mc_K) : mc_S :=
  if md = 1 ∧ ro = true then mc_trap 4 0 pc md ba bo ti false rg mm dk cs
  else if ¬ mc_gd S ba bo pc then mc_trap 2 pc pc md ba bo ti ro rg mm dk cs
  else if ¬ mc_gd S ba bo (pc + 1) then mc_trap 2 (pc + 1) pc md ba bo ti ro rg mm dk cs
  else mc_ex S (mm (ba + pc)) (mm (ba + pc + 1)) md pc ba bo ti ro rg mm dk cs
def mc_step (S : Nat) (s : mc_S) : mc_S := match s with
  | (md, pc, ba, bo, ti, ro, _, rg, mm, dk, cs) => mc_st S md pc ba bo ti ro rg mm dk cs
end ABS
