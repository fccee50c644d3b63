/-! THE MACHINE'S NUMBERS STAY WORDS -/
section WF
variable {S md pc ba bo ti : Nat} {ro : Bool} {rg mm dk : Nat → Nat} {cs : mc_K}
def wfs (S : Nat) (s : mc_S) : Prop := match s with
  | (md, pc, ba, bo, ti, ro, _, rg, mm, dk, cs) => wfM S md pc ba bo ti rg mm dk ∧ (ro = true → md = 1) ∧ ∀ b ∈ cs.1, b < 256
def s_cs (s : mc_S) : mc_K := s.2.2.2.2.2.2.2.2.2.2
def s_ha (s : mc_S) : Bool := s.2.2.2.2.2.2.1
def s_mm (s : mc_S) : Nat → Nat := s.2.2.2.2.2.2.2.2.1
theorem mu_lt {f : Nat → Nat} {k x N : Nat} (hf : ∀ i, f i < N) (hx : x < N) : ∀ i, mu f k x i < N := by
  intro i
  unfold mu
  split
  · exact hx
  · exact hf i
theorem cpy_lt {f g : Nat → Nat} {s d n N : Nat} (hf : ∀ i, f i < N) (hg : ∀ i, g i < N) : ∀ i, va_cpy f g s d n i < N := by
  intro i
  unfold va_cpy
  split
  · exact hf _
  · exact hg _
theorem wf_tk {p : Nat} (hS : S ≤ 1844) (ht : ti < 65536) (hr : ∀ i, rg i < 65536) (hm : ∀ i, mm i < 65536) (hd : ∀ i, dk i < 65536) (hc : ∀ b ∈ cs.1, b < 256) : wfs S (mc_tk p ti false rg mm dk cs) := by
  refine ⟨⟨hS, ?_, hm _, hm _, hm _, ht, hr, hm, hd⟩, fun h => (by cases h), hc⟩
  split <;> omega
theorem wf_trap {c i k : Nat} (h : wfM S md pc ba bo ti rg mm dk) (hc : ∀ b ∈ cs.1, b < 256) (hcc : c < 65536) (hi : i < 65536) (hk : k < 65536) : wfs S (mc_trap c i k md ba bo ti false rg mm dk cs) := by
  obtain ⟨h1, h2, h3, h4, h5, h6, h7, h8, h9⟩ := h
  exact wf_tk h1 h6 h7 (tm_lt h8 hcc hi hk (by omega) h4 h5) h9 hc
theorem wf_go {nx : Nat} {rg' mm' : Nat → Nat} (h : wfM S md pc ba bo ti rg mm dk) (hro : ro = true → md = 1) (hc : ∀ b ∈ cs.1, b < 256) (hn : nx < 65536) (hr : ∀ i, rg' i < 65536) (hm : ∀ i, mm' i < 65536) : wfs S (mc_go nx md ba bo ti ro rg' mm' dk cs) := by
  obtain ⟨h1, h2, h3, h4, h5, h6, h7, h8, h9⟩ := h
  unfold mc_go
  split
  · rename_i q
    exact ⟨⟨h1, h2, hn, h4, h5, by omega, hr, hm, h9⟩, fun _ => q.1, hc⟩
  · exact ⟨⟨h1, h2, hn, h4, h5, h6, hr, hm, h9⟩, hro, hc⟩
theorem and_lt {x y : Nat} (h : x < 65536) : x &&& y < 65536 := Nat.lt_of_le_of_lt Nat.and_le_left h
theorem sh_lt {x n : Nat} (h : x < 65536) : mc_sh x n < 65536 := by
  unfold mc_sh
  split
  · omega
  · exact Nat.lt_of_le_of_lt (Nat.div_le_self _ _) h
theorem wf_alu {op a b n : Nat} (hr : ∀ i, rg i < 65536) (hp : pc + 2 < 65536) (hn : n < 65536) : (mc_alu op a b n pc rg).1 < 65536 ∧ ∀ i, (mc_alu op a b n pc rg).2 i < 65536 := by
  have ha := hr a
  have hb := hr b
  unfold mc_alu
  by_cases h1 : op = 1
  · rw [if_pos h1]; exact ⟨hp, mu_lt hr hn⟩
  rw [if_neg h1]
  by_cases h1 : op = 6
  · rw [if_pos h1]; exact ⟨hp, mu_lt hr hb⟩
  rw [if_neg h1]
  by_cases h1 : op = 7
  · rw [if_pos h1]; exact ⟨hp, mu_lt hr (by omega)⟩
  rw [if_neg h1]
  by_cases h1 : op = 8
  · rw [if_pos h1]; exact ⟨hp, mu_lt hr (by omega)⟩
  rw [if_neg h1]
  by_cases h1 : op = 9
  · rw [if_pos h1]; exact ⟨hp, mu_lt hr (and_lt ha)⟩
  rw [if_neg h1]
  by_cases h1 : op = 10
  · rw [if_pos h1]; exact ⟨hp, mu_lt hr (by split <;> omega)⟩
  rw [if_neg h1]
  by_cases h1 : op = 11
  · rw [if_pos h1]; exact ⟨hp, mu_lt hr (sh_lt ha)⟩
  rw [if_neg h1]
  by_cases h1 : op = 12
  · rw [if_pos h1]; exact ⟨hn, hr⟩
  rw [if_neg h1]
  by_cases h1 : op = 13
  · rw [if_pos h1]; exact ⟨by show (if rg a = 0 then n else pc + 2) < 65536; split <;> omega, hr⟩
  rw [if_neg h1]
  by_cases h1 : op = 14
  · rw [if_pos h1]; exact ⟨ha, hr⟩
  rw [if_neg h1]
  exact ⟨hn, mu_lt hr hp⟩
theorem in_lt (hc : ∀ b ∈ cs.1, b < 256) : (mc_in cs).1 < 65536 ∧ ∀ b ∈ (mc_in cs).2.1, b < 256 := by
  unfold mc_in
  obtain ⟨l, q⟩ := cs
  cases l with
  | nil => exact ⟨show 65535 < 65536 by decide, hc⟩
  | cons b t =>
    have hb := hc b (List.mem_cons_self ..)
    exact ⟨by show b < 65536; omega, fun x hx => hc x (List.mem_cons_of_mem _ hx)⟩
theorem wf_pv {op a ad : Nat} (h : wfM S 0 pc ba bo ti rg mm dk) (hc : ∀ b ∈ cs.1, b < 256) (hp : pc + 2 < 65536) : wfs S (mc_pv op a ad 0 pc ba bo ti false rg mm dk cs) := by
  have h0 := h
  obtain ⟨h1, h2, h3, h4, h5, h6, h7, h8, h9⟩ := h
  unfold mc_pv
  by_cases e : op = 0
  · rw [if_pos e]; exact ⟨⟨h1, h2, h3, h4, h5, h6, h7, h8, h9⟩, fun q => (by cases q), hc⟩
  rw [if_neg e]
  by_cases e : op = 17
  · rw [if_pos e]; exact wf_tk h1 h6 h7 h8 h9 hc
  rw [if_neg e]
  by_cases e : op = 18
  · rw [if_pos e]; exact ⟨⟨h1, h2, hp, h4, h5, h6, h7, mu_lt (mu_lt (mu_lt (mu_lt h8 (by omega)) hp) h4) h5, h9⟩, fun q => (by cases q), hc⟩
  rw [if_neg e]
  by_cases e : op = 19
  · rw [if_pos e]; exact ⟨⟨h1, h2, hp, h4, h5, h7 a, h7, h8, h9⟩, fun q => (by cases q), hc⟩
  rw [if_neg e]
  by_cases e : op = 20
  · rw [if_pos e]; exact ⟨⟨h1, h2, hp, h4, h5, h6, mu_lt h7 h6, h8, h9⟩, fun q => (by cases q), hc⟩
  rw [if_neg e]
  by_cases e : op = 21
  · rw [if_pos e]; exact ⟨⟨h1, h2, hp, h4, h5, h6, mu_lt h7 (in_lt hc).1, h8, h9⟩, fun q => (by cases q), (in_lt hc).2⟩
  rw [if_neg e]
  by_cases e : op = 22
  · rw [if_pos e]; exact ⟨⟨h1, h2, hp, h4, h5, h6, h7, h8, h9⟩, fun q => (by cases q), hc⟩
  rw [if_neg e]
  by_cases e : op = 23
  · rw [if_pos e]; exact ⟨⟨h1, h2, hp, h4, h5, h6, h7, cpy_lt h9 h8, h9⟩, fun q => (by cases q), hc⟩
  rw [if_neg e]
  exact ⟨⟨h1, h2, hp, h4, h5, h6, h7, h8, cpy_lt h8 h9⟩, fun q => (by cases q), hc⟩
theorem rc_lt (hS : S ≤ 1844) : mc_rc S ba bo < 65536 := by
  unfold mc_rc
  split <;> omega
theorem ad_lt {op b n : Nat} (hn : n < 65536) : mc_ad op b n rg < 65536 := by
  unfold mc_ad
  split <;> omega
theorem wf_ex {w n : Nat} (h : wfM S md pc ba bo ti rg mm dk) (hro : ro = false) (hc : ∀ b ∈ cs.1, b < 256) (hw : w < 65536) (hn : n < 65536) (hp : pc + 2 < 65536) : wfs S (mc_ex S w n md pc ba bo ti ro rg mm dk cs) := by
  subst hro
  have h0 := h
  obtain ⟨h1, h2, h3, h4, h5, h6, h7, h8, h9⟩ := h
  have hr : false = true → md = 1 := fun q => by cases q
  have had : mc_ad (w / 64) (w % 8) n rg < 65536 := ad_lt hn
  unfold mc_ex
  by_cases e : 24 < w / 64
  · rw [if_pos e]; exact wf_trap h0 hc (by omega) hw h3
  rw [if_neg e]
  by_cases e2 : md = 1 ∧ (w / 64 = 0 ∨ 17 ≤ w / 64)
  · rw [if_pos e2]; exact wf_trap h0 hc (by omega) hw h3
  rw [if_neg e2]
  by_cases e : w / 64 = 16
  · rw [if_pos e]; exact wf_trap h0 hc (by omega) hn hp
  rw [if_neg e]
  by_cases e3 : 2 ≤ w / 64 ∧ w / 64 ≤ 5
  · rw [if_pos e3]
    by_cases g : mc_gd S ba bo (mc_ad (w / 64) (w % 8) n rg)
    · rw [if_pos g]
      by_cases e4 : w / 64 = 2 ∨ w / 64 = 4
      · rw [if_pos e4]; exact wf_go h0 hr hc hp (mu_lt h7 (h8 _)) h8
      · rw [if_neg e4]; exact wf_go h0 hr hc hp h7 (mu_lt h8 (h7 _))
    · rw [if_neg g]; exact wf_trap h0 hc (by omega) had h3
  rw [if_neg e3]
  by_cases e4 : 1 ≤ w / 64 ∧ w / 64 ≤ 15
  · rw [if_pos e4]
    have q := wf_alu (op := w / 64) (a := w / 8 % 8) (b := w % 8) (n := n) h7 hp hn
    exact wf_go h0 hr hc q.1 q.2 h8
  rw [if_neg e4]
  have hm : md = 0 := by
    by_cases z : md = 0
    · exact z
    · exact absurd ⟨by omega, by omega⟩ e2
  subst hm
  by_cases e5 : 0 < mc_ct (w / 64) ∧ ¬ mc_gd S ba bo (mc_ad (w / 64) (w % 8) n rg)
  · rw [if_pos e5]; exact wf_trap h0 hc (by omega) had h3
  rw [if_neg e5]
  by_cases e6 : 0 < mc_ct (w / 64) ∧ ¬ mc_gd S ba bo (mc_ad (w / 64) (w % 8) n rg + mc_ct (w / 64) - 1)
  · rw [if_pos e6]; exact wf_trap h0 hc (by omega) (rc_lt h1) h3
  rw [if_neg e6]
  exact wf_pv h0 hc hp
theorem wf_st (h : wfM S md pc ba bo ti rg mm dk) (hro : ro = true → md = 1) (hc : ∀ b ∈ cs.1, b < 256) : wfs S (mc_st S md pc ba bo ti ro rg mm dk cs) := by
  have h0 := h
  obtain ⟨h1, h2, h3, h4, h5, h6, h7, h8, h9⟩ := h
  unfold mc_st
  by_cases e : md = 1 ∧ ro = true
  · rw [if_pos e]; exact wf_trap h0 hc (by omega) (by omega) h3
  rw [if_neg e]
  have hr : ro = false := by
    cases ro with
    | false => rfl
    | true => exact absurd ⟨hro rfl, rfl⟩ e
  subst hr
  by_cases g : ¬ mc_gd S ba bo pc
  · rw [if_pos g]; exact wf_trap h0 hc (by omega) h3 h3
  rw [if_neg g]
  have hg : mc_gd S ba bo pc := Classical.not_not.mp g
  have := hg.1
  by_cases g : ¬ mc_gd S ba bo (pc + 1)
  · rw [if_pos g]; exact wf_trap h0 hc (by omega) (by omega) h3
  rw [if_neg g]
  have hg2 : mc_gd S ba bo (pc + 1) := Classical.not_not.mp g
  have := hg2.1
  exact wf_ex h0 rfl hc (h8 _) (h8 _) (by omega)
theorem wf_step {s : mc_S} (h : wfs S s) : wfs S (mc_step S s) := by
  obtain ⟨md, pc, ba, bo, ti, ro, ha, rg, mm, dk, cs⟩ := s
  exact wf_st h.1 h.2.1 h.2.2
/-- what goes to the console: at most a byte a step -/
theorem cn_tk {p : Nat} : s_cs (mc_tk p ti ro rg mm dk cs) = cs := rfl
theorem cn_trap {c i k : Nat} : s_cs (mc_trap c i k md ba bo ti ro rg mm dk cs) = cs := rfl
theorem cn_go {nx : Nat} : s_cs (mc_go nx md ba bo ti ro rg mm dk cs) = cs := by
  unfold mc_go
  split <;> rfl
theorem cn_pv {op a ad : Nat} : (s_cs (mc_pv op a ad md pc ba bo ti ro rg mm dk cs)).2.2 ≤ cs.2.2 + 1 := by
  unfold mc_pv
  have hi : (mc_in cs).2.2.2 = cs.2.2 := by
    unfold mc_in
    obtain ⟨l, q⟩ := cs
    cases l <;> rfl
  repeat' split
  all_goals first
    | exact Nat.le_succ _
    | (show (mc_in cs).2.2.2 ≤ _; rw [hi]; exact Nat.le_succ _)
    | exact Nat.le_refl _
theorem cn_ex {w n : Nat} : (s_cs (mc_ex S w n md pc ba bo ti ro rg mm dk cs)).2.2 ≤ cs.2.2 + 1 := by
  have T : ∀ c i k, (s_cs (mc_trap c i k md ba bo ti ro rg mm dk cs)).2.2 ≤ cs.2.2 + 1 := fun c i k => Nat.le_succ _
  have G : ∀ nx rg' mm', (s_cs (mc_go nx md ba bo ti ro rg' mm' dk cs)).2.2 ≤ cs.2.2 + 1 := fun nx rg' mm' => by rw [cn_go]; exact Nat.le_succ _
  unfold mc_ex
  by_cases e : 24 < w / 64
  · rw [if_pos e]; exact T _ _ _
  rw [if_neg e]
  by_cases e : md = 1 ∧ (w / 64 = 0 ∨ 17 ≤ w / 64)
  · rw [if_pos e]; exact T _ _ _
  rw [if_neg e]
  by_cases e : w / 64 = 16
  · rw [if_pos e]; exact T _ _ _
  rw [if_neg e]
  by_cases e : 2 ≤ w / 64 ∧ w / 64 ≤ 5
  · rw [if_pos e]
    by_cases g : mc_gd S ba bo (mc_ad (w / 64) (w % 8) n rg)
    · rw [if_pos g]
      by_cases e4 : w / 64 = 2 ∨ w / 64 = 4
      · rw [if_pos e4]; exact G _ _ _
      · rw [if_neg e4]; exact G _ _ _
    · rw [if_neg g]; exact T _ _ _
  rw [if_neg e]
  by_cases e : 1 ≤ w / 64 ∧ w / 64 ≤ 15
  · rw [if_pos e]; exact G _ _ _
  rw [if_neg e]
  by_cases e5 : 0 < mc_ct (w / 64) ∧ ¬ mc_gd S ba bo (mc_ad (w / 64) (w % 8) n rg)
  · rw [if_pos e5]; exact T _ _ _
  rw [if_neg e5]
  by_cases e6 : 0 < mc_ct (w / 64) ∧ ¬ mc_gd S ba bo (mc_ad (w / 64) (w % 8) n rg + mc_ct (w / 64) - 1)
  · rw [if_pos e6]; exact T _ _ _
  rw [if_neg e6]
  exact cn_pv
theorem cn_st : (s_cs (mc_st S md pc ba bo ti ro rg mm dk cs)).2.2 ≤ cs.2.2 + 1 := by
  unfold mc_st
  by_cases e : md = 1 ∧ ro = true
  · rw [if_pos e]; exact Nat.le_succ _
  rw [if_neg e]
  by_cases g : ¬ mc_gd S ba bo pc
  · rw [if_pos g]; exact Nat.le_succ _
  rw [if_neg g]
  by_cases g : ¬ mc_gd S ba bo (pc + 1)
  · rw [if_pos g]; exact Nat.le_succ _
  rw [if_neg g]
  exact cn_ex
theorem cn_step {s : mc_S} : (s_cs (mc_step S s)).2.2 ≤ (s_cs s).2.2 + 1 := by
  obtain ⟨md, pc, ba, bo, ti, ro, ha, rg, mm, dk, cs⟩ := s
  exact cn_st
end WF
