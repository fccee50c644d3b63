/-! THE TOWER: the bare machine runs until it is the guest's turn -/
section LFT
def tr_ (d : Nat) (s : mc_S) : Prop := d = 0 ∨ s_ha s = true ∨ s.1 = 1 ∧ (d = 1 ∨ s_mm s 10 = 1)
def aw (S d : Nat) (Q : mc_S → Prop) : Nat → mc_S → Prop
  | 0, s => Q s
  | n + 1, s => ¬ tr_ d s ∧ aw S d Q n (mc_step S s)
def AW (S d : Nat) (Q : mc_S → Prop) (k : Nat) (s : mc_S) : Prop := ∃ j, j ≤ k ∧ aw S d Q j s
variable {S Sg d : Nat} {Q Q' : mc_S → Prop} {s R G L : mc_S}
theorem aw_imp (h : ∀ s, Q s → Q' s) : ∀ (k : Nat) (s : mc_S), aw S d Q k s → aw S d Q' k s := by
  intro k
  induction k with
  | zero => intro s q; exact h s q
  | succ k ih => intro s q; exact ⟨q.1, ih _ q.2⟩
theorem aw_seq {n : Nat} (h : ∀ s, Q s → AW S d Q' n s) : ∀ (k : Nat) (s : mc_S), aw S d Q k s → AW S d Q' (k + n) s := by
  intro k
  induction k with
  | zero => intro s q; obtain ⟨j, h1, h2⟩ := h s q; exact ⟨j, by omega, h2⟩
  | succ k ih => intro s q; obtain ⟨j, h1, h2⟩ := ih _ q.2; exact ⟨j + 1, by omega, q.1, h2⟩
theorem AW.imp {k : Nat} (h : ∀ s, Q s → Q' s) (q : AW S d Q k s) : AW S d Q' k s := by
  obtain ⟨j, h1, h2⟩ := q
  exact ⟨j, h1, aw_imp h _ _ h2⟩
theorem AW.mono {k k' : Nat} (h : k ≤ k') (q : AW S d Q k s) : AW S d Q k' s := by
  obtain ⟨j, h1, h2⟩ := q
  exact ⟨j, by omega, h2⟩
theorem AW.seq {k n : Nat} (h : ∀ s, Q s → AW S d Q' n s) (q : AW S d Q k s) : AW S d Q' (k + n) s := by
  obtain ⟨j, h1, h2⟩ := q
  exact (aw_seq h _ _ h2).mono (by omega)
theorem AW.step {k : Nat} (h : ¬ tr_ d s) (q : AW S d Q k (mc_step S s)) : AW S d Q (k + 1) s := by
  obtain ⟨j, h1, h2⟩ := q
  exact ⟨j + 1, by omega, h, h2⟩
theorem sup_tr (hd : d ≠ 0) (h : mc_sup s) : ¬ tr_ d s := by
  obtain ⟨h1, h2⟩ := h
  intro q
  rcases q with q | q | q
  · exact hd q
  · have : s_ha s = false := h2
    rw [this] at q; cases q
  · omega
theorem rn_aw (hd : d ≠ 0) : ∀ (k c : Nat) (s : mc_S), rn S Q k c s → aw S d Q k s := by
  intro k
  induction k with
  | zero => intro c s q; exact q
  | succ k ih =>
    intro c s q
    obtain ⟨h1, w, h2, h3, h4⟩ := q
    exact ⟨sup_tr hd h1, ih _ _ h4⟩
theorem RN.aw {k c : Nat} (hd : d ≠ 0) (q : RN S Q k c s) : AW S d Q k s := by
  obtain ⟨j, h1, h2⟩ := q
  exact ⟨j, h1, rn_aw hd _ _ _ h2⟩
/-- a step of the guest under one monitor -/
theorem sim1 (hS : 474 ≤ S) (hS2 : S ≤ 65535) (hSg : Sg + 410 = S) (hG : wfs Sg G) (h : sm Sg R G) : RN S (fun R' => sx Sg R' (mc_step Sg G)) 114 1114 (mc_step S R) := by
  obtain ⟨md', pc', ba', bo', ti', ro', ha', rg', m, dk', cs'⟩ := R
  obtain ⟨md, pc, ba, bo, ti, ro, ha, rg, mm, dk, cs⟩ := G
  obtain ⟨h1, h2, h3, h4, h5, h6, h7, h8, h9, h10, h11, h12, h13, h14⟩ := h
  subst h1 h2 h3 h4 h6 h9 h10 h11
  obtain ⟨⟨w1, w2, w3, w4, w5, w6, w7, w8, w9⟩, w10, w11⟩ := hG
  exact sim_step hS hS2 hSg (by omega) w4 w5 w7 w8 w10 h14 h12 h13 h5
/-- an ordinary one -/
theorem sim1o (hS2 : S ≤ 65535) (hSg : Sg + 410 = S) (hG : wfs Sg G) (h : sm Sg R G) (ho : mc_or Sg G) : sm Sg (mc_step S R) (mc_step Sg G) := by
  obtain ⟨md', pc', ba', bo', ti', ro', ha', rg', m, dk', cs'⟩ := R
  obtain ⟨md, pc, ba, bo, ti, ro, ha, rg, mm, dk, cs⟩ := G
  obtain ⟨h1, h2, h3, h4, h5, h6, h7, h8, h9, h10, h11, h12, h13, h14⟩ := h
  subst h1 h2 h3 h4 h6 h9 h10 h11
  obtain ⟨⟨w1, w2, w3, w4, w5, w6, w7, w8, w9⟩, w10, w11⟩ := hG
  obtain ⟨o0, o1⟩ := ho
  have hro : ro' = false := by
    cases ro' with
    | false => rfl
    | true => have := w10 rfl; omega
  subst hro
  exact sim_ord hS2 hSg (by omega) h14 h12 h13 h5 o1
theorem sm_ha (h : sm Sg R G) : s_ha R = false ∧ s_ha G = false ∧ R.1 = 1 ∧ s_mm R 10 = G.1 := by
  obtain ⟨md', pc', ba', bo', ti', ro', ha', rg', m, dk', cs'⟩ := R
  obtain ⟨md, pc, ba, bo, ti, ro, ha, rg, mm, dk, cs⟩ := G
  obtain ⟨h1, h2, h3, h4, h5, h6, h7, h8, h9, h10, h11, h12, h13, h14⟩ := h
  exact ⟨h7, h8, h1, h14.2.1⟩
theorem smH_ha (h : smH Sg R G) : s_ha R = true ∧ s_ha G = true := by
  obtain ⟨md', pc', ba', bo', ti', ro', ha', rg', m, dk', cs'⟩ := R
  obtain ⟨md, pc, ba, bo, ti, ro, ha, rg, mm, dk, cs⟩ := G
  exact ⟨h.2.1, h.2.2.1⟩
theorem sx_sm (h : sx Sg R G) (hh : s_ha G = false) : sm Sg R G := by
  rcases h with h | h
  · exact h
  · have := (smH_ha h).2
    rw [hh] at this; cases this
/-- the run of a monitor that runs under a monitor -/
theorem lift2 (hS : 474 ≤ S) (hS2 : S ≤ 65535) (hSg : Sg + 410 = S) : ∀ (k c : Nat) (L R : mc_S), rn Sg Q k c L → wfs Sg L → sx Sg R L → AW S 2 (fun R' => ∃ L', wfs Sg L' ∧ sx Sg R' L' ∧ Q L') c R := by
  intro k
  induction k with
  | zero => intro c L R q hL hx; exact ⟨0, by omega, L, hL, hx, q⟩
  | succ k ih =>
    intro c L R q hL hx
    obtain ⟨h1, w, h2, h3, h4⟩ := q
    have hs := sx_sm hx h1.2
    obtain ⟨a1, a2, a3, a4⟩ := sm_ha hs
    have hnt : ¬ tr_ 2 R := by
      intro z
      rcases z with z | z | z
      · omega
      · rw [a1] at z; cases z
      · rcases z.2 with y | y
        · omega
        · rw [a4, h1.1] at y; omega
    rcases h3 with ⟨ho, rfl⟩ | rfl
    · have q := ih _ _ _ h4 (wf_step hL) (Or.inl (sim1o hS2 hSg hL hs ho))
      exact (AW.step hnt q).mono (by omega)
    · have q := (sim1 hS hS2 hSg hL hs).aw (d := 2) (by omega)
      have q2 := AW.seq (fun R' hx' => ih _ _ R' h4 (wf_step hL) hx') q
      exact (AW.step hnt q2).mono (by omega)
/-- the bare machine R bears the guest G: its memory's size is S, the guest's Sg, the depth d -/
def grel (d S Sg : Nat) (R G : mc_S) : Prop := wfs S R ∧ wfs Sg G ∧ 64 ≤ Sg ∧ Sg ≤ 1024 ∧ (d = 0 ∧ S = Sg ∧ R = G ∨ d = 1 ∧ S = Sg + 410 ∧ sx Sg R G ∨ d = 2 ∧ S = Sg + 820 ∧ ∃ L, wfs (Sg + 410) L ∧ sx Sg L G ∧ sx (Sg + 410) R L)
theorem aw_wf : ∀ (k : Nat) (s : mc_S), wfs S s → aw S d Q k s → aw S d (fun s' => wfs S s' ∧ Q s') k s := by
  intro k
  induction k with
  | zero => intro s h q; exact ⟨h, q⟩
  | succ k ih => intro s h q; exact ⟨q.1, ih _ (wf_step h) q.2⟩
theorem AW.wf {k : Nat} (h : wfs S s) (q : AW S d Q k s) : AW S d (fun s' => wfs S s' ∧ Q s') k s := by
  obtain ⟨j, h1, h2⟩ := q
  exact ⟨j, h1, aw_wf _ _ h h2⟩
/-- A STEP OF THE GUEST, whatever the tower -/
theorem g_step (h : grel d S Sg R G) (hh : s_ha G = false) : AW S d (fun R' => grel d S Sg R' (mc_step Sg G)) 2000 (mc_step S R) := by
  obtain ⟨h1, h2, h3, h4, h5⟩ := h
  rcases h5 with ⟨rfl, rfl, rfl⟩ | ⟨rfl, rfl, hx⟩ | ⟨rfl, rfl, L, hL, hx, hy⟩
  · exact ⟨0, by omega, wf_step h1, wf_step h1, h3, h4, Or.inl ⟨rfl, rfl, rfl⟩⟩
  · have q := (sim1 (by omega) (by omega) rfl h2 (sx_sm hx hh)).aw (d := 1) (by omega)
    refine AW.imp ?_ ((q.wf (wf_step h1)).mono (by omega))
    intro R' hR
    exact ⟨hR.1, wf_step h2, h3, h4, Or.inr (Or.inl ⟨rfl, rfl, hR.2⟩)⟩
  · have hs := sx_sm hx hh
    have q1 := sim1 (S := Sg + 410) (by omega) (by omega) rfl h2 hs
    have q2 := (sim1 (S := Sg + 820) (Sg := Sg + 410) (by omega) (by omega) rfl hL (sx_sm hy (sm_ha hs).1)).aw (d := 2) (by omega)
    obtain ⟨j, hj, q1⟩ := q1
    have q3 := AW.seq (fun R' hx' => lift2 (S := Sg + 820) (by omega) (by omega) rfl _ _ _ R' q1 (wf_step hL) hx') q2
    refine AW.imp ?_ ((q3.wf (wf_step h1)).mono (by omega))
    intro R' hR
    obtain ⟨hw, L', hl1, hl2, hl3⟩ := hR
    exact ⟨hw, wf_step h2, h3, h4, Or.inr (Or.inr ⟨rfl, rfl, L', hl1, hl3, hl2⟩)⟩
/-- at the guest's turn it is the guest's turn -/
theorem g_turn (h : grel d S Sg R G) : tr_ d R ∧ s_ha R = s_ha G ∧ s_cs R = s_cs G := by
  have K : ∀ {Sg R G}, sx Sg R G → s_ha R = s_ha G ∧ s_cs R = s_cs G := by
    intro Sg R G h
    rcases h with h | h
    · refine ⟨by rw [(sm_ha h).1, (sm_ha h).2.1], ?_⟩
      obtain ⟨md', pc', ba', bo', ti', ro', ha', rg', m, dk', cs'⟩ := R
      obtain ⟨md, pc, ba, bo, ti, ro, ha, rg, mm, dk, cs⟩ := G
      exact h.2.2.2.2.2.2.2.2.2.2.1
    · refine ⟨by rw [(smH_ha h).1, (smH_ha h).2], ?_⟩
      obtain ⟨md', pc', ba', bo', ti', ro', ha', rg', m, dk', cs'⟩ := R
      obtain ⟨md, pc, ba, bo, ti, ro, ha, rg, mm, dk, cs⟩ := G
      exact h.2.2.2.2.2.2.2.2.1
  obtain ⟨h1, h2, h3, h4, h5⟩ := h
  rcases h5 with ⟨rfl, rfl, rfl⟩ | ⟨rfl, rfl, hx⟩ | ⟨rfl, rfl, L, hL, hx, hy⟩
  · exact ⟨Or.inl rfl, rfl, rfl⟩
  · refine ⟨?_, K hx⟩
    rcases hx with hx | hx
    · exact Or.inr (Or.inr ⟨(sm_ha hx).2.2.1, Or.inl rfl⟩)
    · exact Or.inr (Or.inl (smH_ha hx).1)
  · refine ⟨?_, by rw [(K hy).1, (K hx).1], by rw [(K hy).2, (K hx).2]⟩
    rcases hx with hx | hx
    · have z := sx_sm hy (sm_ha hx).1
      exact Or.inr (Or.inr ⟨(sm_ha z).2.2.1, Or.inr (by rw [(sm_ha z).2.2.2, (sm_ha hx).2.2.1])⟩)
    · refine Or.inr (Or.inl ?_)
      rw [(K hy).1, (smH_ha hx).1]
end LFT
