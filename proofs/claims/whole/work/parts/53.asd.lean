/-! A LINE, taken apart: the Model -/
section ASD
theorem nIn_65536 {a : Nat} (h : a < 2 ^ 31) : (65536 : Int32) ≤ nI a ↔ 65536 ≤ a := nI_leI (a := 65536) (by decide) h
abbrev tO : Type := Int32 × Int32 × Int32 × Int32 × Int32 × Int32 × Int32 × Int32 × Int32 × (Nat → Int32) × (Nat → Int32) × (Nat → Int32) × (Nat → Int32)
def bad_ (zlb zad zms : Int32) (lF lS lA md : Nat → Int32) (r : Option tO) : Prop := ∃ a g v vf vs, r = some (1, a, zlb, zad, zms, g, v, vf, vs, lF, lS, lA, md)
variable {T : Nat → Nat} {z zw lF lS lA md : Nat → Int32} {zl zlb zad zms vf va vs x1 x2 x4 x5 x6 x7 x8 x9 : Int32} {e E p : Nat}
theorem m_334f {at' : Int32} : bad_ zlb zad zms lF lS lA md (b_MD_oneLine_334 at' zl zlb zad zms 0 va vf vs z lF lS lA md x1 x2 x4 x5 x6 x7 x8 x9) := by
  unfold b_MD_oneLine_334 b_MD_oneLine_364
  rw [if_pos rfl, if_pos rfl]
  exact ⟨_, _, _, _, _, rfl⟩
theorem m_307f (hT : ∀ i, T i < 256) (hz : tp z T) (he : e ≤ 3000) (hp : p ≤ e) : bad_ zlb zad zms lF lS lA md (b_MD_oneLine_307 (nI p) (nI e) zl zlb zad zms 0 va vf vs z lF lS lA md x1 x2 x4 x5 x6 x7 x8 x9) := by
  unfold b_MD_oneLine_307
  rw [m_sk he hT hz hp, Option.bind_some, if_pos rfl]
  exact m_334f
theorem m_over (hT : ∀ i, T i < 256) (hz : tp z T) (he : e ≤ 3000) (hE : lnE T e E) (hp : p ≤ E) (hn : p < E → T p ≠ 10 ∧ T p ≠ 59) : f_MD_isOver (nI p) (nI e) z = some (bi (decide (p = E))) := by
  have hl := hE.1
  unfold f_MD_isOver
  rw [ic (nI_leI (by omega) (by omega))]
  by_cases h : e ≤ p
  · rw [if_pos h, decide_eq_true (show p = E by omega)]; rfl
  · rw [if_neg h]
    simp only [if_pos ((ck_nI (n := p) (N := 3000) (by omega)).mpr (by omega)), nI_clamp (show p < 2 ^ 31 by omega), hz p (by omega)]
    rw [ic (sxb_l (c := 10) (x := (10 : Int32)) (hT p) (by omega) rfl), ic (sxb_l (c := 59) (x := (59 : Int32)) (hT p) (by omega) rfl)]
    by_cases q : p = E
    · rw [decide_eq_true q]
      rcases hE.2 with r | r | r
      · omega
      · rw [if_pos (by rw [q]; exact r)]; rfl
      · by_cases y : T p = 10
        · rw [if_pos y]; rfl
        · rw [if_neg y, if_pos (by rw [q]; exact r)]; rfl
    · obtain ⟨k1, k2⟩ := hn (by omega)
      rw [decide_eq_false q, if_neg k1, if_neg k2]; rfl
def inL (T : Nat → Nat) (p E : Nat) : Prop := ∀ i, p ≤ i → i < E → T i ≠ 10 ∧ T i ≠ 59
theorem m_307 {s : Nat} (hT : ∀ i, T i < 256) (hz : tp z T) (he : e ≤ 3000) (hE : lnE T e E) (hI : inL T s E) (hs : s ≤ p) (hp : p ≤ E) : (¬ sk T E p = E → bad_ zlb zad zms lF lS lA md (b_MD_oneLine_307 (nI p) (nI e) zl zlb zad zms 1 va vf vs z lF lS lA md x1 x2 x4 x5 x6 x7 x8 x9)) ∧ (sk T E p = E → b_MD_oneLine_307 (nI p) (nI e) zl zlb zad zms 1 va vf vs z lF lS lA md x1 x2 x4 x5 x6 x7 x8 x9 = b_MD_oneLine_334 (nI E) zl zlb zad zms 1 va vf vs z lF lS lA md x1 x2 x4 x5 x6 x7 x8 x9) := by
  have hk := sk_le (T := T) hp
  have hl := hE.1
  unfold b_MD_oneLine_307
  rw [m_sk he hT hz (by omega), Option.bind_some, if_neg (show ¬ (1 : Int32) = 0 by decide), sk_lim hE hp, m_over hT hz he hE hk.2 (fun q => hI _ (by omega) q), Option.bind_some]
  constructor
  · intro h
    rw [decide_eq_false h, if_pos bi_f]
    exact m_334f
  · intro h
    rw [decide_eq_true h, if_neg bi_t, h]
theorem m_gap1 (hT : ∀ i, T i < 256) (hz : tp z T) (he : e ≤ 3000) (hE : lnE T e E) (hp : p ≤ E) : f_MD_gap (nI p) (nI e) 1 z = some (nI (sk T E p), bi (decide (hc T E p = 32))) := by
  have hl := hE.1
  unfold f_MD_gap
  rw [if_neg (show ¬ (1 : Int32) = 0 by decide), m_byte hT hz he (by omega), Option.bind_some, m_sk he hT hz (by omega), sk_lim hE hp, Option.bind_some, Option.bind_some, ic (hr_32 hT), ic (hc_lim hE hp (by omega))]
  by_cases h : hc T E p = 32
  · rw [if_pos h, decide_eq_true h]; rfl
  · rw [if_neg h, decide_eq_false h]; rfl
theorem m_gap0 (hT : ∀ i, T i < 256) (hz : tp z T) (he : e ≤ 3000) (hp : p ≤ e) : f_MD_gap (nI p) (nI e) 0 z = some (nI (sk T e p), 0) := by
  unfold f_MD_gap
  rw [if_pos rfl, m_sk he hT hz hp, Option.bind_some]
theorem m_63f {q : Nat} : b_MD_register_63 (nI q) (nI e) 0 z = some (0, nI q, 0) := by
  unfold b_MD_register_63 b_MD_register_88
  rw [if_pos rfl, if_pos rfl]
theorem m_reg0 (hT : ∀ i, T i < 256) (hz : tp z T) (he : e ≤ 3000) (hp : p ≤ e) : ∃ x q, q ≤ e ∧ f_MD_register (nI p) (nI e) 0 z = some (x, nI q, 0) := by
  have hk := sk_le (T := T) hp
  unfold f_MD_register
  rw [m_gap0 hT hz he hp, Option.bind_some]
  exact ⟨0, _, hk.2, (if_pos rfl).trans m_63f⟩
theorem m_reg1 (hT : ∀ i, T i < 256) (hz : tp z T) (he : e ≤ 3000) (hE : lnE T e E) (hp : p ≤ E) : (p_reg T E p = none ∧ ∃ x q, q ≤ e ∧ f_MD_register (nI p) (nI e) 1 z = some (x, nI q, 0)) ∨ (∃ v q, p_reg T E p = some (v, q) ∧ v < 8 ∧ p ≤ q ∧ q ≤ E ∧ f_MD_register (nI p) (nI e) 1 z = some (nI v, nI q, 1)) := by
  have hk := sk_le (T := T) hp
  have hl := hE.1
  unfold f_MD_register p_reg
  rw [m_gap1 hT hz he hE hp, Option.bind_some]
  by_cases h1 : hc T E p = 32
  · rw [decide_eq_true h1]
    dsimp only
    rw [if_neg bi_t, m_byte hT hz he (by omega), Option.bind_some, ic (hr_114 hT), ic (hc_lim hE hk.2 (by omega)), nI_1, m_byte hT hz he (by omega), Option.bind_some, Option.bind_some]
    by_cases h2 : hc T E (sk T E p) = 114
    · have hlt := hc_p h2 (by omega)
      rw [if_pos h2]
      have key : (48 ≤ hc T E (sk T E p + 1) ∧ hc T E (sk T E p + 1) ≤ 55) ↔ (48 ≤ hc T e (sk T E p + 1) ∧ hc T e (sk T E p + 1) ≤ 55) := by
        have := hcb_lim (T := T) (p := sk T E p + 1) (f := fun c => decide (48 ≤ c ∧ c ≤ 55)) hE (by omega) (by decide)
        have := decide_eq_decide.mp this
        exact this.symm
      by_cases h3 : sk T E p + 1 < e
      · have e1 : hr T e (sk T E p + 1) = nI (T (sk T E p + 1)) := if_pos h3
        have e2 : hc T e (sk T E p + 1) = T (sk T E p + 1) := if_pos h3
        have := hT (sk T E p + 1)
        rw [e2] at key
        rw [e1, ic (nIl_48 (by omega)), ic (nIg_55 (by omega))]
        by_cases h4 : 48 ≤ T (sk T E p + 1) ∧ T (sk T E p + 1) ≤ 55
        · have h5 := key.mpr h4
          have h6 := hc_p (T := T) (E := E) (p := sk T E p + 1) (c := hc T E (sk T E p + 1)) rfl (by omega)
          have e3 : hc T E (sk T E p + 1) = T (sk T E p + 1) := if_pos h6
          right
          refine ⟨T (sk T E p + 1) - 48, sk T E p + 2, ?_, by omega, by omega, by omega, ?_⟩
          · rw [if_pos ⟨h1, h2, h5⟩, e3]
          · have e48 : nI 48 = (48 : Int32) := rfl
            rw [if_neg (by omega), if_neg (by omega)]
            unfold b_MD_register_63 b_MD_register_88
            rw [if_neg (show ¬ (1 : Int32) = 0 by decide), nI_1, m_byte hT hz he (by omega), Option.bind_some, if_neg (show ¬ (1 : Int32) = 0 by decide), e1, nI_p2, ← e48, pk_sub (by omega)]
        · left
          refine ⟨if_neg (fun y => h4 (key.mp y.2.2)), 0, sk T E p, by omega, ?_⟩
          by_cases h5 : T (sk T E p + 1) < 48
          · rw [if_pos h5]; exact m_63f
          · rw [if_neg h5, if_pos (by omega)]; exact m_63f
      · have e1 : hr T e (sk T E p + 1) = -1 := if_neg h3
        have e2 : hc T e (sk T E p + 1) = 0 := if_neg h3
        rw [e2] at key
        left
        refine ⟨if_neg (fun y => by have := (key.mp y.2.2).1; omega), 0, sk T E p, by omega, ?_⟩
        rw [e1, if_pos (by decide)]
        exact m_63f
    · rw [if_neg h2]
      left
      exact ⟨if_neg (fun y => h2 y.2.1), 0, sk T E p, by omega, m_63f⟩
  · rw [decide_eq_false h1]
    dsimp only
    rw [if_pos bi_f]
    left
    exact ⟨if_neg (fun y => h1 y.1), 0, sk T E p, by omega, m_63f⟩
/-- a number -/
theorem m_n4 (hT : ∀ i, T i < 256) (hz : tp z T) (he : e ≤ 3000) : ∀ (r n u : Nat), p + n + r = e → r < u → (∀ j, j < n → dgt (T (p + j)) = true) → ∃ x, (x = nI (dec T p (min (scn (fun q => dgt (T q)) r (p + n) - p) 6))) ∧ b_MD_number_4 u (nI (p + n)) (nI e) 1 z (nI (dec T p (min n 6))) (nI n) = some (x, nI (scn (fun q => dgt (T q)) r (p + n)), if scn (fun q => dgt (T q)) r (p + n) = p ∨ 5 < scn (fun q => dgt (T q)) r (p + n) - p ∨ 65535 < dec T p (scn (fun q => dgt (T q)) r (p + n) - p) then 0 else 1) := by
  have F : ∀ n, p + n ≤ e → (∀ j, j < n → dgt (T (p + j)) = true) → (if (1 : Int32) = (0 : Int32) then (some (nI (dec T p (min n 6)), nI (p + n), (0 : Int32))) else (if nI n ≤ (0 : Int32) then (some (nI (dec T p (min n 6)), nI (p + n), 0)) else (if (6 : Int32) ≤ nI n then (some (nI (dec T p (min n 6)), nI (p + n), 0)) else (if (65536 : Int32) ≤ nI (dec T p (min n 6)) then (some (nI (dec T p (min n 6)), nI (p + n), 0)) else (some (nI (dec T p (min n 6)), nI (p + n), 1)))))) = some (nI (dec T p (min (p + n - p) 6)), nI (p + n), if p + n = p ∨ 5 < p + n - p ∨ 65535 < dec T p (p + n - p) then 0 else 1) := by
    intro n hn hd
    have h6 := dec_6 (T := T) (p := p) (n := min n 6) (by omega) (fun j hj => hd j (by omega))
    rw [if_neg (show ¬ (1 : Int32) = 0 by decide), ic (nIm_0 (by omega)), ic (nIn_6 (by omega)), ic (nIn_65536 (by omega)), Nat.add_sub_cancel_left]
    by_cases a1 : n ≤ 0
    · rw [if_pos a1, if_pos (by omega)]
    · rw [if_neg a1]
      by_cases a2 : 6 ≤ n
      · rw [if_pos a2, if_pos (by omega)]
      · rw [if_neg a2, show min n 6 = n by omega] at *
        by_cases a3 : 65536 ≤ dec T p n
        · rw [if_pos a3, if_pos (by omega)]
        · rw [if_neg a3, if_neg (by omega)]
  intro r
  induction r with
  | zero =>
    intro n u h1 h2 h3
    obtain ⟨u, rfl⟩ : ∃ m, u = m + 1 := ⟨u - 1, by omega⟩
    refine ⟨_, rfl, ?_⟩
    rw [b_MD_number_4, m_byte hT hz he (by omega), Option.bind_some, m_dgH hT, Option.bind_some]
    have e1 : hc T e (p + n) = 0 := if_neg (by omega)
    rw [e1, if_pos (by decide)]
    exact F n (by omega) h3
  | succ r ih =>
    intro n u h1 h2 h3
    obtain ⟨u, rfl⟩ : ∃ m, u = m + 1 := ⟨u - 1, by omega⟩
    have hlt := hT (p + n)
    have es : scn (fun q => dgt (T q)) (r + 1) (p + n) = if dgt (T (p + n)) = true then scn (fun q => dgt (T q)) r (p + n + 1) else p + n := rfl
    have e1 : hc T e (p + n) = T (p + n) := if_pos (by omega)
    have e2 : hr T e (p + n) = nI (T (p + n)) := if_pos (by omega)
    rw [b_MD_number_4, m_byte hT hz he (by omega), Option.bind_some, m_dgH hT, Option.bind_some, e1]
    cases hd : dgt (T (p + n)) with
    | false =>
      rw [hd, if_neg (show ¬ false = true by decide)] at es
      rw [es, if_pos bi_f]
      exact ⟨_, rfl, F n (by omega) h3⟩
    | true =>
      rw [hd, if_pos rfl] at es
      rw [es, if_neg bi_t, Option.bind_some, e2]
      have hd' := of_decide_eq_true hd
      obtain ⟨x, hx, m6⟩ := ih (n + 1) u (by omega) (by omega) (fun j hj => by
        by_cases e : j = n
        · subst e; exact hd
        · exact h3 j (by omega))
      refine ⟨x, hx, ?_⟩
      rw [ic (nIn_6 (by omega)), nI_1, nI_1]
      by_cases h6 : 6 ≤ n
      · rw [if_pos h6]
        rw [show min (n + 1) 6 = min n 6 by omega] at m6
        exact m6
      · rw [if_neg h6]
        have e3 : (10 : Int32) * nI (dec T p (min n 6)) + nI (T (p + n)) - 48 = nI (dec T p (min (n + 1) 6)) := by
          have e10 : nI 10 = (10 : Int32) := rfl
          have e48 : nI 48 = (48 : Int32) := rfl
          have hd6 := dec_6 (T := T) (p := p) (n := min n 6) (by omega) (fun j hj => h3 j (by omega))
          rw [← e10, ← e48, pk_mul, nI_add, pk_sub (by omega), show min n 6 = n by omega, show min (n + 1) 6 = n + 1 by omega]
          congr 1
          show _ = dec T p n * 10 + (T (p + n) - 48)
          omega
        rw [e3]
        exact m6
theorem dgs_lim (hE : lnE T e E) (hp : p ≤ E) : dgs T e p = dgs T E p := scn_lim hp hE.1 (by
  rcases hE.2 with q | q | q
  · exact Or.inl q
  · exact Or.inr (by show dgt (T E) = false; rw [q]; rfl)
  · exact Or.inr (by show dgt (T E) = false; rw [q]; rfl))
theorem m_num (hT : ∀ i, T i < 256) (hz : tp z T) (he : e ≤ 3000) (hE : lnE T e E) (hp : p ≤ E) : (p_num T E p = none ∧ ∃ x q, q ≤ e ∧ f_MD_number (nI p) (nI e) 1 z = some (x, nI q, 0)) ∨ (∃ v q, p_num T E p = some (v, q) ∧ v < 65536 ∧ p ≤ q ∧ q ≤ E ∧ f_MD_number (nI p) (nI e) 1 z = some (nI v, nI q, 1)) := by
  have hl := hE.1
  have hd := dgs_le (T := T) hp
  obtain ⟨x, hx, h⟩ := m_n4 (z := z) (T := T) (p := p) hT hz he (e - p) 0 65536 (by omega) (by omega) (fun j hj => by omega)
  have hx' : x = nI (dec T p (min (dgs T e p - p) 6)) := hx
  have h' : f_MD_number (nI p) (nI e) 1 z = some (x, nI (dgs T e p), if dgs T e p = p ∨ 5 < dgs T e p - p ∨ 65535 < dec T p (dgs T e p - p) then 0 else 1) := h
  rw [dgs_lim hE hp] at hx' h'
  unfold p_num
  by_cases q : dgs T E p = p ∨ 5 < dgs T E p - p ∨ 65535 < dec T p (dgs T E p - p)
  · left
    rw [if_pos q] at h' ⊢
    exact ⟨rfl, x, _, by omega, h'⟩
  · right
    rw [if_neg q] at h' ⊢
    rw [show min (dgs T E p - p) 6 = dgs T E p - p by omega] at hx'
    exact ⟨_, _, rfl, by omega, hd.1, hd.2, by rw [h', hx']⟩
/-- a name -/
theorem m_na (hT : ∀ i, T i < 256) (hz : tp z T) (he : e ≤ 3000) : ∀ (r n u : Nat), p + n + r = e → r < u → b_MD_nameAt_15 u (nI e) z (nI p) (nI n) = some (nI (if scn (fun q => an (T q)) r (p + n) - p ≤ 8 then scn (fun q => an (T q)) r (p + n) - p else 0)) := by
  have F : ∀ n, n ≤ 3000 → (if nI n ≤ (8 : Int32) then some (nI n) else some (0 : Int32)) = some (nI (if p + n - p ≤ 8 then p + n - p else 0)) := by
    intro n hn
    rw [ic (nIm_8 (by omega)), Nat.add_sub_cancel_left]
    by_cases h : n ≤ 8
    · rw [if_pos h, if_pos h]
    · rw [if_neg h, if_neg h]; rfl
  intro r
  induction r with
  | zero =>
    intro n u h1 h2
    obtain ⟨u, rfl⟩ : ∃ m, u = m + 1 := ⟨u - 1, by omega⟩
    have e1 : hc T e (p + n) = 0 := if_neg (by omega)
    rw [b_MD_nameAt_15, nI_add, m_byte hT hz he (by omega), Option.bind_some, m_smH hT, Option.bind_some, Option.bind_some, m_dgH hT, Option.bind_some, e1, if_pos (by decide), if_pos (by decide)]
    exact F n (by omega)
  | succ r ih =>
    intro n u h1 h2
    obtain ⟨u, rfl⟩ : ∃ m, u = m + 1 := ⟨u - 1, by omega⟩
    have es : scn (fun q => an (T q)) (r + 1) (p + n) = if an (T (p + n)) = true then scn (fun q => an (T q)) r (p + n + 1) else p + n := rfl
    have e1 : hc T e (p + n) = T (p + n) := if_pos (by omega)
    have hi := ih (n + 1) u (by omega) (by omega)
    rw [b_MD_nameAt_15, nI_add, m_byte hT hz he (by omega), Option.bind_some, m_smH hT, Option.bind_some, Option.bind_some, m_dgH hT, Option.bind_some, e1, nI_1]
    cases hs : sml (T (p + n)) with
    | true =>
      have ha : an (T (p + n)) = true := by unfold an; rw [hs]; rfl
      rw [ha, if_pos rfl] at es
      rw [es, if_neg bi_t]
      exact hi
    | false =>
      cases hd : dgt (T (p + n)) with
      | true =>
        have ha : an (T (p + n)) = true := by unfold an; rw [hs, hd]; rfl
        rw [ha, if_pos rfl] at es
        rw [es, if_pos bi_f, if_neg bi_t]
        exact hi
      | false =>
        have ha : an (T (p + n)) = false := by unfold an; rw [hs, hd]; rfl
        rw [ha, if_neg (show ¬ false = true by decide)] at es
        rw [es, if_pos bi_f, if_pos bi_f]
        exact F n (by omega)
theorem na_lim (hE : lnE T e E) (hp : p ≤ E) : na T e p = na T E p := scn_lim hp hE.1 (by
  rcases hE.2 with q | q | q
  · exact Or.inl q
  · exact Or.inr (by show an (T E) = false; rw [q]; rfl)
  · exact Or.inr (by show an (T E) = false; rw [q]; rfl))
theorem m_nameAt (hT : ∀ i, T i < 256) (hz : tp z T) (he : e ≤ 3000) (hE : lnE T e E) (hp : p ≤ E) : f_MD_nameAt (nI e) z (nI p) = some (nI (if sml (hc T E p) = true then (if na T E p - p ≤ 8 then na T E p - p else 0) else 0)) := by
  have hl := hE.1
  have hb := hcb_lim (T := T) (f := sml) hE hp (by decide)
  unfold f_MD_nameAt
  rw [m_byte hT hz he (by omega), Option.bind_some, m_smH hT, Option.bind_some, hb]
  cases hs : sml (hc T E p) with
  | false => rw [if_pos bi_f, if_neg (show ¬ false = true by decide)]; rfl
  | true =>
    have hlt := (sml_an hs).1
    have e1 : hc T E p = T p := if_pos hlt
    rw [e1] at hs
    rw [if_neg bi_t, if_pos (show true = true from rfl)]
    have h := m_na (z := z) (T := T) (p := p) hT hz he (e - p - 1) 1 65536 (by omega) (by omega)
    have es : na T e p = scn (fun q => an (T q)) (e - p - 1) (p + 1) := by
      unfold na
      obtain ⟨k, hk⟩ : ∃ k, e - p = k + 1 := ⟨e - p - 1, by omega⟩
      rw [hk]
      have e2 : scn (fun q => an (T q)) (k + 1) p = if an (T p) = true then scn (fun q => an (T q)) k (p + 1) else p := rfl
      rw [e2, if_pos (by unfold an; rw [hs]; rfl)]
      rfl
    rw [← es, na_lim hE hp, show nI 1 = (1 : Int32) from rfl] at h
    exact h
/-- a number or a label -/
theorem m_val0 {x : Int32} (hT : ∀ i, T i < 256) (hz : tp z T) (he : e ≤ 3000) (hp : p ≤ e) : ∃ q, q ≤ e ∧ f_MD_value (nI p) (nI e) 0 vf z x = some (nI q, 0, 0, vf, 0) := by
  have hk := sk_le (T := T) hp
  unfold f_MD_value
  rw [m_gap0 hT hz he hp, Option.bind_some]
  exact ⟨sk T e p, hk.2, if_pos rfl⟩
theorem m_val {pl : Bool} (hT : ∀ i, T i < 256) (hz : tp z T) (he : e ≤ 3000) (hE : lnE T e E) (hp : p ≤ E) : (p_val T E p pl = none ∧ ∃ q y1 y2 y3, q ≤ e ∧ f_MD_value (nI p) (nI e) 1 vf z (bi pl) = some (nI q, 0, y1, y2, y3)) ∨ (∃ v wf ws q y, p_val T E p pl = some (v, wf, ws, q) ∧ v < 65536 ∧ p ≤ q ∧ q ≤ E ∧ (0 < ws → y = nI wf) ∧ f_MD_value (nI p) (nI e) 1 vf z (bi pl) = some (nI q, 1, nI v, y, nI ws)) := by
  have hk := sk_le (T := T) hp
  have hl := hE.1
  have l0 : nI 0 = (0 : Int32) := rfl
  unfold f_MD_value p_val
  rw [m_gap1 hT hz he hE hp, Option.bind_some]
  by_cases h1 : hc T E p = 32
  · rw [decide_eq_true h1, if_pos h1]
    dsimp only
    rw [if_neg bi_t, show bi true = (1 : Int32) from rfl]
    have NUM : ((p_num T E (sk T E p)).bind (fun x => some (x.1, 0, 0, x.2)) = none ∧ ∃ q y1 y2 y3, q ≤ e ∧ ((f_MD_number (nI (sk T E p)) (nI e) 1 z).bind fun x => match x with | (r_8, zat_8, zgood_8) => some (zat_8, zgood_8, r_8, vf, (0 : Int32))) = some (nI q, 0, y1, y2, y3)) ∨ (∃ v wf ws q y, (p_num T E (sk T E p)).bind (fun x => some (x.1, 0, 0, x.2)) = some (v, wf, ws, q) ∧ v < 65536 ∧ p ≤ q ∧ q ≤ E ∧ (0 < ws → y = nI wf) ∧ ((f_MD_number (nI (sk T E p)) (nI e) 1 z).bind fun x => match x with | (r_8, zat_8, zgood_8) => some (zat_8, zgood_8, r_8, vf, (0 : Int32))) = some (nI q, 1, nI v, y, nI ws)) := by
      rcases m_num (z := z) hT hz he hE hk.2 with ⟨a1, x, q, a2, a3⟩ | ⟨v, q, a1, a2, a3, a4, a5⟩
      · left
        rw [a1, a3]
        exact ⟨rfl, q, _, _, _, a2, rfl⟩
      · right
        rw [a1, a5]
        exact ⟨v, 0, 0, q, vf, rfl, a2, by omega, a4, fun y => by omega, rfl⟩
    cases pl with
    | true =>
      rw [if_pos (show true = true ∨ sml (hc T E (sk T E p)) = false from Or.inl rfl), if_neg bi_t]
      exact NUM
    | false =>
      rw [if_pos bi_f, m_byte hT hz he (by omega), Option.bind_some, m_dgH hT, Option.bind_some, hcb_lim (T := T) (f := dgt) hE hk.2 (by decide)]
      cases hd : dgt (hc T E (sk T E p)) with
      | true =>
        have hs : sml (hc T E (sk T E p)) = false := by
          have := of_decide_eq_true hd
          exact decide_eq_false (by omega)
        rw [hs, if_pos (show false = true ∨ false = false from Or.inr rfl), if_neg bi_t]
        exact NUM
      | false =>
        rw [if_pos bi_f, m_nameAt hT hz he hE hk.2, Option.bind_some]
        cases hs : sml (hc T E (sk T E p)) with
        | false =>
          left
          have en : p_num T E (sk T E p) = none := by
            unfold p_num
            rw [if_pos]
            left
            unfold dgs
            by_cases y : sk T E p < E
            · have e1 : hc T E (sk T E p) = T (sk T E p) := if_pos y
              rw [e1] at hd
              exact scn_eq (Nat.le_refl _) (by omega) (fun i h5 h6 => by omega) (fun _ => hd)
            · rw [show E - sk T E p = 0 by omega]; rfl
          rw [en, if_pos (show false = true ∨ false = false from Or.inr rfl), if_neg (show ¬ false = true by decide), if_pos (show nI 0 ≤ (0 : Int32) by decide)]
          unfold b_MD_value_85
          rw [if_pos rfl, nI_add]
          exact ⟨rfl, sk T E p + 0, _, _, _, by omega, rfl⟩
        | true =>
          obtain ⟨k1, k2⟩ := sml_an hs
          have k3 := na_le (T := T) (E := E) (p := sk T E p) hk.2
          rw [if_neg (show ¬ (false = true ∨ true = false) by decide), if_pos (show true = true from rfl)]
          by_cases h4 : na T E (sk T E p) - sk T E p ≤ 8
          · rw [if_pos h4, if_pos h4, if_neg (show ¬ nI (na T E (sk T E p) - sk T E p) ≤ (0 : Int32) from fun y => by have := (nIm_0 (by omega)).mp y; omega)]
            unfold b_MD_value_85
            rw [if_neg (show ¬ (1 : Int32) = 0 by decide), nI_add, show sk T E p + (na T E (sk T E p) - sk T E p) = na T E (sk T E p) by omega, m_byte hT hz he (by omega), Option.bind_some, ic (hr_43 hT), ic (hc_lim hE k3.2 (by omega))]
            by_cases h5 : hc T E (na T E (sk T E p)) = 43
            · have hlt := hc_p h5 (by omega)
              rw [if_pos h5, if_pos h5, nI_1]
              rcases m_num (z := z) (p := na T E (sk T E p) + 1) hT hz he hE (by omega) with ⟨a1, x, q, a2, a3⟩ | ⟨v, q, a1, a2, a3, a4, a5⟩
              · left
                rw [a1, a3]
                exact ⟨rfl, q, _, _, _, a2, rfl⟩
              · right
                rw [a1, a5]
                exact ⟨v, _, _, q, _, rfl, a2, by omega, a4, fun _ => rfl, rfl⟩
            · rw [if_neg h5, if_neg h5]
              right
              exact ⟨0, _, _, na T E (sk T E p), _, rfl, by omega, by omega, k3.2, fun _ => rfl, rfl⟩
          · rw [if_neg h4, if_neg h4, if_pos (show nI 0 ≤ (0 : Int32) by decide)]
            unfold b_MD_value_85
            rw [if_pos rfl, nI_add]
            left
            exact ⟨rfl, sk T E p + 0, _, _, _, by omega, rfl⟩
  · rw [decide_eq_false h1, if_neg h1]
    dsimp only
    rw [if_pos bi_f]
    left
    exact ⟨rfl, sk T E p, _, _, _, by omega, rfl⟩
end ASD
