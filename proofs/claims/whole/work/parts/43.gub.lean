/-! THE CLASS'S GUEST: begin -/
section GUB
variable {S Sg d : Nat} {ktyp : Nat → Int32}
theorem nI_mulL (a b : Nat) : nI a * nI b = nI (a * b) := (Int32.ofNat_mul a b).symm
def zz (i n : Nat) (f : Nat → Nat) : Nat → Nat := fun j => if i ≤ j ∧ j < n then 0 else f j
theorem zz_end (n : Nat) (f : Nat → Nat) : zz n n f = f := by
  funext j
  unfold zz
  rw [if_neg (by omega)]
theorem zz_next {i n : Nat} (h : i < n) (f : Nat → Nat) : zz (i + 1) n (mu f i 0) = zz i n f := by
  funext j
  unfold zz mu
  repeat' split
  all_goals first | rfl | omega
theorem q_fill0 {n : Nat} (hn : n < 65536) : ∀ (k i u : Nat) (f : Nat → Nat), i + k = n → k < u → b_JA_fill_5 u n (nf f) 0 (nI i) (nI n) = some (nf (zz i n f)) := by
  intro k
  induction k with
  | zero =>
    intro i u f h1 h2
    obtain ⟨u, rfl⟩ : ∃ m, u = m + 1 := ⟨u - 1, by omega⟩
    have e : i = n := by omega
    subst e
    rw [b_JA_fill_5, if_pos (show nI i ≤ nI i from (nI_leI (by omega) (by omega)).mpr (Nat.le_refl _)), zz_end]
  | succ k ih =>
    intro i u f h1 h2
    obtain ⟨u, rfl⟩ : ∃ m, u = m + 1 := ⟨u - 1, by omega⟩
    rw [b_JA_fill_5, if_neg (show ¬ nI n ≤ nI i from fun z => by have := (nI_leI (by omega) (by omega)).mp z; omega), if_pos ((ck_nI (by omega)).mpr (by omega)), nI_clamp (by omega), nI_1, show (0 : Int32) = nI 0 from rfl, upd_nf]
    have := ih (i + 1) u (mu f i 0) (by omega) (by omega)
    rw [zz_next (by omega)] at this
    exact this
theorem q_fill {n : Nat} (hn : n < 65535) (f : Nat → Nat) : f_JA_fill n (nf f) 0 = some (nf (zz 0 n f)) := q_fill0 (by omega) n 0 65536 f (by omega) (by omega)
theorem cpy_end (f g : Nat → Nat) (s t : Nat) : va_cpy f g s t 0 = g := by
  funext j
  unfold va_cpy
  rw [if_neg (by omega)]
theorem cpy_next (f g : Nat → Nat) (s t k : Nat) : va_cpy f (mu g t (f s)) (s + 1) (t + 1) k = va_cpy f g s t (k + 1) := by
  funext j
  unfold va_cpy mu
  by_cases h : j = t
  · subst h
    rw [if_neg (by omega), if_pos rfl, if_pos (by omega), show s + (j - j) = s by omega]
  · by_cases h2 : t + 1 ≤ j ∧ j < t + 1 + k
    · rw [if_pos h2, if_pos (by omega), show s + 1 + (j - (t + 1)) = s + (j - t) by omega]
    · rw [if_neg h2, if_neg h, if_neg (by omega)]
theorem q_cp {len st : Nat} (hS : S ≤ 1844) (hl : len ≤ 1024) (hst : st + len ≤ S) {uf : Nat → Nat} : ∀ (k i u : Nat) (mm : Nat → Nat), i + k = len → k < u → b_MA_copyIn_3 u 1024 (nI S) (nf mm) (nf uf) (nI len) (nI st) (nI i) = some (nf (va_cpy uf mm i (st + i) k)) := by
  intro k
  induction k with
  | zero =>
    intro i u f h1 h2
    obtain ⟨u, rfl⟩ : ∃ m, u = m + 1 := ⟨u - 1, by omega⟩
    rw [b_MA_copyIn_3, if_pos (show nI len ≤ nI i from (nI_leI (by omega) (by omega)).mpr (by omega)), cpy_end]
  | succ k ih =>
    intro i u f h1 h2
    obtain ⟨u, rfl⟩ : ∃ m, u = m + 1 := ⟨u - 1, by omega⟩
    rw [b_MA_copyIn_3, if_neg (show ¬ nI len ≤ nI i from fun z => by have := (nI_leI (by omega) (by omega)).mp z; omega), if_neg (show ¬ Int32.ofNat 1024 ≤ nI i from fun z => by have := (nIn_1024 (by omega)).mp z; omega), nI_add, if_neg (show ¬ nI S ≤ nI (st + i) from fun z => by have := (nI_leI (by omega) (by omega)).mp z; omega), if_pos ((ck_nI (by omega)).mpr (by omega)), if_pos ((ck_nI (by omega)).mpr (by omega)), nI_clamp (by omega), nI_clamp (by omega), nf_at, upd_nf, nI_1]
    have := ih (i + 1) u (mu f (st + i) (uf i)) (by omega) (by omega)
    rw [show st + (i + 1) = st + i + 1 by omega, cpy_next] at this
    exact this
theorem q_cps {st : Nat} (hS : S ≤ 1844) (hst : st + 410 ≤ S) {uf : Nat → Nat} : ∀ (k i u : Nat) (mm : Nat → Nat), i + k = 410 → k < u → b_MA_copyIns_3 u (nf uf) (nI S) (nf mm) 410 (nI st) (nI i) = some (nf (va_cpy uf mm i (st + i) k)) := by
  intro k
  induction k with
  | zero =>
    intro i u f h1 h2
    obtain ⟨u, rfl⟩ : ∃ m, u = m + 1 := ⟨u - 1, by omega⟩
    rw [b_MA_copyIns_3, if_pos (show (410 : Int32) ≤ nI i from (nIn_410 (by omega)).mpr (by omega)), cpy_end]
  | succ k ih =>
    intro i u f h1 h2
    obtain ⟨u, rfl⟩ : ∃ m, u = m + 1 := ⟨u - 1, by omega⟩
    have e : ¬ (410 : Int32) ≤ nI i := fun z => by have := (nIn_410 (by omega)).mp z; omega
    rw [b_MA_copyIns_3, if_neg e, if_neg e, nI_add, if_neg (show ¬ nI S ≤ nI (st + i) from fun z => by have := (nI_leI (by omega) (by omega)).mp z; omega), if_pos ((ck_nI (by omega)).mpr (by omega)), if_pos ((ck_nI (by omega)).mpr (by omega)), nI_clamp (by omega), nI_clamp (by omega), nf_at, upd_nf, nI_1]
    have := ih (i + 1) u (mu f (st + i) (uf i)) (by omega) (by omega)
    rw [show st + (i + 1) = st + i + 1 by omega, cpy_next] at this
    exact this
def mWf : Nat → Nat := fun j => mW.getD j 0
theorem mWf_lt (j : Nat) : mWf j < 65536 := by
  have h : ∀ x ∈ mW, x < 65536 := by decide +kernel
  unfold mWf
  by_cases hj : j < mW.length
  · rw [List.getD_eq_getElem?_getD, List.getElem?_eq_getElem hj]
    exact h _ (List.getElem_mem hj)
  · rw [List.getD_eq_getElem?_getD, List.getElem?_eq_none (by omega)]
    decide
/-- the monitors' words below the guest's memory -/
def tow (f : Nat → Nat) : Nat → Nat → Nat
  | 0 => f
  | l + 1 => va_cpy mWf (tow f l) 0 (l * 410) 410
theorem tow_lt {f : Nat → Nat} (h : ∀ i, f i < 65536) : ∀ l i, tow f l i < 65536 := by
  intro l
  induction l with
  | zero => exact h
  | succ l ih => exact cpy_lt mWf_lt ih
theorem tow_in {f : Nat → Nat} {l k a : Nat} (hl : l < k) (ha : a < 410) : tow f k (l * 410 + a) = mW.getD a 0 := by
  induction k with
  | zero => omega
  | succ k ih =>
    unfold tow va_cpy
    by_cases h : l = k
    · subst h
      rw [if_pos (by omega), show 0 + (l * 410 + a - l * 410) = a by omega]
      rfl
    · rw [if_neg (by omega)]
      exact ih (by omega)
theorem tow_up {f : Nat → Nat} {k a : Nat} (ha : k * 410 ≤ a) : tow f k a = f a := by
  induction k with
  | zero => rfl
  | succ k ih =>
    unfold tow va_cpy
    have h2 : k * 410 + 410 ≤ a := by rw [Nat.add_mul] at ha; omega
    rw [if_neg (by omega)]
    exact ih (Nat.le_trans (Nat.le_add_right _ 410) h2)
/-- the machine that begins, on its way to the guest's first turn -/
theorem g_boot {m g dk : Nat → Nat} {cs : mc_K} (hd : d ≤ 2) (hS : S = Sg + d * 410) (h1 : 64 ≤ Sg) (h2 : Sg ≤ 1024) (hm : ∀ l a, l < d → a < 410 → m (l * 410 + a) = mW.getD a 0) (hw : ∀ i, m i < 65536) (hg : ∀ i, g i < 65536) (hk : ∀ i, dk i < 65536) (hc : ∀ b ∈ cs.1, b < 256) (hg0 : g 0 = 0) (hg1 : g 1 = 0) : AW S d (fun R => grel d S Sg R (0, 16, 0, Sg, 0, false, false, g, (fun i => m (d * 410 + i)), dk, cs)) 2000 (0, 16, 0, S, 0, false, false, g, m, dk, cs) := by
  have wR : wfs S (0, 16, 0, S, 0, false, false, g, m, dk, cs) := ⟨⟨by omega, by omega, by omega, by omega, by omega, by omega, hg, hw, hk⟩, fun q => (by cases q), hc⟩
  have wG : wfs Sg (0, 16, 0, Sg, 0, false, false, g, (fun i => m (d * 410 + i)), dk, cs) := ⟨⟨by omega, by omega, by omega, by omega, by omega, by omega, hg, fun i => hw _, hk⟩, fun q => (by cases q), hc⟩
  have e : d = 0 ∨ d = 1 ∨ d = 2 := by omega
  rcases e with rfl | rfl | rfl
  · have eS : S = Sg := by omega
    subst eS
    refine ⟨0, by omega, wR, wG, h1, h2, Or.inl ⟨rfl, rfl, ?_⟩⟩
    have : (fun i => m (0 * 410 + i)) = m := by funext i; rw [Nat.zero_mul, Nat.zero_add]
    rw [this]
  · have q := (boot (S := S) (Sg := Sg) (m := m) (mm := fun i => m (1 * 410 + i)) (dk := dk) (cs := cs) (by omega) (by omega) (by omega) (fun a ha => by have := hm 0 a (by omega) ha; rw [Nat.zero_mul, Nat.zero_add] at this; exact this) (fun i hi => by simp) hg0 hg1).aw (d := 1) (by omega)
    refine AW.imp ?_ ((q.wf wR).mono (by omega))
    intro R hR
    exact ⟨hR.1, wG, h1, h2, Or.inr (Or.inl ⟨rfl, by omega, Or.inl hR.2⟩)⟩
  · have eS : S = Sg + 820 := by omega
    subst eS
    have wL : wfs (Sg + 410) (0, 16, 0, Sg + 410, 0, false, false, g, (fun i => m (410 + i)), dk, cs) := ⟨⟨by omega, by omega, by omega, by omega, by omega, by omega, hg, fun i => hw _, hk⟩, fun q => (by cases q), hc⟩
    have q := (boot (S := Sg + 820) (Sg := Sg + 410) (m := m) (mm := fun i => m (410 + i)) (dk := dk) (cs := cs) (by omega) (by omega) (by omega) (fun a ha => by have := hm 0 a (by omega) ha; rw [Nat.zero_mul, Nat.zero_add] at this; exact this) (fun i hi => rfl) hg0 hg1).aw (d := 2) (by omega)
    have p := boot (S := Sg + 410) (Sg := Sg) (m := fun i => m (410 + i)) (mm := fun i => m (2 * 410 + i)) (dk := dk) (cs := cs) (by omega) (by omega) (by omega) (fun a ha => by have := hm 1 a (by omega) ha; rw [Nat.one_mul] at this; exact this) (fun i hi => by show m (410 + (410 + i)) = m (2 * 410 + i); congr 1; omega) hg0 hg1
    obtain ⟨j, hj, p⟩ := p
    have q2 := AW.seq (fun R' hx' => lift2 (S := Sg + 820) (by omega) (by omega) rfl _ _ _ R' p wL (Or.inl hx')) q
    refine AW.imp ?_ ((q2.wf wR).mono (by omega))
    intro R' hR
    obtain ⟨hw', L', hl1, hl2, hl3⟩ := hR
    exact ⟨hw', wG, h1, h2, Or.inr (Or.inr ⟨rfl, rfl, L', hl1, Or.inl hl3, hl2⟩)⟩
theorem zz_lt {i n : Nat} {f : Nat → Nat} (h : ∀ i, f i < 65536) : ∀ j, zz i n f j < 65536 := by
  intro j
  unfold zz
  split
  · omega
  · exact h j
theorem rr_self : rr S 0 S = nI S := by
  unfold rr
  rw [if_pos (by omega)]
  exact Int32.sub_zero _
/-- BEGIN -/
theorem q_begin {mm rg dk sb uf : Nat → Nat} {len : Nat} (hd : d ≤ 2) (hS : S = Sg + d * 410) (h1 : 64 ≤ Sg) (h2 : Sg ≤ 1024) (hl : len ≤ Sg) (hm : ∀ i, mm i < 65536) (hr : ∀ i, rg i < 65536) (hk : ∀ i, dk i < 65536) (hu : ∀ i, uf i < 65536) : ∃ (R : mc_S) (kold kwai ksnt : Int32) (ksen : Nat → Int32) (rg' mm' dk' : Nat → Nat), f_GU_begin (nf mWf) (nf mm) (nf rg) (nf dk) ktyp (nf sb) (nf uf) (nI len) (nI Sg) (nI d) = some (nI Sg, nI d, nI (d * 410), 0, nI S, cvG S R kold kwai ksnt ksen) ∧ grel d S Sg R (0, 16, 0, Sg, 0, false, false, rg', mm', dk', ([], sb, 0)) ∧ KR kold kwai ksnt ktyp ksen (s_cs R) ∧ (∀ j, j < 8 → rg' j = 0) ∧ (∀ j, j < 128 → dk' j = 0) ∧ ∀ j, j < Sg → mm' j = if j < len then uf j else 0 := by
  have hM0 : ∀ i, tow (zz 0 1844 mm) d i < 65536 := tow_lt (zz_lt hm) d
  have hM : ∀ i, va_cpy uf (tow (zz 0 1844 mm) d) 0 (d * 410) len i < 65536 := cpy_lt hu hM0
  have hb := g_boot (S := S) (Sg := Sg) (m := va_cpy uf (tow (zz 0 1844 mm) d) 0 (d * 410) len) (g := zz 0 8 rg) (dk := zz 0 128 dk) (cs := ([], sb, 0)) hd hS h1 h2 (fun l a hl' ha => by
    unfold va_cpy
    have : (l + 1) * 410 ≤ d * 410 := Nat.mul_le_mul_right _ hl'
    rw [if_neg (by omega)]
    exact tow_in hl' ha) hM (zz_lt hr) (zz_lt hk) (by simp) rfl rfl
  obtain ⟨j, hj, hb⟩ := hb
  have hK0 : KR 0 0 0 ktyp (nf sb) ([], sb, 0) := ⟨0, by omega, rfl, by simp, rfl, rfl, rfl, by simp, fun j hj => by simp at hj⟩
  have wR : wfs S (0, 16, 0, S, 0, false, false, zz 0 8 rg, va_cpy uf (tow (zz 0 1844 mm) d) 0 (d * 410) len, zz 0 128 dk, ([], sb, 0)) := ⟨⟨by omega, by omega, by omega, by omega, by omega, by omega, zz_lt hr, hM, zz_lt hk⟩, fun q => (by cases q), by simp⟩
  obtain ⟨R, kold, kwai, ksnt, ksen, a1, a2, a3, a4⟩ := q_aw (ktyp := ktyp) hd (fun s hs => (g_turn hs).1) j 65536 0 _ 0 0 0 (nf sb) hb wR hK0 (show 0 + j < 2 ^ 30 by omega) (by omega) (by omega)
  refine ⟨R, kold, kwai, ksnt, ksen, zz 0 8 rg, _, zz 0 128 dk, ?_, a2, a4, ?_, ?_, ?_⟩
  · have a1' : f_GU_awaitTurn (nI d) (nI S) 0 16 0 (nI S) (nI S) 0 0 0 (nf (va_cpy uf (tow (zz 0 1844 mm) d) 0 (d * 410) len)) (nf (zz 0 8 rg)) (nf (zz 0 128 dk)) 0 0 0 ktyp (nf sb) = some (cvG S R kold kwai ksnt ksen) := by
      have a0 : b_GU_awaitTurn_2 65536 (nI d) (nI S) (nI 0) (nI 16) (nI 0) (nI S) (rr S 0 S) (nI 0) (bi false) (bi false) (nf (va_cpy uf (tow (zz 0 1844 mm) d) 0 (d * 410) len)) (nf (zz 0 8 rg)) (nf (zz 0 128 dk)) 0 0 0 ktyp (nf sb) (nI 0) = some (cvG S R kold kwai ksnt ksen) := a1
      have n0 : nI 0 = (0 : Int32) := rfl
      have n16 : nI 16 = (16 : Int32) := rfl
      have bf : bi false = (0 : Int32) := rfl
      rw [n0, n16, bf, rr_self] at a0
      unfold f_GU_awaitTurn
      exact a0
    have eA : nI d * 410 = nI (d * 410) := nI_mulL d 410
    have eS : nI d * 410 + nI Sg = nI S := by rw [eA, nI_add, hS, Nat.add_comm]
    have hlast : ∀ u, b_GU_begin_42 (u + 1) (nf mWf) (nI Sg) (nI d) (nI (d * 410)) 0 (nI S) 0 16 0 (nI S) (nI S) 0 0 0 (nf (tow (zz 0 1844 mm) d)) (nf (zz 0 8 rg)) (nf (zz 0 128 dk)) 0 0 0 ktyp (nf sb) (nf uf) (nI len) (nI d) (nI d) = some (nI Sg, nI d, nI (d * 410), 0, nI S, cvG S R kold kwai ksnt ksen) := by
      intro u
      rw [b_GU_begin_42, if_pos (show nI d ≤ nI d from (nI_leI (by omega) (by omega)).mpr (Nat.le_refl _))]
      have c1 : f_MA_copyIn 1024 (nI S) (nf (tow (zz 0 1844 mm) d)) (nf uf) (nI len) (nI (d * 410)) = some (nf (va_cpy uf (tow (zz 0 1844 mm) d) 0 (d * 410) len)) := by
        have q := q_cp (S := S) (uf := uf) (len := len) (st := d * 410) (by omega) (by omega) (by omega) len 0 65536 (tow (zz 0 1844 mm) d) (by omega) (by omega)
        rw [Nat.add_zero, show nI 0 = (0 : Int32) from rfl] at q
        unfold f_MA_copyIn
        exact q
      rw [c1, Option.bind_some, a1', Option.bind_some]
    have hnext : ∀ u l, l < d → b_GU_begin_42 (u + 1) (nf mWf) (nI Sg) (nI d) (nI (d * 410)) 0 (nI S) 0 16 0 (nI S) (nI S) 0 0 0 (nf (tow (zz 0 1844 mm) l)) (nf (zz 0 8 rg)) (nf (zz 0 128 dk)) 0 0 0 ktyp (nf sb) (nf uf) (nI len) (nI d) (nI l) = b_GU_begin_42 u (nf mWf) (nI Sg) (nI d) (nI (d * 410)) 0 (nI S) 0 16 0 (nI S) (nI S) 0 0 0 (nf (tow (zz 0 1844 mm) (l + 1))) (nf (zz 0 8 rg)) (nf (zz 0 128 dk)) 0 0 0 ktyp (nf sb) (nf uf) (nI len) (nI d) (nI (l + 1)) := by
      intro u l hl'
      rw [b_GU_begin_42, if_neg (show ¬ nI d ≤ nI l from fun z => by have := (nI_leI (by omega) (by omega)).mp z; omega)]
      have e410 : nI l * 410 = nI (l * 410) := nI_mulL l 410
      have c1 : f_MA_copyIns (nf mWf) (nI S) (nf (tow (zz 0 1844 mm) l)) 410 (nI (l * 410)) = some (nf (tow (zz 0 1844 mm) (l + 1))) := by
        have : (l + 1) * 410 ≤ d * 410 := Nat.mul_le_mul_right _ hl'
        have q := q_cps (S := S) (uf := mWf) (st := l * 410) (by omega) (by omega) 410 0 65536 (tow (zz 0 1844 mm) l) (by omega) (by omega)
        rw [Nat.add_zero, show nI 0 = (0 : Int32) from rfl] at q
        unfold f_MA_copyIns
        exact q
      rw [e410, c1, Option.bind_some, nI_1]
    have hall : b_GU_begin_42 65536 (nf mWf) (nI Sg) (nI d) (nI (d * 410)) 0 (nI S) 0 16 0 (nI S) (nI S) 0 0 0 (nf (tow (zz 0 1844 mm) 0)) (nf (zz 0 8 rg)) (nf (zz 0 128 dk)) 0 0 0 ktyp (nf sb) (nf uf) (nI len) (nI d) (nI 0) = some (nI Sg, nI d, nI (d * 410), 0, nI S, cvG S R kold kwai ksnt ksen) := by
      have e : d = 0 ∨ d = 1 ∨ d = 2 := by omega
      rcases e with rfl | rfl | rfl
      · exact hlast 65535
      · rw [hnext 65535 0 (by omega)]
        exact hlast 65534
      · rw [hnext 65535 0 (by omega), hnext 65534 1 (by omega)]
        exact hlast 65533
    unfold f_GU_begin
    have ecl : f_MA_clear (nf mm) (nf rg) (nf dk) (nI S) = some (nI S, 0, 16, 0, nI S, nI S, 0, 0, 0, nf (zz 0 1844 mm), nf (zz 0 8 rg), nf (zz 0 128 dk), 0, 0, 0) := by
      unfold f_MA_clear f_CO_clear
      rw [q_fill (by omega), q_fill (by omega), q_fill (by omega)]
      rfl
    rw [show tow (zz 0 1844 mm) 0 = zz 0 1844 mm from rfl, show nI 0 = (0 : Int32) from rfl] at hall
    rw [eS, ecl, eA, Option.bind_some]
    exact hall
  · intro j hj; unfold zz; rw [if_pos (by omega)]
  · intro j hj; unfold zz; rw [if_pos (by omega)]
  · intro j hj
    show va_cpy uf (tow (zz 0 1844 mm) d) 0 (d * 410) len (d * 410 + j) = _
    unfold va_cpy
    by_cases h : j < len
    · rw [if_pos (by omega), if_pos h]
      congr 1; omega
    · rw [if_neg (by omega), if_neg h, tow_up (by omega)]
      unfold zz
      rw [if_pos (by omega)]
end GUB
