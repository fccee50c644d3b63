/-! THE LAW: the world of the class and of the Model, and what ties them -/
section LWC
def wGT (E : jz_E) (ga : Nat → Nat) (tl : Nat) (T : Nat → Nat) (hlf hll : Int32) (hgs : Nat → Option Nat) (W : Nat → Nat) (shr sft sfl slc suc : Int32) (slb : Nat → Int64) (sla : Nat → Int32) (sul : Nat → Int64) (sua suL : Nat → Int32) (l9 : Nat) (lat len : Int32) (llb : Int64) (lor laa lbb lnu : Int32) (lwa : Int64) : va_W := [(ga 0, .inr (5, [.ref (ga 10), .int (nI tl), .ref (ga 2), .ref (ga 1), .int hlf, .int hll])), (ga 1, .inl (E.2.1 4, 3, .inr (.inr (.inr (.inr hgs))))), (ga 2, .inr (4, [.ref (ga 3), .int shr, .int sft, .int sfl, .ref (ga 9), .ref (ga 4), .ref (ga 5), .int slc, .ref (ga 6), .ref (ga 7), .ref (ga 8), .int suc])), (ga 3, .inl (E.2.1 0, 1024, .inl (nf W))), (ga 4, .inl (E.2.1 1, 100, .inr (.inl slb))), (ga 5, .inl (E.2.1 0, 100, .inl sla)), (ga 6, .inl (E.2.1 1, 1024, .inr (.inl sul))), (ga 7, .inl (E.2.1 0, 1024, .inl sua)), (ga 8, .inl (E.2.1 0, 1024, .inl suL)), (ga 9, .inr (3, [.ref l9, .int lat, .int len, .long llb, .int lor, .int laa, .int lbb, .int lnu, .long lwa])), (ga 10, .inl (E.2.1 0, 3000, .inl (nf T)))]
def wMD (E : jz_E) (na : Nat → Nat) (zs : Nat → Int32) (za : Nat → Nat → Int32) : va_W := [(na 0, .inr (6, [.ref (na 1), .int (zs 0), .ref (na 2), .ref (na 3), .ref (na 4), .ref (na 5), .ref (na 6), .ref (na 7), .ref (na 8), .ref (na 9), .ref (na 10), .ref (na 11), .ref (na 12), .ref (na 13), .ref (na 14), .ref (na 15), .ref (na 16), .ref (na 17), .ref (na 18), .ref (na 19), .ref (na 20), .int (zs 1), .int (zs 2), .int (zs 3), .ref (na 21), .ref (na 22), .ref (na 23), .int (zs 4), .int (zs 5), .int (zs 6), .int (zs 7), .int (zs 8), .ref (na 24), .int (zs 9), .int (zs 10), .int (zs 11), .int (zs 12), .int (zs 13), .int (zs 14)])), (na 1, .inl (E.2.1 2, 3000, .inl (za 1))), (na 2, .inl (E.2.1 3, 3, .inl (za 2))), (na 3, .inl (E.2.1 0, 3, .inl (za 3))), (na 4, .inl (E.2.1 0, 3, .inl (za 4))), (na 5, .inl (E.2.1 0, 3072, .inl (za 5))), (na 6, .inl (E.2.1 0, 24, .inl (za 6))), (na 7, .inl (E.2.1 0, 3, .inl (za 7))), (na 8, .inl (E.2.1 0, 3, .inl (za 8))), (na 9, .inl (E.2.1 0, 3, .inl (za 9))), (na 10, .inl (E.2.1 0, 3, .inl (za 10))), (na 11, .inl (E.2.1 0, 3, .inl (za 11))), (na 12, .inl (E.2.1 3, 3, .inl (za 12))), (na 13, .inl (E.2.1 3, 3, .inl (za 13))), (na 14, .inl (E.2.1 0, 3, .inl (za 14))), (na 15, .inl (E.2.1 0, 3, .inl (za 15))), (na 16, .inl (E.2.1 0, 1500, .inl (za 16))), (na 17, .inl (E.2.1 0, 3, .inl (za 17))), (na 18, .inl (E.2.1 0, 300, .inl (za 18))), (na 19, .inl (E.2.1 0, 384, .inl (za 19))), (na 20, .inl (E.2.1 0, 25, .inl (za 20))), (na 21, .inl (E.2.1 0, 100, .inl (za 21))), (na 22, .inl (E.2.1 0, 100, .inl (za 22))), (na 23, .inl (E.2.1 0, 100, .inl (za 23))), (na 24, .inl (E.2.1 0, 1024, .inl (za 24)))]
/-- a guest's eight cells -/
def gcl (E : jz_E) (ad : Nat → Nat) (Sg d S st : Nat) (R : mc_S) (kold kwai ksnt : Int32) (ktyp ksen : Nat → Int32) : va_W := match R with
  | (md, pc, ba, bo, ti, ro, ha, rg, mm, dk, _) => [(ad 0, .inr (2, [.ref (ad 1), .int (nI Sg), .int (nI d), .int (nI (d * 410)), .int (nI st)])), (ad 1, .inr (0, [.ref (ad 2), .ref (ad 3), .ref (ad 4), .ref (ad 5), .int (nI S), .int (nI md), .int (nI pc), .int (nI ba), .int (nI bo), .int (rr S ba bo), .int (nI ti), .int (bi ro), .int (bi ha)])), (ad 2, .inl (E.2.1 0, 1844, .inl (nf mm))), (ad 3, .inl (E.2.1 0, 8, .inl (nf rg))), (ad 4, .inl (E.2.1 0, 128, .inl (nf dk))), (ad 5, .inr (1, [.ref (ad 6), .ref (ad 7), .int kold, .int kwai, .int ksnt])), (ad 6, .inl (E.2.1 0, 100, .inl ktyp)), (ad 7, .inl (E.2.1 0, 500, .inl ksen))]
def mB (za : Nat → Nat → Int32) : tB := (za 5, za 6, za 7, za 8, za 9, za 10, za 11, za 12, za 13, za 15, za 16, za 17, za 18, za 19)
/-- a guest that is there -/
def RelP (E : jz_E) (k g : Nat) (hgs : Nat → Option Nat) (za : Nat → Nat → Int32) (C : va_W) : Prop := ∃ (ad : Nat → Nat) (Sg d S st : Nat) (R G : mc_S) (kold kwai ksnt : Int32) (ktyp ksen : Nat → Int32), hgs g = some (ad 0) ∧ za 2 g = bi true ∧ C = gcl E ad Sg d S st R kold kwai ksnt ktyp ksen ∧ grel d S Sg R G ∧ KR kold kwai ksnt ktyp ksen (s_cs R) ∧ mR g Sg (mB za) G ∧ za 3 g = nI Sg ∧ za 4 g = nI d ∧ za 14 g = nI st ∧ (s_cs G).2.2 ≤ st ∧ st ≤ 5000 * k
def RelG (E : jz_E) (k g : Nat) (hgs : Nat → Option Nat) (za : Nat → Nat → Int32) (C : va_W) : Prop := (hgs g = none ∧ za 2 g = bi false ∧ C = []) ∨ RelP E k g hgs za C
def Rel (E : jz_E) (k tl : Nat) (T : Nat → Nat) (hlf hll : Int32) (hgs : Nat → Option Nat) (W : Nat → Nat) (zs : Nat → Int32) (za : Nat → Nat → Int32) (GC : Nat → va_W) : Prop := tl ≤ 3000 ∧ (∀ i, T i < 256) ∧ tp (za 1) T ∧ zs 0 = nI tl ∧ (hlf = -1 ∧ hll = -1 ∧ zs 7 = 0 ∨ zs 7 = 1 ∧ hlf = zs 5 ∧ hll = zs 6) ∧ (∀ i, W i < 65536) ∧ (∀ o, o < 25 → za 20 o = nI (wnt o)) ∧ ∀ g, g < 3 → RelG E k g hgs za (GC g)
theorem RelG_k {E : jz_E} {k g : Nat} {hgs : Nat → Option Nat} {za : Nat → Nat → Int32} {C : va_W} (h : RelG E k g hgs za C) : RelG E (k + 1) g hgs za C := by
  rcases h with h | ⟨ad, Sg, d, S, st, R, G, kold, kwai, ksnt, ktyp, ksen, h1, h2, h3, h4, h5, h6, h7, h8, h9, h10, h11⟩
  · exact Or.inl h
  · exact Or.inr ⟨ad, Sg, d, S, st, R, G, kold, kwai, ksnt, ktyp, ksen, h1, h2, h3, h4, h5, h6, h7, h8, h9, h10, by omega⟩
theorem Rel_k {E : jz_E} {k tl : Nat} {T : Nat → Nat} {hlf hll : Int32} {hgs : Nat → Option Nat} {W : Nat → Nat} {zs : Nat → Int32} {za : Nat → Nat → Int32} {GC : Nat → va_W} (h : Rel E k tl T hlf hll hgs W zs za GC) : Rel E (k + 1) tl T hlf hll hgs W zs za GC := by
  obtain ⟨h1, h2, h3, h4, h5, h6, h7, h8⟩ := h
  exact ⟨h1, h2, h3, h4, h5, h6, h7, fun g hg => RelG_k (h8 g hg)⟩
/-- which guest is meant -/
theorem Rel_g {E : jz_E} {k tl : Nat} {T : Nat → Nat} {hlf hll : Int32} {hgs : Nat → Option Nat} {W : Nat → Nat} {zs : Nat → Int32} {za : Nat → Nat → Int32} {GC : Nat → va_W} (h : Rel E k tl T hlf hll hgs W zs za GC) (p1 : Int32) : (f_GT_guestAt hgs p1 = some .null ∧ f_MD_isGuest (za 2) p1 = some 0) ∨ ∃ g, g < 3 ∧ p1 = nI g ∧ f_MD_isGuest (za 2) p1 = some 1 ∧ (∃ g0, hgs g = some g0 ∧ f_GT_guestAt hgs p1 = some (.ref g0)) ∧ RelP E k g hgs za (GC g) := by
  have out : ∀ (q : p1 < 0 ∨ 2 < p1), f_GT_guestAt hgs p1 = some .null ∧ f_MD_isGuest (za 2) p1 = some 0 := by
    intro q
    refine ⟨?_, m_no2 q⟩
    unfold f_GT_guestAt f_GT_isGuest
    by_cases h0 : p1 < 0
    · rw [if_pos h0, Option.bind_some, if_pos rfl]
    · obtain ⟨n, hn, rfl⟩ := (i32_c p1).resolve_left h0
      have h2 := (nIg_k (k := 2) (x := (2 : Int32)) (by decide) hn rfl).mp (q.resolve_left h0)
      rw [if_neg h0, if_pos ((nIn_3 hn).mpr (by omega)), Option.bind_some, if_pos rfl]
  by_cases h0 : p1 < 0
  · exact Or.inl (out (Or.inl h0))
  · obtain ⟨g, hn, rfl⟩ := (i32_c p1).resolve_left h0
    by_cases hg : g < 3
    · have eg : f_GT_guestAt hgs (nI g) = some (va_rf (hgs g)) := by
        unfold f_GT_guestAt f_GT_isGuest
        rw [if_neg h0, if_neg (fun q => by have := (nIn_3 hn).mp q; omega), Option.bind_some, if_neg (by decide), if_pos ((ck_nI hn).mpr hg), nI_clamp hn]
      rcases h.2.2.2.2.2.2.2 g hg with ⟨h1, h2, h3⟩ | hp
      · left
        exact ⟨by rw [eg, h1]; rfl, m_no hg h2⟩
      · right
        have hp' := hp
        obtain ⟨ad, Sg, d, S, st, R, G, kold, kwai, ksnt, ktyp, ksen, h1, h2, h3⟩ := hp
        exact ⟨g, hg, rfl, m_is hg h2, ⟨ad 0, h1, by rw [eg, h1]; rfl⟩, hp'⟩
    · exact Or.inl (out (Or.inr ((nIg_k (k := 2) (x := (2 : Int32)) (by decide) hn rfl).mpr (by omega))))
/-- what the law's walk stands on -/
def lwC (p : Program) (s : State) (m : MethodId) (meth : Method) (c : Code) (b L : Nat) (xs : Nat → Int32) (E : jz_E) (w8 w9 : Nat) : Prop := lw_At p s m meth c b L xs ∧ jE E s ∧ jz_ok E (fun q => s.heap.size ≤ q) s s.heap ∧ ("java/lang/String", "COMPACT_STRINGS", "Z", Value.int 1) ∈ E.2.2.1 ∧ (R_LI, "WANTS", "[I", Value.ref w8) ∈ E.2.2.1 ∧ (R_MO, "WORDS", "[I", Value.ref w9) ∈ E.2.2.1 ∧ (w8, 28, nf wnt) ∈ E.2.2.2.1 ∧ (w9, 410, nf mWf) ∈ E.2.2.2.1
theorem lwJ {p : Program} {s : State} {m : MethodId} {meth : Method} {c : Code} {b L : Nat} {xs : Nat → Int32} (C0 : lw_At p s m meth c b L xs) : JC p s m #[Value.ref b] meth c code 4 ret R_LW := by
  obtain ⟨hx, hb, hr, hml, hown, hts, hX, hbl, hlocks, hgv⟩ := C0
  exact ⟨hx, hb, hml, hr, hown, fun w h => hts w (List.mem_filter.mp h).1, hlocks⟩
def cnG (hgs : Nat → Option Nat) : Nat := (if hgs 0 = none then 0 else 1) + (if hgs 1 = none then 0 else 1) + (if hgs 2 = none then 0 else 1)
def cN (hgs : Nat → Option Nat) : Nat := 50 + 8 * cnG hgs
def sN (hgs : Nat → Option Nat) : Nat := 20000 + 2603 * cnG hgs
theorem cnG_3 {hgs : Nat → Option Nat} : cnG hgs ≤ 3 := by
  unfold cnG
  repeat' split
  all_goals omega
/-- an argument out of the script -/
theorem lw_arg {p : Program} {l : Launch} {e : Env} {s : State} {m : MethodId} {below : List Frame} {meth : Method} {c : Code} {b L i kk pc cells slots : Nat} {xs : Nat → Int32} {H : Heap} {locs : List Loc} {ls : Array Slot} {st : List Value} {v1 v2 : Value} {kz : Int} (C0 : lw_At p s m meth c b L xs) (hL : L ≤ 3072) (hi : i + 6 ≤ L) (hk : kk < 6) (hkz : Int32.ofInt kz = nI kk) (hS : va_S (fun q => s.heap.size ≤ q) s.heap H locs) (hl : lv_has ls 4 [(0, .ref b), (1, v1), (2, v2), (3, .int (nI i))]) (d1 : decode code pc = .ok (.aload_n 0, 1)) (d2 : decode code (pc + 1) = .ok (.iload_n 3, 1)) (d3 : decode code (pc + 2) = .ok (.iconst kz, 1)) (d4 : decode code (pc + 3) = .ok (.iadd, 1)) (d5 : decode code (pc + 4) = .ok (.iaload, 1)) (k : W p l e room_1 s m #[Value.ref b] below meth c H locs cells slots (lw_Z below #[Value.ref b] s) (F0 m (pc + 5) ls (.int (xs (i + kk)) :: st))) : W p l e room_1 s m #[Value.ref b] below meth c H locs cells slots (lw_Z below #[Value.ref b] s) (F0 m pc ls st) := by
  obtain ⟨hx, hb, hr, hml, hown, hts, hX, hbl, hlocks, hgv⟩ := C0
  have hbA : ¬ (fun q : Nat => s.heap.size ≤ q) b := Nat.not_le.mpr hbl
  refine lv_aload_n hx hb d1 rfl (lv_at hl 0 rfl) ?_
  refine lv_iload_n hx hb d2 rfl (lv_at hl 3 rfl) ?_
  refine lv_iconst (v := nI kk) hx hb d3 hkz ?_
  refine lv_iadd hx hb d4 ?_
  rw [nI_add]
  refine va_sld hx hb hX hbl hbA hS (vp_in_nI (by omega) (by omega)) d5 ?_
  rw [nI_clamp (by omega)]
  exact k
end LWC
