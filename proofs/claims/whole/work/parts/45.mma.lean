/-! THE MODEL'S MACHINE: its arrays hold three guests side by side -/
section MMA
def wn (n g m : Nat) (z : Nat → Int32) (f : Nat → Nat) : Prop := ∀ j, j < m → z (n * g + j) = nI (f j)
def fo (n g : Nat) (z z' : Nat → Int32) : Prop := ∀ i, i < n * g ∨ n * g + n ≤ i → z' i = z i
def fs (g : Nat) (z z' : Nat → Int32) : Prop := ∀ i, i ≠ g → z' i = z i
abbrev tB : Type := (Nat → Int32) × (Nat → Int32) × (Nat → Int32) × (Nat → Int32) × (Nat → Int32) × (Nat → Int32) × (Nat → Int32) × (Nat → Int32) × (Nat → Int32) × (Nat → Int32) × (Nat → Int32) × (Nat → Int32) × (Nat → Int32) × (Nat → Int32)
def cR (g : Nat) (zou zop zwa zty : Nat → Int32) (cs : mc_K) : Prop := zou g = nI cs.2.2 ∧ (∀ j, j < 500 → j < cs.2.2 → zop (500 * g + j) = nI (cs.2.1 j)) ∧ cs.1.length ≤ 100 ∧ zwa g = nI cs.1.length ∧ wn 100 g cs.1.length zty (fun j => cs.1.getD j 0)
/-- memory, registers, mode, pc, base, bound, timer, ran out, halted, bytes sent, output, bytes that wait, typed, disk -/
def mR (g Sg : Nat) (B : tB) (G : mc_S) : Prop := match B, G with
  | (zmem, zreg, zmd, zpc, zba, zbo, zti, zro, zha, zou, zop, zwa, zty, zdk), (md, pc, ba, bo, ti, ro, ha, rg, mm, dk, cs) => wn 1024 g Sg zmem mm ∧ wn 8 g 8 zreg rg ∧ zmd g = nI md ∧ zpc g = nI pc ∧ zba g = nI ba ∧ zbo g = nI bo ∧ zti g = nI ti ∧ zro g = bi ro ∧ zha g = bi ha ∧ cR g zou zop zwa zty cs ∧ wn 128 g 128 zdk dk
def mF (g : Nat) (B B' : tB) : Prop := match B, B' with
  | (zmem, zreg, zmd, zpc, zba, zbo, zti, zro, zha, zou, zop, zwa, zty, zdk), (ymem, yreg, ymd, ypc, yba, ybo, yti, yro, yha, you, yop, ywa, yty, ydk) => fo 1024 g zmem ymem ∧ fo 8 g zreg yreg ∧ fs g zmd ymd ∧ fs g zpc ypc ∧ fs g zba yba ∧ fs g zbo ybo ∧ fs g zti yti ∧ fs g zro yro ∧ fs g zha yha ∧ fs g zou you ∧ fo 500 g zop yop ∧ fs g zwa ywa ∧ fo 100 g zty yty ∧ fo 128 g zdk ydk
variable {n g m k v Sg : Nat} {z z' z'' : Nat → Int32} {f : Nat → Nat}
theorem wn_upd (h : wn n g m z f) : wn n g m (upd z (n * g + k) (nI v)) (mu f k v) := by
  intro j hj
  by_cases e : j = k
  · subst e; rw [pk_us, mu_s]
  · rw [pk_un (by omega), mu_n _ _ e]; exact h j hj
theorem fo_r : fo n g z z := fun _ _ => rfl
theorem fs_r : fs g z z := fun _ _ => rfl
theorem fo_u {x : Int32} (h : fo n g z z') (hk : k < n) : fo n g z (upd z' (n * g + k) x) := by
  intro i hi
  rw [pk_un (by omega)]
  exact h i hi
theorem fs_u {x : Int32} (h : fs g z z') : fs g z (upd z' g x) := by
  intro i hi
  rw [pk_un hi]
  exact h i hi
theorem fo_t (h : fo n g z z') (h' : fo n g z' z'') : fo n g z z'' := fun i hi => (h' i hi).trans (h i hi)
theorem fs_t (h : fs g z z') (h' : fs g z' z'') : fs g z z'' := fun i hi => (h' i hi).trans (h i hi)
theorem mF_r {B : tB} : mF g B B := by
  obtain ⟨zmem, zreg, zmd, zpc, zba, zbo, zti, zro, zha, zou, zop, zwa, zty, zdk⟩ := B
  exact ⟨fo_r, fo_r, fs_r, fs_r, fs_r, fs_r, fs_r, fs_r, fs_r, fs_r, fo_r, fs_r, fo_r, fo_r⟩
theorem mF_t {B B' B'' : tB} (h : mF g B B') (h' : mF g B' B'') : mF g B B'' := by
  obtain ⟨zmem, zreg, zmd, zpc, zba, zbo, zti, zro, zha, zou, zop, zwa, zty, zdk⟩ := B
  obtain ⟨ymem, yreg, ymd, ypc, yba, ybo, yti, yro, yha, you, yop, ywa, yty, ydk⟩ := B'
  obtain ⟨xmem, xreg, xmd, xpc, xba, xbo, xti, xro, xha, xou, xop, xwa, xty, xdk⟩ := B''
  obtain ⟨a1, a2, a3, a4, a5, a6, a7, a8, a9, a10, a11, a12, a13, a14⟩ := h
  obtain ⟨b1, b2, b3, b4, b5, b6, b7, b8, b9, b10, b11, b12, b13, b14⟩ := h'
  exact ⟨fo_t a1 b1, fo_t a2 b2, fs_t a3 b3, fs_t a4 b4, fs_t a5 b5, fs_t a6 b6, fs_t a7 b7, fs_t a8 b8, fs_t a9 b9, fs_t a10 b10, fo_t a11 b11, fs_t a12 b12, fo_t a13 b13, fo_t a14 b14⟩
theorem wn_fo {h' : Nat} (hn : m ≤ n) (e : h' ≠ g) (h : fo n g z z') (w : wn n h' m z f) : wn n h' m z' f := by
  intro j hj
  rw [h (n * h' + j), w j hj]
  rcases Nat.lt_or_gt_of_ne e with q | q
  · left
    have : n * (h' + 1) ≤ n * g := Nat.mul_le_mul_left n q
    rw [Nat.mul_add] at this
    omega
  · right
    have : n * (g + 1) ≤ n * h' := Nat.mul_le_mul_left n q
    rw [Nat.mul_add] at this
    omega
/-- the other guests stay -/
theorem mR_fr {B B' : tB} {G : mc_S} {h' : Nat} (e : h' ≠ g) (hS : Sg ≤ 1024) (h : mF g B B') (w : mR h' Sg B G) : mR h' Sg B' G := by
  obtain ⟨zmem, zreg, zmd, zpc, zba, zbo, zti, zro, zha, zou, zop, zwa, zty, zdk⟩ := B
  obtain ⟨ymem, yreg, ymd, ypc, yba, ybo, yti, yro, yha, you, yop, ywa, yty, ydk⟩ := B'
  obtain ⟨md, pc, ba, bo, ti, ro, ha, rg, mm, dk, cs⟩ := G
  obtain ⟨a1, a2, a3, a4, a5, a6, a7, a8, a9, a10, a11, a12, a13, a14⟩ := h
  obtain ⟨b1, b2, b3, b4, b5, b6, b7, b8, b9, ⟨c1, c2, c3, c4, c5⟩, b11⟩ := w
  refine ⟨wn_fo hS e a1 b1, wn_fo (Nat.le_refl _) e a2 b2, (a3 _ e).trans b3, (a4 _ e).trans b4, (a5 _ e).trans b5, (a6 _ e).trans b6, (a7 _ e).trans b7, (a8 _ e).trans b8, (a9 _ e).trans b9, ⟨(a10 _ e).trans c1, fun j h1 h2 => ?_, c3, (a12 _ e).trans c4, wn_fo c3 e a13 c5⟩, wn_fo (Nat.le_refl _) e a14 b11⟩
  rw [← c2 j h1 h2]
  apply a11
  rcases Nat.lt_or_gt_of_ne e with q | q <;> omega
theorem x1024 : (1024 : Int32) * nI g = nI (1024 * g) := nI_mulL 1024 g
theorem x8 : (8 : Int32) * nI g = nI (8 * g) := nI_mulL 8 g
theorem x128 : (128 : Int32) * nI g = nI (128 * g) := nI_mulL 128 g
theorem x100 : (100 : Int32) * nI g = nI (100 * g) := nI_mulL 100 g
theorem x500 : (500 : Int32) * nI g = nI (500 * g) := nI_mulL 500 g
theorem x16 : (16 : Int32) * nI g = nI (16 * g) := nI_mulL 16 g
theorem cg (hg : g < 3) : ck (nI g) 3 := (ck_nI (by omega)).mpr hg
theorem rem_ {a d : Nat} (ha : a < 2 ^ 31) (hd : 0 < d) (hd2 : d < 2 ^ 31) : nI a - nI a / nI d * nI d = nI (a % d) := pk_rem ha hd hd2
theorem r65 {a : Nat} (ha : a < 2 ^ 31) : nI a - nI a / 65536 * 65536 = nI (a % 65536) := rem_ (d := 65536) ha (by decide) (by decide)
theorem r8 {a : Nat} (ha : a < 2 ^ 31) : nI a - nI a / 8 * 8 = nI (a % 8) := rem_ (d := 8) ha (by decide) (by decide)
theorem r16 {a : Nat} (ha : a < 2 ^ 31) : nI a - nI a / 16 * 16 = nI (a % 16) := rem_ (d := 16) ha (by decide) (by decide)
theorem r2 {a : Nat} (ha : a < 2 ^ 31) : nI a - nI a / 2 * 2 = nI (a % 2) := rem_ (d := 2) ha (by decide) (by decide)
theorem m_get {zmem zba : Nat → Int32} {ba a : Nat} (hg : g < 3) (hb : zba g = nI ba) (h : ba + a < 1024) : f_MD_get (nI g) zmem zba (nI a) = some (zmem (1024 * g + (ba + a))) := by
  unfold f_MD_get
  rw [if_pos (cg hg), nI_clamp (by omega), hb, x1024, nI_add, nI_add, if_pos ((ck_nI (by omega)).mpr (by omega)), nI_clamp (by omega), Nat.add_assoc]
theorem m_set {zmem zba : Nat → Int32} {ba a : Nat} {x : Int32} (hg : g < 3) (hb : zba g = nI ba) (h : ba + a < 1024) : f_MD_set (nI g) zmem zba (nI a) x = some (upd zmem (1024 * g + (ba + a)) x) := by
  unfold f_MD_set
  rw [if_pos (cg hg), nI_clamp (by omega), hb, x1024, nI_add, nI_add, if_pos ((ck_nI (by omega)).mpr (by omega)), nI_clamp (by omega), Nat.add_assoc]
theorem m_good {zsz zba zbo : Nat → Int32} {ba bo a : Nat} (hg : g < 3) (hz : zsz g = nI Sg) (hb : zba g = nI ba) (ho : zbo g = nI bo) (h1 : Sg < 65536) (h2 : ba < 65536) (h3 : bo < 65536) (h4 : a < 65536) : f_MD_isGood (nI g) zsz zba zbo (nI a) = some (if mc_gd Sg ba bo a then 1 else 0) := by
  unfold f_MD_isGood
  simp only [if_pos (cg hg), nI_clamp (show g < 2 ^ 31 by omega), hz, hb, ho, nI_add]
  rw [ic (nI_leI (by omega) (by omega)), ic (nI_leI (by omega) (by omega))]
  unfold mc_gd
  repeat' split
  all_goals first | rfl | omega
theorem m_badl {zsz zba zbo : Nat → Int32} {ba bo ad ct t : Nat} (hg : g < 3) (hz : zsz g = nI Sg) (hb : zba g = nI ba) (ho : zbo g = nI bo) (h1 : Sg < 65536) (h2 : ba < 65536) (h3 : bo < 65536) (hct : ct ≤ 16) (had : ad < 65536) (ht : t ≤ ct) (k1 : ∀ i, i < t → mc_gd Sg ba bo (ad + i)) (k2 : t < ct → ¬ mc_gd Sg ba bo (ad + t) ∧ ad + t < 65536) : ∀ (k j fuel : Nat), t - j = k → j ≤ t → k < fuel → b_MD_bad_2 fuel (nI g) zsz zba zbo (nI ad) (nI ct) (nI j) = some (if t = ct then (-1) else nI (ad + t)) := by
  intro k
  induction k with
  | zero =>
    intro j fuel hk hj hf
    obtain ⟨f, rfl⟩ : ∃ f, fuel = f + 1 := ⟨fuel - 1, by omega⟩
    have e : j = t := by omega
    subst e
    rw [b_MD_bad_2, ic (nI_leI (by omega) (by omega))]
    by_cases h : j = ct
    · rw [if_pos (show ct ≤ j by omega), if_pos h]
    · obtain ⟨h3', h4⟩ := k2 (by omega)
      rw [if_neg (show ¬ ct ≤ j by omega), if_neg h, nI_add, r65 (by omega), Nat.mod_eq_of_lt h4, m_good hg hz hb ho h1 h2 h3 h4, if_neg h3', Option.bind_some, if_pos rfl]
  | succ k ih =>
    intro j fuel hk hj hf
    obtain ⟨f, rfl⟩ : ∃ f, fuel = f + 1 := ⟨fuel - 1, by omega⟩
    have h3' := k1 j (by omega)
    have h4 := h3'.1
    rw [b_MD_bad_2, ic (nI_leI (by omega) (by omega)), if_neg (show ¬ ct ≤ j by omega), nI_add, r65 (by omega), Nat.mod_eq_of_lt (by omega), m_good hg hz hb ho h1 h2 h3 (by omega), if_pos h3', Option.bind_some, if_neg (by decide), nI_1]
    exact ih (j + 1) f (by omega) (by omega) (by omega)
theorem m_bad {zsz zba zbo : Nat → Int32} {ba bo ad ct : Nat} (hg : g < 3) (hz : zsz g = nI Sg) (hb : zba g = nI ba) (ho : zbo g = nI bo) (h1 : Sg < 65536) (h2 : ba < 65536) (h3 : bo < 65536) (hct : ct ≤ 16) (had : ad < 65536) : f_MD_bad (nI g) zsz zba zbo (nI ad) (nI ct) = some (if 0 < ct ∧ ¬ mc_gd Sg ba bo ad then nI ad else if 0 < ct ∧ ¬ mc_gd Sg ba bo (ad + ct - 1) then nI (mc_rc Sg ba bo) else (-1)) := by
  unfold f_MD_bad
  by_cases c0 : ct = 0
  · subst c0
    have e := m_badl (ad := ad) (ct := 0) (t := 0) hg hz hb ho h1 h2 h3 (by omega) had (by omega) (fun i h => by omega) (fun h => by omega) 0 0 65536 rfl (by omega) (by omega)
    rw [if_neg (by omega), if_neg (by omega)]
    exact e
  · by_cases g0 : mc_gd Sg ba bo ad
    · rw [if_neg (show ¬ (0 < ct ∧ ¬ mc_gd Sg ba bo ad) from fun q => q.2 g0)]
      by_cases g1 : mc_gd Sg ba bo (ad + ct - 1)
      · rw [if_neg (show ¬ (0 < ct ∧ ¬ mc_gd Sg ba bo (ad + ct - 1)) from fun q => q.2 g1)]
        have e := m_badl (ad := ad) (ct := ct) (t := ct) hg hz hb ho h1 h2 h3 hct had (by omega) (fun i h => by unfold mc_gd at *; omega) (fun h => by omega) ct 0 65536 rfl (by omega) (by omega)
        rw [if_pos rfl] at e
        exact e
      · rw [if_pos (show 0 < ct ∧ ¬ mc_gd Sg ba bo (ad + ct - 1) from ⟨by omega, g1⟩)]
        have hrc : ad < mc_rc Sg ba bo ∧ mc_rc Sg ba bo ≤ ad + ct - 1 ∧ mc_rc Sg ba bo < 65536 := by
          unfold mc_rc mc_gd at *
          split <;> omega
        have hgd : ∀ n, mc_gd Sg ba bo n ↔ n < mc_rc Sg ba bo := by
          intro n
          unfold mc_rc mc_gd
          split <;> omega
        have e := m_badl (ad := ad) (ct := ct) (t := mc_rc Sg ba bo - ad) hg hz hb ho h1 h2 h3 hct had (by omega) (fun i h => by rw [hgd]; omega) (fun h => ⟨by rw [hgd]; omega, by omega⟩) (mc_rc Sg ba bo - ad) 0 65536 rfl (by omega) (by omega)
        rw [if_neg (by omega), show ad + (mc_rc Sg ba bo - ad) = mc_rc Sg ba bo by omega] at e
        exact e
    · rw [if_pos (show 0 < ct ∧ ¬ mc_gd Sg ba bo ad from ⟨by omega, g0⟩)]
      have e := m_badl (ad := ad) (ct := ct) (t := 0) hg hz hb ho h1 h2 h3 hct had (by omega) (fun i h => by omega) (fun h => ⟨g0, had⟩) 0 0 65536 rfl (by omega) (by omega)
      rw [if_neg (by omega)] at e
      exact e
theorem nI_p4 (a : Nat) : nI a + 4 = nI (a + 4) := nI_add a 4
theorem nI_p5 (a : Nat) : nI a + 5 = nI (a + 5) := nI_add a 5
theorem nI_p6 (a : Nat) : nI a + 6 = nI (a + 6) := nI_add a 6
theorem nI_p7 (a : Nat) : nI a + 7 = nI (a + 7) := nI_add a 7
theorem nI_p8 (a : Nat) : nI a + 8 = nI (a + 8) := nI_add a 8
theorem nI_p9 (a : Nat) : nI a + 9 = nI (a + 9) := nI_add a 9
theorem nar0 : vp_nar .boolean 0 = bi false := rfl
theorem nar1 : vp_nar .boolean 1 = bi true := rfl
/-- A TRAP -/
theorem m_trap {zmem zreg zmd zpc zba zbo zti zro zha zou zop zwa zty zdk : Nat → Int32} {md pc ba bo ti c i k : Nat} {ro : Bool} {rg mm dk : Nat → Nat} {cs : mc_K} (hg : g < 3) (hS : 64 ≤ Sg) (hc : c < 65536) (hm : ∀ j, mc_tm mm c i k md ba bo j < 65536) (h : mR g Sg (zmem, zreg, zmd, zpc, zba, zbo, zti, zro, zha, zou, zop, zwa, zty, zdk) (md, pc, ba, bo, ti, ro, false, rg, mm, dk, cs)) : ∃ ymem ymd ypc yba ybo yro, f_MD_trap (nI g) zmem zmd zpc zba zbo zro (nI c) (nI i) (nI k) = some (ymem, ymd, ypc, yba, ybo, yro) ∧ mR g Sg (ymem, zreg, ymd, ypc, yba, ybo, zti, yro, zha, zou, zop, zwa, zty, zdk) (mc_trap c i k md ba bo ti (if c = 4 then false else ro) rg mm dk cs) ∧ mF g (zmem, zreg, zmd, zpc, zba, zbo, zti, zro, zha, zou, zop, zwa, zty, zdk) (ymem, zreg, ymd, ypc, yba, ybo, zti, yro, zha, zou, zop, zwa, zty, zdk) := by
  obtain ⟨b1, b2, b3, b4, b5, b6, b7, b8, b9, b10, b11⟩ := h
  have w : wn 1024 g Sg (upd (upd (upd (upd (upd (upd zmem (1024 * g) (nI md)) (1024 * g + 1) (nI k)) (1024 * g + 2) (nI ba)) (1024 * g + 3) (nI bo)) (1024 * g + 8) (nI c)) (1024 * g + 9) (nI i)) (mc_tm mm c i k md ba bo) := wn_upd (wn_upd (wn_upd (wn_upd (wn_upd (wn_upd (k := 0) b1)))))
  have e4 := w 4 (by omega)
  have e5 := w 5 (by omega)
  have e6 := w 6 (by omega)
  have e7 := w 7 (by omega)
  refine ⟨_, upd zmd g (nI (if mc_tm mm c i k md ba bo 4 = 0 then 0 else 1)), upd zpc g (nI (mc_tm mm c i k md ba bo 5)), upd zba g (nI (mc_tm mm c i k md ba bo 6)), upd zbo g (nI (mc_tm mm c i k md ba bo 7)), (if c = 4 then upd zro g (bi false) else zro), ?_, ⟨w, b2, pk_us, pk_us, pk_us, pk_us, b7, ?_, b9, b10, b11⟩, ?_⟩
  · unfold f_MD_trap
    simp only [if_pos (cg hg), nI_clamp (show g < 2 ^ 31 by omega), x1024, nI_1, nI_p2, nI_p3, nI_p4, nI_p8, nI_p9, b3, b5, b6, if_pos ((ck_nI (n := 1024 * g) (N := 3072) (by omega)).mpr (by omega)), if_pos ((ck_nI (n := 1024 * g + 1) (N := 3072) (by omega)).mpr (by omega)), if_pos ((ck_nI (n := 1024 * g + 2) (N := 3072) (by omega)).mpr (by omega)), if_pos ((ck_nI (n := 1024 * g + 3) (N := 3072) (by omega)).mpr (by omega)), if_pos ((ck_nI (n := 1024 * g + 4) (N := 3072) (by omega)).mpr (by omega)), if_pos ((ck_nI (n := 1024 * g + 8) (N := 3072) (by omega)).mpr (by omega)), if_pos ((ck_nI (n := 1024 * g + 9) (N := 3072) (by omega)).mpr (by omega)), nI_clamp (show 1024 * g < 2 ^ 31 by omega), nI_clamp (show 1024 * g + 1 < 2 ^ 31 by omega), nI_clamp (show 1024 * g + 2 < 2 ^ 31 by omega), nI_clamp (show 1024 * g + 3 < 2 ^ 31 by omega), nI_clamp (show 1024 * g + 4 < 2 ^ 31 by omega), nI_clamp (show 1024 * g + 8 < 2 ^ 31 by omega), nI_clamp (show 1024 * g + 9 < 2 ^ 31 by omega)]
    rw [e4, ic (nIe_0 (by have := hm 4; omega))]
    unfold b_MD_trap_120
    simp only [if_pos (cg hg), nI_clamp (show g < 2 ^ 31 by omega), nI_p5, nI_p6, nI_p7, if_pos ((ck_nI (n := 1024 * g + 5) (N := 3072) (by omega)).mpr (by omega)), if_pos ((ck_nI (n := 1024 * g + 6) (N := 3072) (by omega)).mpr (by omega)), if_pos ((ck_nI (n := 1024 * g + 7) (N := 3072) (by omega)).mpr (by omega)), nI_clamp (show 1024 * g + 5 < 2 ^ 31 by omega), nI_clamp (show 1024 * g + 6 < 2 ^ 31 by omega), nI_clamp (show 1024 * g + 7 < 2 ^ 31 by omega), e5, e6, e7, nar0]
    by_cases q : mc_tm mm c i k md ba bo 4 = 0
    · rw [if_pos q, if_pos q, ic (nIe_4 (by omega))]
      by_cases r : c = 4
      · rw [if_pos r, if_pos r]; rfl
      · rw [if_neg r, if_neg r]; rfl
    · rw [if_neg q, if_neg q, ic (nIe_4 (by omega))]
      by_cases r : c = 4
      · rw [if_pos r, if_pos r]; rfl
      · rw [if_neg r, if_neg r]; rfl
  · by_cases r : c = 4
    · rw [if_pos r, if_pos r]; exact pk_us
    · rw [if_neg r, if_neg r]; exact b8
  · refine ⟨fo_u (fo_u (fo_u (fo_u (fo_u (fo_u (k := 0) fo_r (by omega)) (by omega)) (by omega)) (by omega)) (by omega)) (by omega), fo_r, fs_u fs_r, fs_u fs_r, fs_u fs_r, fs_u fs_r, fs_r, ?_, fs_r, fs_r, fo_r, fs_r, fo_r, fo_r⟩
    split
    · exact fs_u fs_r
    · exact fs_r
/-- the timer -/
theorem m_tick {zmem zreg zmd zpc zba zbo zti zro zha zou zop zwa zty zdk : Nat → Int32} {md pc ba bo ti : Nat} {ro : Bool} {rg mm dk : Nat → Nat} {cs : mc_K} (h1 : md = 1 ∧ 0 < ti) (h : mR g Sg (zmem, zreg, zmd, zpc, zba, zbo, zti, zro, zha, zou, zop, zwa, zty, zdk) (md, pc, ba, bo, ti, ro, false, rg, mm, dk, cs)) : mR g Sg (zmem, zreg, zmd, zpc, zba, zbo, upd zti g (nI (ti - 1)), upd zro g (bi (decide (ti = 1))), zha, zou, zop, zwa, zty, zdk) (mc_go pc md ba bo ti ro rg mm dk cs) := by
  obtain ⟨b1, b2, b3, b4, b5, b6, b7, b8, b9, b10, b11⟩ := h
  unfold mc_go
  rw [if_pos h1]
  exact ⟨b1, b2, b3, b4, b5, b6, pk_us, pk_us, b9, b10, b11⟩
end MMA
