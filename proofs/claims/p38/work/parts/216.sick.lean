/-! covering all places of a sailing; falling sick -/
abbrev aS : Type := (Nat → Nat) × (Nat → Nat → Nat)
def cv1 (ls : Nat → List Nat) (r q : Nat) (a : aS) : aS := (cvs a.1 (cov a.1 a.2 (ls q) r q), cvu a.2 r q (cov a.1 a.2 (ls q) r q))
def cvN (ls : Nat → List Nat) (r q : Nat) : Nat → aS → aS
  | 0, a => a
  | n + 1, a => cvN ls r q n (cv1 ls r q a)
def frR (u : Nat → Nat) (q : Nat) : Nat := u (10 + q) - tkR u q
def cvA (ls : Nat → List Nat) (r : Nat) : Nat → Nat → aS → aS
  | _, 0, a => a
  | q, n + 1, a => cvA ls r (q + 1) n (cvN ls r q (frR (a.2 r) q) a)
/-- the objects of the sailings are as they were -/
def K6 (B : Nat) (V V' : pV) : Prop := ∀ j, j < 48 → V' (B + (5 + 3 * j)) = V (B + (5 + 3 * j))
theorem K6.tr {B : Nat} {V V1 V2 : pV} (h : K6 B V V1) (g : K6 B V1 V2) : K6 B V V2 := fun j hj => (g j hj).trans (h j hj)
theorem e_cvNL {z : Nat} {B : Nat} (hb : isB B) {ls : Nat → List Nat} {r q : Nat} (hr : r < 48) (hq : q < 4) {r2 : Nat → Nat → Int32 → zHp → Option (Int32 × zHp)} : ∀ (n fuel : Nat) (X : pX) (a : aS), StC X B a.1 a.2 ls → DuE X.1 → n < fuel → n < 100000 → ∃ V', f_X5_coverAllPlaces_13 r2 fuel (z + B) (z + (B + (5 + 3 * X.2.1 B r))) (nI q) (nI n) (hp z X) = r2 (z + B) (z + (B + (5 + 3 * X.2.1 B r))) (nI q + nI 1) (hp z (V', X.2)) ∧ KpB B X.1 V' ∧ DuE V' ∧ StC (V', X.2) B (cvN ls r q n a).1 (cvN ls r q n a).2 ls ∧ K6 B X.1 V' := by
  intro n
  induction n with
  | zero =>
    intro fuel X a hS hd h1 h2
    obtain ⟨fuel, rfl⟩ : ∃ f, fuel = f + 1 := ⟨fuel - 1, by omega⟩
    refine ⟨X.1, ?_, KpB.rf, hd, hS, fun _ _ => rfl⟩
    simp (disch := first | assumption | omega) only [f_X5_coverAllPlaces_13, f_X5_coverAllPlaces_13_body, lit_0, lit_1, lit_2, lit_3, lit_4, lit_5, lit_6, lit_7, lit_8, lit_9, lit_10, lit_11, lit_12, lit_13, lit_14, lit_15, lit_16, lit_17, lit_18, lit_20, lit_24, lit_26, lit_30, lit_40, lit_45, lit_46, lit_47, lit_48, lit_60, lit_63, lit_64, lit_77, lit_100, lit_140, lit_168, lit_200, lit_300, lit_400, lit_900, lit_1000, lit_1168, lit_1997, lit_3333, lit_9999, lit_10000, nI_leE, Nat.le_refl, if_true]
  | succ n ih =>
    intro fuel X a hS hd h1 h2
    obtain ⟨fuel, rfl⟩ : ∃ f, fuel = f + 1 := ⟨fuel - 1, by omega⟩
    obtain ⟨V1, g1, g2, g3, g4, g5⟩ := e_cover (z := z) hb hS hr hq hd
    obtain ⟨V', q1, q2, q3, q4, q5⟩ := ih fuel (V1, X.2) (cv1 ls r q a) g4 g3 (by omega) (by omega)
    refine ⟨V', ?_, g2.tr q2, q3, q4, K6.tr g5 q5⟩
    simp (disch := first | assumption | omega) only [f_X5_coverAllPlaces_13, f_X5_coverAllPlaces_13_body, m_iO, zb2_s, zif_t, zopt_n, zopt_s, b_s, znm_e, lit_0, lit_1, lit_2, lit_3, lit_4, lit_5, lit_6, lit_7, lit_8, lit_9, lit_10, lit_11, lit_12, lit_13, lit_14, lit_15, lit_16, lit_17, lit_18, lit_20, lit_24, lit_26, lit_30, lit_40, lit_45, lit_46, lit_47, lit_48, lit_60, lit_63, lit_64, lit_77, lit_100, lit_140, lit_168, lit_200, lit_300, lit_400, lit_900, lit_1000, lit_1168, lit_1997, lit_3333, lit_9999, lit_10000, nI_leE, g1, nI_m1, q1]
    rw [if_neg (by omega)]
theorem frR_e {u : Nat → Nat} (h : SaK u) {q : Nat} (hq : q < 4) : nI (u (10 + q)) - nI (tkR u q) = nI (frR u q) := nI_sub (h.2.2 q hq)
theorem e_cvAL {z : Nat} {B : Nat} (hb : isB B) {ls : Nat → List Nat} {r : Nat} (hr : r < 48) : ∀ (n fuel q : Nat) (X : pX) (a : aS), StC X B a.1 a.2 ls → DuE X.1 → q + n = 4 → n < fuel → ∃ V', f_X5_coverAllPlaces_2 fuel (z + B) (z + (B + (5 + 3 * X.2.1 B r))) (nI q) (hp z X) = some (nI (fr ((cvA ls r q n a).2 r)), hp z (V', X.2)) ∧ KpB B X.1 V' ∧ DuE V' ∧ StC (V', X.2) B (cvA ls r q n a).1 (cvA ls r q n a).2 ls ∧ K6 B X.1 V' := by
  intro n
  induction n with
  | zero =>
    intro fuel q X a hS hd h1 h2
    obtain ⟨fuel, rfl⟩ : ∃ f, fuel = f + 1 := ⟨fuel - 1, by omega⟩
    obtain rfl : q = 4 := by omega
    have hw1 := hS.1.1 r hr
    have g := e_freeN (z := z) hb (hS.1.1 r hr) (hS.2.1.2.1 r hr) (hS.ug r hr).1
    refine ⟨X.1, ?_, KpB.rf, hd, hS, fun _ _ => rfl⟩
    simp (disch := first | assumption | omega) only [f_X5_coverAllPlaces_2, f_X5_coverAllPlaces_2_body, m_iS, zb2_s, zif_t, zopt_n, zopt_s, b_s, znm_e, lit_0, lit_1, lit_2, lit_3, lit_4, lit_5, lit_6, lit_7, lit_8, lit_9, lit_10, lit_11, lit_12, lit_13, lit_14, lit_15, lit_16, lit_17, lit_18, lit_20, lit_24, lit_26, lit_30, lit_40, lit_45, lit_46, lit_47, lit_48, lit_60, lit_63, lit_64, lit_77, lit_100, lit_140, lit_168, lit_200, lit_300, lit_400, lit_900, lit_1000, lit_1168, lit_1997, lit_3333, lit_9999, lit_10000, nI_leE, Nat.le_refl, if_true, g, cvA]
  | succ n ih =>
    intro fuel q X a hS hd h1 h2
    obtain ⟨fuel, rfl⟩ : ∃ f, fuel = f + 1 := ⟨fuel - 1, by omega⟩
    have hq : q < 4 := by omega
    have hK := (hS.ug r hr).1
    have hw1 := hS.1.1 r hr
    have g := e_freeOf2 (z := z) hb (hS.1.1 r hr) (hS.2.1.2.1 r hr) hK.1 hq
    rw [frR_e hK hq] at g
    have hlt : frR (a.2 r) q < 100000 := by have := hK.1 (10 + q); unfold frR; omega
    obtain ⟨V1, g1, g2, g3, g4, g5⟩ := e_cvNL (z := z) hb hr hq (r2 := f_X5_coverAllPlaces_2 fuel) (frR (a.2 r) q) zN X a hS hd (zN_lt (by omega)) hlt
    obtain ⟨V', q1, q2, q3, q4, q5⟩ := ih fuel (q + 1) (V1, X.2) _ g4 g3 (by omega) (by omega)
    refine ⟨V', ?_, g2.tr q2, q3, q4, K6.tr g5 q5⟩
    simp (disch := first | assumption | omega) only [f_X5_coverAllPlaces_2, f_X5_coverAllPlaces_2_body, m_iS, zb2_s, zif_t, zopt_n, zopt_s, b_s, znm_e, lit_0, lit_1, lit_2, lit_3, lit_4, lit_5, lit_6, lit_7, lit_8, lit_9, lit_10, lit_11, lit_12, lit_13, lit_14, lit_15, lit_16, lit_17, lit_18, lit_20, lit_24, lit_26, lit_30, lit_40, lit_45, lit_46, lit_47, lit_48, lit_60, lit_63, lit_64, lit_77, lit_100, lit_140, lit_168, lit_200, lit_300, lit_400, lit_900, lit_1000, lit_1168, lit_1997, lit_3333, lit_9999, lit_10000, nI_leE, g, g1, nI_add, q1]
    rw [if_neg (by omega)]
    rfl
theorem e_coverAll {z : Nat} {X : pX} {B : Nat} (hb : isB B) {s : Nat → Nat} {u : Nat → Nat → Nat} {ls : Nat → List Nat} (hS : StC X B s u ls) {r : Nat} (hr : r < 48) (hd : DuE X.1) : ∃ V', f_X5_coverAllPlaces (z + B) (z + (B + (5 + 3 * X.2.1 B r))) (hp z X) = some (nI (fr ((cvA ls r 0 4 (s, u)).2 r)), hp z (V', X.2)) ∧ KpB B X.1 V' ∧ DuE V' ∧ StC (V', X.2) B (cvA ls r 0 4 (s, u)).1 (cvA ls r 0 4 (s, u)).2 ls := by
  obtain ⟨V', g1, g2, g3, g4, _⟩ := e_cvAL (z := z) hb hr 4 zN 0 X (s, u) hS hd rfl (zN_lt (by omega))
  exact ⟨V', by simp only [f_X5_coverAllPlaces, lit_0, lit_1, lit_2, lit_3, lit_4, lit_5, lit_6, lit_7, lit_8, lit_9, lit_10, lit_11, lit_12, lit_13, lit_14, lit_15, lit_16, lit_17, lit_18, lit_20, lit_24, lit_26, lit_30, lit_40, lit_45, lit_46, lit_47, lit_48, lit_60, lit_63, lit_64, lit_77, lit_100, lit_140, lit_168, lit_200, lit_300, lit_400, lit_900, lit_1000, lit_1168, lit_1997, lit_3333, lit_9999, lit_10000, g1], g2, g3, g4⟩
/-- what a member gives up -/
def gvC (u : Nat → Nat → Nat) (U r : Nat) : Bool := decide (u r 5 = 0 ∧ u r 2 < U)
def gvN (u : Nat → Nat → Nat) (m U r : Nat) : Nat := match gvC u U r with
  | true => u r (20 + m)
  | false => 0
def gvU (u : Nat → Nat → Nat) (m U k r : Nat) : Nat → Nat := if r < k ∧ gvC u U r = true then updN (u r) (20 + m) 0 else u r
theorem gvU_0 {u : Nat → Nat → Nat} {m U : Nat} : gvU u m U 0 = u := by
  funext r; unfold gvU; rw [if_neg (by omega)]
theorem gvU_t {u : Nat → Nat → Nat} {m U k : Nat} (h : gvC u U k = true) : gvU u m U (k + 1) = updU (gvU u m U k) k (20 + m) 0 := by
  funext r
  unfold updU gvU
  by_cases c : r = k
  · subst c
    rw [if_pos ⟨by omega, h⟩, if_pos rfl, if_neg (by omega)]
  · rw [if_neg c]
    by_cases d : r < k ∧ gvC u U r = true
    · rw [if_pos d, if_pos ⟨by omega, d.2⟩]
    · rw [if_neg d, if_neg (fun e => d ⟨by omega, e.2⟩)]
theorem gvU_f {u : Nat → Nat → Nat} {m U k : Nat} (h : gvC u U k = false) : gvU u m U (k + 1) = gvU u m U k := by
  funext r
  unfold gvU
  by_cases d : r < k ∧ gvC u U r = true
  · rw [if_pos d, if_pos ⟨by omega, d.2⟩]
  · rw [if_neg d, if_neg (fun e => d ⟨by
      rcases Nat.lt_or_ge r k with g | g
      · exact g
      · obtain rfl : r = k := by omega
        rw [h] at e; exact absurd e.2 (by decide), e.2⟩)]
theorem gvU_k {u : Nat → Nat → Nat} {m U k : Nat} : gvU u m U k k = u k := by unfold gvU; rw [if_neg (by omega)]
/-- a field of a sailing that no record tells -/
theorem StC.f6 {X : pX} {B : Nat} {s : Nat → Nat} {u : Nat → Nat → Nat} {ls : Nat → List Nat} (hb : isB B) (hS : StC X B s u ls) {j : Nat} (hj : j < 48) (v : Int32) : StC (sV X.1 (B + (5 + 3 * j)) (upd (X.1 (B + (5 + 3 * j))) 6 v), X.2) B s u ls := by
  obtain ⟨hw, hR, hU, hG, hL⟩ := hS
  refine ⟨hw, ⟨hR.1.kept (sV_n (by omega)) (sV_n (by omega)), fun r hr => ?_, fun k hk => (hR.2.2.1 k hk).kept (sV_n (by omega)) (sV_n (by omega)), fun q hq => (hR.2.2.2 q hq).kept (sV_n (by omega)) (sV_n (by omega))⟩, hU, hG, hL⟩
  have h := hR.2.1 r hr
  refine ⟨fun i hi => ?_, fun q hq => ?_, fun m hm => ?_⟩
  · dsimp only
    by_cases c : X.2.1 B r = j
    · subst c
      rw [sV_s, pk_un (by omega)]; exact h.1 i hi
    · rw [sV_n (by omega)]; exact h.1 i hi
  · dsimp only; rw [sV_n (by omega)]; exact h.2.1 q hq
  · dsimp only; rw [sV_n (by omega)]; exact h.2.2 m hm
theorem unseat_ok {u : Nat → Nat → Nat} (hU : UG u) {r m : Nat} (hr : r < 48) (hm : m < 12) : ∀ p, p < 4 → tkR (updN (u r) (20 + m) 0) p ≤ u r (10 + p) := by
  intro p hp
  have h := tkR_upd (u := u r) (m := m) (v := 0) (q := p) hm
  have h2 := (hU r hr).1.2.2 p hp
  have e2 : decide (0 = p + 1) = false := decide_eq_false (by omega)
  rw [e2] at h
  simp at h
  omega
/-- the places given up are covered, by rank -/
def skF (ls : Nat → List Nat) (gv : Nat → Nat) : Nat → Nat → aS × Nat → aS × Nat
  | _, 0, a => a
  | k, n + 1, a => match gv k with
    | 0 => skF ls gv (k + 1) n a
    | q + 1 => skF ls gv (k + 1) n (cv1 ls k q a.1, a.2 + (!(cov a.1.1 a.1.2 (ls q) k q).isSome).toNat)
theorem skF_0 {ls : Nat → List Nat} {gv : Nat → Nat} {k n : Nat} {a : aS × Nat} (h : gv k = 0) : skF ls gv k (n + 1) a = skF ls gv (k + 1) n a := by
  show (match gv k with | 0 => _ | q + 1 => _) = _; rw [h]
theorem skF_s {ls : Nat → List Nat} {gv : Nat → Nat} {k n q : Nat} {a : aS × Nat} (h : gv k = q + 1) : skF ls gv k (n + 1) a = skF ls gv (k + 1) n (cv1 ls k q a.1, a.2 + (!(cov a.1.1 a.1.2 (ls q) k q).isSome).toNat) := by
  show (match gv k with | 0 => _ | q + 1 => _) = _; rw [h]
theorem e_skL2 {z : Nat} {B : Nat} (hb : isB B) {ls : Nat → List Nat} {gv : Nat → Nat} (hg : ∀ k, k < 48 → gv k ≤ 4) : ∀ (n fuel k : Nat) (X : pX) (a : aS × Nat), StC X B a.1.1 a.1.2 ls → DuE X.1 → (∀ r, r < 48 → X.1 (B + (5 + 3 * X.2.1 B r)) 6 = rl (gv r)) → k + n = 48 → n < fuel → ∃ V', f_X5_fallSick_120 fuel (z + B) (nI a.2) (z + (B + 2)) (nI 48) (nI k) (hp z X) = some (nI (skF ls gv k n a).2, hp z (V', X.2)) ∧ KpB B X.1 V' ∧ DuE V' ∧ StC (V', X.2) B (skF ls gv k n a).1.1 (skF ls gv k n a).1.2 ls := by
  intro n
  induction n with
  | zero =>
    intro fuel k X a hS hd h6 h1 h2
    obtain ⟨fuel, rfl⟩ : ∃ f, fuel = f + 1 := ⟨fuel - 1, by omega⟩
    obtain rfl : k = 48 := by omega
    refine ⟨X.1, ?_, KpB.rf, hd, hS⟩
    simp (disch := first | assumption | omega) only [f_X5_fallSick_120, f_X5_fallSick_120_body, lit_0, lit_1, lit_2, lit_3, lit_4, lit_5, lit_6, lit_7, lit_8, lit_9, lit_10, lit_11, lit_12, lit_13, lit_14, lit_15, lit_16, lit_17, lit_18, lit_20, lit_24, lit_26, lit_30, lit_40, lit_45, lit_46, lit_47, lit_48, lit_60, lit_63, lit_64, lit_77, lit_100, lit_140, lit_168, lit_200, lit_300, lit_400, lit_900, lit_1000, lit_1168, lit_1997, lit_3333, lit_9999, lit_10000, nI_leE, Nat.le_refl, if_true, skF]
  | succ n ih =>
    intro fuel k X a hS hd h6 h1 h2
    obtain ⟨fuel, rfl⟩ : ∃ f, fuel = f + 1 := ⟨fuel - 1, by omega⟩
    have hk : k < 48 := by omega
    have hw1 := hS.1.1 k hk
    have g6 := h6 k hk
    have gk := hg k hk
    cases hgv : gv k with
    | zero =>
      rw [hgv] at g6
      rw [skF_0 hgv]
      obtain ⟨V', q1, q2⟩ := ih fuel (k + 1) X a hS hd h6 (by omega) (by omega)
      refine ⟨V', ?_, q2⟩
      simp (disch := first | assumption | omega) only [f_X5_fallSick_120, f_X5_fallSick_120_body, f_X5_fallSick_160, m_ldS, m_gS6, zb2_s, zif_t, zopt_n, zopt_s, b_s, znm_e, lit_0, lit_1, lit_2, lit_3, lit_4, lit_5, lit_6, lit_7, lit_8, lit_9, lit_10, lit_11, lit_12, lit_13, lit_14, lit_15, lit_16, lit_17, lit_18, lit_20, lit_24, lit_26, lit_30, lit_40, lit_45, lit_46, lit_47, lit_48, lit_60, lit_63, lit_64, lit_77, lit_100, lit_140, lit_168, lit_200, lit_300, lit_400, lit_900, lit_1000, lit_1168, lit_1997, lit_3333, lit_9999, lit_10000, nI_leE, g6, rl_0, nI_add, q1]
      rw [if_neg (by omega), if_pos trivial]
    | succ q =>
      rw [hgv] at g6
      rw [skF_s hgv]
      obtain ⟨V1, g1, g2, g3, g4, g5⟩ := e_cover (z := z) hb hS hk (q := q) (by omega) hd
      obtain ⟨V', q1, q2, q3, q4⟩ := ih fuel (k + 1) (V1, X.2) (cv1 ls k q a.1, a.2 + (!(cov a.1.1 a.1.2 (ls q) k q).isSome).toNat) g4 g3 (fun r hr => by
        dsimp only
        rw [g5 _ (hS.1.1 r hr)]; exact h6 r hr) (by omega) (by omega)
      refine ⟨V', ?_, g2.tr q2, q3, q4⟩
      have hne : ¬ nI q = -nI 1 := fun e => by rw [← rl_s, rl_n (by omega)] at e; omega
      rw [rl_s] at g6
      simp (disch := first | assumption | omega) only [f_X5_fallSick_120, f_X5_fallSick_120_body, f_X5_fallSick_160, m_ldS, m_gS6, m_iO, zb2_s, zif_t, zopt_n, zopt_s, b_s, znm_e, lit_0, lit_1, lit_2, lit_3, lit_4, lit_5, lit_6, lit_7, lit_8, lit_9, lit_10, lit_11, lit_12, lit_13, lit_14, lit_15, lit_16, lit_17, lit_18, lit_20, lit_24, lit_26, lit_30, lit_40, lit_45, lit_46, lit_47, lit_48, lit_60, lit_63, lit_64, lit_77, lit_100, lit_140, lit_168, lit_200, lit_300, lit_400, lit_900, lit_1000, lit_1168, lit_1997, lit_3333, lit_9999, lit_10000, nI_leE, g6, hne, if_false, g1, bI_0]
      rw [if_neg (by omega)]
      cases hc : (cov a.1.1 a.1.2 (ls q) k q).isSome
      · rw [hc] at q1
        rw [if_pos rfl, nI_add, nI_add]
        exact q1
      · rw [hc] at q1
        rw [if_neg (by decide), nI_add]
        exact q1
theorem e_skL1 {z : Nat} {B : Nat} (hb : isB B) {s : Nat → Nat} {ls : Nat → List Nat} {u : Nat → Nat → Nat} (hU : UG u) {m U : Nat} (hm : m < 12) (hs4 : s (969 + 6 * m + 4) = U) : ∀ (n fuel k : Nat) (X : pX), StC X B s (gvU u m U k) ls → DuE X.1 → (∀ r, r < k → X.1 (B + (5 + 3 * X.2.1 B r)) 6 = rl (gvN u m U r)) → k + n = 48 → n < fuel → ∃ V', f_X5_fallSick_36 fuel (z + B) (nI m) (z + (B + (149 + 2 * m))) (z + (B + 2)) (nI 48) (nI k) (hp z X) = some (nI (skF ls (gvN u m U) 0 48 ((s, gvU u m U 48), 0)).2, hp z (V', X.2)) ∧ KpB B X.1 V' ∧ DuE V' ∧ StC (V', X.2) B (skF ls (gvN u m U) 0 48 ((s, gvU u m U 48), 0)).1.1 (skF ls (gvN u m U) 0 48 ((s, gvU u m U 48), 0)).1.2 ls := by
  have hbl := isB_lt hb
  intro n
  induction n with
  | zero =>
    intro fuel k X hS hd h6 h1 h2
    obtain ⟨fuel, rfl⟩ : ∃ f, fuel = f + 1 := ⟨fuel - 1, by omega⟩
    obtain rfl : k = 48 := by omega
    have hg : ∀ k, k < 48 → gvN u m U k ≤ 4 := fun k hk => by
      unfold gvN
      have := (hU k hk).1.2.1 m hm
      split <;> omega
    obtain ⟨V', g1, g2⟩ := e_skL2 (z := z) hb hg 48 zN 0 X ((s, gvU u m U 48), 0) hS hd h6 rfl (zN_lt (by omega))
    refine ⟨V', ?_, g2⟩
    simp (disch := first | assumption | omega) only [f_X5_fallSick_36, f_X5_fallSick_36_body, m_rO5, m_lnS, zb2_s, zif_t, zopt_n, zopt_s, b_s, znm_e, lit_0, lit_1, lit_2, lit_3, lit_4, lit_5, lit_6, lit_7, lit_8, lit_9, lit_10, lit_11, lit_12, lit_13, lit_14, lit_15, lit_16, lit_17, lit_18, lit_20, lit_24, lit_26, lit_30, lit_40, lit_45, lit_46, lit_47, lit_48, lit_60, lit_63, lit_64, lit_77, lit_100, lit_140, lit_168, lit_200, lit_300, lit_400, lit_900, lit_1000, lit_1168, lit_1997, lit_3333, lit_9999, lit_10000, nI_leE, Nat.le_refl, if_true]
    exact g1
  | succ n ih =>
    intro fuel k X hS hd h6 h1 h2
    obtain ⟨fuel, rfl⟩ : ∃ f, fuel = f + 1 := ⟨fuel - 1, by omega⟩
    have hk : k < 48 := by omega
    have hw := hS.1
    have hw1 := hw.1 k hk
    have hs := hS.2.1.2.1 k hk
    rw [gvU_k] at hs
    have hK := (hU k hk).1
    have g0 := e_isOpen (z := z) hb hw1 hs hK.1
    have k2 := hs.1 2 (by decide)
    have c2 := hK.1 2
    have m1 := (hS.2.1.2.2.1 m hm).2.1
    rw [hs4] at m1
    have bU := hS.2.2.2.1.2.2.2.2 m hm 4 (by omega)
    rw [hs4] at bU
    by_cases hc : gvC u U k = true
    · have hc' := of_decide_eq_true hc
      have g1 := e_unseat (z := z) hb hw1 hs hK.1 hm
      have hS1 := hS.seat hb (v := 0) hk hm (by omega) (fun q hq => by rw [gvU_k]; exact unseat_ok hU hk hm q hq)
      rw [← gvU_t hc] at hS1
      have hS2 := hS1.f6 hb hw1 (rl (u k (20 + m)))
      obtain ⟨V', q1, q2, q3, q4⟩ := ih fuel (k + 1) _ hS2 (hd.kept (by dsimp only; rw [sV_n (by omega), sV_n (by omega)]) (by dsimp only; rw [sV_n (by omega), sV_n (by omega)])) (fun r hr => by
        dsimp only
        by_cases e : r = k
        · subst e
          rw [sV_s, pk_us]; unfold gvN; rw [hc]
        · have hne : X.2.1 B r ≠ X.2.1 B k := fun q => e (hw.2 r k (by omega) hk q)
          rw [sV_n (by omega), sV_n (by omega)]; exact h6 r (by omega)) (by omega) (by omega)
      refine ⟨V', ?_, fun o o1 o2 o3 => by rw [q2 o o1 o2 o3]; dsimp only; rw [sV_n (by omega), sV_n (by omega)], q3, q4⟩
      simp (disch := first | assumption | omega) only [f_X5_fallSick_36, f_X5_fallSick_36_body, f_X5_fallSick_74, f_X5_fallSick_75, f_X5_fallSick_94, m_ldS, m_iS, m_gS2, m_gM1, m_pS6, zb2_s, zif_t, zopt_n, zopt_s, b_s, znm_e, lit_0, lit_1, lit_2, lit_3, lit_4, lit_5, lit_6, lit_7, lit_8, lit_9, lit_10, lit_11, lit_12, lit_13, lit_14, lit_15, lit_16, lit_17, lit_18, lit_20, lit_24, lit_26, lit_30, lit_40, lit_45, lit_46, lit_47, lit_48, lit_60, lit_63, lit_64, lit_77, lit_100, lit_140, lit_168, lit_200, lit_300, lit_400, lit_900, lit_1000, lit_1168, lit_1997, lit_3333, lit_9999, lit_10000, nI_leE, g0, k2, m1, g1, nI_add, nI_10, if_false, bI_0]
      rw [if_neg (by omega), if_neg (by simp [hc'.1]), if_neg (by omega)]
      exact q1
    · have hcf : gvC u U k = false := by simpa using hc
      rw [← gvU_f (m := m) hcf] at hS
      have hS2 := hS.f6 hb hw1 (-nI 1)
      obtain ⟨V', q1, q2, q3, q4⟩ := ih fuel (k + 1) _ hS2 (hd.kept (by dsimp only; rw [sV_n (by omega)]) (by dsimp only; rw [sV_n (by omega)])) (fun r hr => by
        dsimp only
        by_cases e : r = k
        · subst e
          rw [sV_s, pk_us]; unfold gvN; rw [hcf]; rfl
        · have hne : X.2.1 B r ≠ X.2.1 B k := fun q => e (hw.2 r k (by omega) hk q)
          rw [sV_n (by omega)]; exact h6 r (by omega)) (by omega) (by omega)
      refine ⟨V', ?_, fun o o1 o2 o3 => by rw [q2 o o1 o2 o3]; dsimp only; rw [sV_n (by omega)], q3, q4⟩
      simp (disch := first | assumption | omega) only [f_X5_fallSick_36, f_X5_fallSick_36_body, f_X5_fallSick_74, f_X5_fallSick_75, f_X5_fallSick_94, m_ldS, m_iS, m_gS2, m_gM1, m_pS6, zb2_s, zif_t, zopt_n, zopt_s, b_s, znm_e, lit_0, lit_1, lit_2, lit_3, lit_4, lit_5, lit_6, lit_7, lit_8, lit_9, lit_10, lit_11, lit_12, lit_13, lit_14, lit_15, lit_16, lit_17, lit_18, lit_20, lit_24, lit_26, lit_30, lit_40, lit_45, lit_46, lit_47, lit_48, lit_60, lit_63, lit_64, lit_77, lit_100, lit_140, lit_168, lit_200, lit_300, lit_400, lit_900, lit_1000, lit_1168, lit_1997, lit_3333, lit_9999, lit_10000, nI_leE, g0, k2, m1, nI_add, nI_10, if_false, if_true, bI_0]
      rw [if_neg (by omega)]
      by_cases e : u k 5 = 0
      · rw [if_neg (by simp [e]), if_pos (by
          rcases Nat.lt_or_ge (u k 2) U with g | g
          · exact absurd (decide_eq_true (show u k 5 = 0 ∧ u k 2 < U from ⟨e, g⟩)) hc
          · exact g)]
        exact q1
      · rw [if_pos (by simp [e])]
        exact q1
/-- a member falls sick: the row, what it gives up and who covers, how many stay free -/
def sickP (s : Nat → Nat) (u : Nat → Nat → Nat) (ls : Nat → List Nat) (m h : Nat) : aS × Nat := skF ls (gvN u m (s 0 + h)) 0 48 ((updN s (969 + 6 * m + 4) (s 0 + h), gvU u m (s 0 + h) 48), 0)
theorem StC.sick {X : pX} {B : Nat} {s : Nat → Nat} {u : Nat → Nat → Nat} {ls : Nat → List Nat} (hb : isB B) (hS : StC X B s u ls) {m v : Nat} (hm : m < 12) (hv : v < 100000) : StC (sV X.1 (B + (149 + 2 * m)) (upd (X.1 (B + (149 + 2 * m))) 1 (nI v)), X.2) B (updN s (969 + 6 * m + 4) v) u ls := by
  obtain ⟨hw, hR, hU, hG, hL⟩ := hS
  refine ⟨hw, ⟨?_, fun r hr => ?_, fun k hk => ?_, fun q hq => (hR.2.2.2 q hq).kept (sV_n (by omega)) (sV_n (by omega))⟩, hU, ?_, fun q hq => ?_⟩
  · have h := hR.1
    refine ⟨?_, ?_, ?_, fun i hi => ?_⟩
    · dsimp only; rw [sV_n (by omega), updN_n (by omega)]; exact h.1
    · dsimp only; rw [sV_n (by omega), updN_n (by omega)]; exact h.2.1
    · dsimp only; rw [sV_n (by omega), updN_n (by omega)]; exact h.2.2.1
    · dsimp only; rw [sV_n (by omega), updN_n (by omega)]; exact h.2.2.2 i hi
  · have hw1 := hw.1 r hr
    exact (hR.2.1 r hr).kept (sV_n (by omega)) (sV_n (by omega)) (sV_n (by omega))
  · have h := hR.2.2.1 k hk
    by_cases c : k = m
    · subst c
      refine ⟨fun q hq => ?_, ?_, ?_⟩
      · dsimp only; rw [sV_n (by omega), updN_n (by omega)]; exact h.1 q hq
      · dsimp only; rw [sV_s, pk_us, updN_s]
      · dsimp only; rw [sV_s, pk_un (by omega), updN_n (by omega)]; exact h.2.2
    · refine ⟨fun q hq => ?_, ?_, ?_⟩
      · dsimp only; rw [sV_n (by omega), updN_n (by omega)]; exact h.1 q hq
      · dsimp only; rw [sV_n (by omega), updN_n (by omega)]; exact h.2.1
      · dsimp only; rw [sV_n (by omega), updN_n (by omega)]; exact h.2.2
  · obtain ⟨a, b, c, ⟨d1, d2, d3, d4, d5⟩, e⟩ := hG
    refine ⟨?_, ?_, ?_, ⟨?_, ?_, ?_, ?_, ?_⟩, fun k hk q hq => ?_⟩
    all_goals first | (rw [updN_n (by omega)]; assumption) | skip
    by_cases c1 : 969 + 6 * k + q = 969 + 6 * m + 4
    · rw [c1, updN_s]; exact hv
    · rw [updN_n c1]; exact e k hk q hq
  · rw [updN_n (by omega)]; exact hL q hq
theorem e_fallSick {z : Nat} {X : pX} {B : Nat} (hb : isB B) {s : Nat → Nat} {u : Nat → Nat → Nat} {ls : Nat → List Nat} (hS : StC X B s u ls) {m h : Nat} (hm : m < s 2) (hh : h < 1000) (hd : DuE X.1) : ∃ V', f_X5_fallSick (z + B) (nI m) (nI h) (hp z X) = some (nI (sickP s u ls m h).2, hp z (V', X.2)) ∧ KpB B X.1 V' ∧ DuE V' ∧ StC (V', X.2) B (sickP s u ls m h).1.1 (sickP s u ls m h).1.2 ls := by
  have hbl := isB_lt hb
  have hG := hS.2.2.2.1
  have b2 := hG.2.2.1
  have b0 := hG.1
  have s0 : X.1 B 2 = nI (s 0) := hS.2.1.1.1
  have g0 := e_memAt_n (z := z) hb hS hm
  have hS1 := hS.sick hb (m := m) (v := s 0 + h) (by omega) (by omega)
  obtain ⟨V', q1, q2, q3, q4⟩ := e_skL1 (z := z) hb (s := updN s (969 + 6 * m + 4) (s 0 + h)) hS.ug (m := m) (U := s 0 + h) (by omega) (by rw [updN_s]) 48 zN 0 _ (by rw [gvU_0]; exact hS1) (hd.kept (by dsimp only; rw [sV_n (by omega)]) (by dsimp only; rw [sV_n (by omega)])) (fun r hr => by omega) rfl (zN_lt (by omega))
  refine ⟨V', ?_, fun o o1 o2 o3 => by rw [q2 o o1 o2 o3]; dsimp only; rw [sV_n (by omega)], q3, q4⟩
  simp (disch := first | assumption | omega) only [f_X5_fallSick, m_iO, m_gO2, m_pM1, m_rO5, m_lnS, zb2_s, zif_t, zopt_n, zopt_s, b_s, znm_e, lit_0, lit_1, lit_2, lit_3, lit_4, lit_5, lit_6, lit_7, lit_8, lit_9, lit_10, lit_11, lit_12, lit_13, lit_14, lit_15, lit_16, lit_17, lit_18, lit_20, lit_24, lit_26, lit_30, lit_40, lit_45, lit_46, lit_47, lit_48, lit_60, lit_63, lit_64, lit_77, lit_100, lit_140, lit_168, lit_200, lit_300, lit_400, lit_900, lit_1000, lit_1168, lit_1997, lit_3333, lit_9999, lit_10000, g0, s0, nI_add]
  exact q1
