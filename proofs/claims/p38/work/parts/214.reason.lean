/-! why not, as the class tells it -/
theorem rl_d (p : Nat) : nI p - nI 1 = rl p := rfl
theorem StC.ug {X : pX} {B : Nat} {s : Nat → Nat} {u : Nat → Nat → Nat} {ls : Nat → List Nat} (h : StC X B s u ls) : UG u := h.2.2.1
/-- duties of a member of a State -/
theorem e_duties {z : Nat} {X : pX} {B : Nat} (hb : isB B) {s : Nat → Nat} {u : Nat → Nat → Nat} {ls : Nat → List Nat} (hS : StC X B s u ls) {m : Nat} (hm : m < 12) {mo : Option Nat} (hmo : ∀ r, mo = some r → r < 48) (hd : DuE X.1) : ∃ V', f_X5_dutiesOf (z + B) (nI m) (moA z B (X.2.1 B) mo) (hp z X) = some (some (z + 1), hp z (V', X.2)) ∧ KpD X.1 V' ∧ DuC V' (dAll u (s 7) (selD u m mo)) ∧ dOk (dAll u (s 7) (selD u m mo)) := by
  obtain ⟨d, hd, ho⟩ := hd
  exact e_dutiesOf (z := z) hb hS.1 hS.2.1 hS.2.2.1 (by have := hS.2.2.2.1.2.2.2.1.2.2.2.1; omega) hm hmo hd ho
theorem e_duties0 {z : Nat} {X : pX} {B : Nat} (hb : isB B) {s : Nat → Nat} {u : Nat → Nat → Nat} {ls : Nat → List Nat} (hS : StC X B s u ls) {m : Nat} (hm : m < 12) (hd : DuE X.1) : ∃ V', f_X5_dutiesOf (z + B) (nI m) none (hp z X) = some (some (z + 1), hp z (V', X.2)) ∧ KpD X.1 V' ∧ DuC V' (dAll u (s 7) (selD u m none)) ∧ dOk (dAll u (s 7) (selD u m none)) :=
  e_duties (z := z) (mo := none) hb hS hm (fun r h => by cases h) hd
theorem e_duties1 {z : Nat} {X : pX} {B : Nat} (hb : isB B) {s : Nat → Nat} {u : Nat → Nat → Nat} {ls : Nat → List Nat} (hS : StC X B s u ls) {m r : Nat} (hm : m < 12) (hr : r < 48) (hd : DuE X.1) : ∃ V', f_X5_dutiesOf (z + B) (nI m) (some (z + (B + (5 + 3 * X.2.1 B r)))) (hp z X) = some (some (z + 1), hp z (V', X.2)) ∧ KpD X.1 V' ∧ DuC V' (dAll u (s 7) (selD u m (some r))) ∧ dOk (dAll u (s 7) (selD u m (some r))) :=
  e_duties (z := z) (mo := some r) hb hS hm (fun r' h => by cases h; exact hr) hd
/-- all rests of a member -/
def armB (s : Nat → Nat) (u : Nat → Nat → Nat) (m : Nat) : Bool := rstB (dAll u (s 7) (selD u m none)) s 1 (dAll u (s 7) (selD u m none)).2.2.1
def aA (p : Nat → Bool) : Nat → Nat → Bool
  | _, 0 => true
  | k, n + 1 => p k && aA p (k + 1) n
theorem aA_t {p : Nat → Bool} {k n : Nat} (h : p k = true) : aA p k (n + 1) = aA p (k + 1) n := by show (p k && _) = _; rw [h]; rfl
theorem aA_f {p : Nat → Bool} {k n : Nat} (h : p k = false) : aA p k (n + 1) = false := by show (p k && _) = _; rw [h]; rfl
theorem aA_iff {p : Nat → Bool} : ∀ {n k : Nat}, aA p k n = true ↔ ∀ i, k ≤ i → i < k + n → p i = true
  | 0, k => ⟨fun _ i a b => (by omega), fun _ => rfl⟩
  | n + 1, k => by
    show (p k && aA p (k + 1) n) = true ↔ _
    rw [Bool.and_eq_true, aA_iff (n := n) (k := k + 1)]
    constructor
    · rintro ⟨h, g⟩ i a b
      by_cases e : i = k
      · exact e ▸ h
      · exact g i (by omega) (by omega)
    · intro h
      exact ⟨h k (by omega) (by omega), fun i a b => h i (by omega) (by omega)⟩
theorem e_allRestsL {z : Nat} {B : Nat} (hb : isB B) {s : Nat → Nat} {u : Nat → Nat → Nat} {ls : Nat → List Nat} : ∀ (n fuel k : Nat) (X : pX), StC X B s u ls → DuE X.1 → k + n = s 2 → n < fuel → ∃ V', f_X5_allRestsHold_2 fuel (z + B) (nI k) (hp z X) = some (bI (aA (armB s u) k n), hp z (V', X.2)) ∧ KpD X.1 V' ∧ DuE V' := by
  intro n
  induction n with
  | zero =>
    intro fuel k X hS hd h1 h2
    obtain ⟨fuel, rfl⟩ : ∃ f, fuel = f + 1 := ⟨fuel - 1, by omega⟩
    have h3 : X.1 B 4 = nI (s 2) := hS.2.1.1.2.2.1
    have b2 := hS.2.2.2.1.2.2.1
    have h1 : k = s 2 := h1
    refine ⟨X.1, ?_, KpD.rf, hd⟩
    simp (disch := first | assumption | omega) only [f_X5_allRestsHold_2, f_X5_allRestsHold_2_body, m_gO2, m_pO2, m_gO3, m_pO3, m_gO4, m_pO4, m_rO0, m_rO1, m_rO5, m_rO6, m_rO7, m_iO, m_ldT, m_stT, m_ldS, m_ldM, m_ldL, m_lnS, m_lnM, m_gS0, m_pS0, m_gS1, m_pS1, m_gS2, m_pS2, m_gS3, m_pS3, m_gS4, m_pS4, m_gS5, m_pS5, m_gS6, m_pS6, m_rS7, m_rS8, m_iS, m_gM1, m_pM1, m_gM2, m_pM2, m_rM0, m_iM, m_gL1, m_pL1, m_rL0, m_iL, m_ldP, m_stP, m_ldR, m_stR, m_ldC, m_stC, m_ldK, m_stK, m_gx5, m_px5, m_rx0, m_rx1, m_rx2, m_rx3, m_rx4, m_ix, m_gD1, m_pD1, m_gD2, m_pD2, m_gD3, m_pD3, m_rD0, m_iD, m_ld2, m_st2, m_gH1, m_pH1, m_rH0, m_iH, m_gX1, m_pX1, m_gX2, m_pX2, m_gX3, m_pX3, m_rX0, m_rX4, m_rX5, m_rX6, m_rX7, m_iX, m_ld1273, m_st1273, m_ld1274, m_st1274, m_ld1275, m_st1275, m_ld1276, m_st1276, m_ld1277, m_st1277, m_ldH, zb2_s, zif_t, zopt_n, zopt_s, b_s, znm_e, lit_0, lit_1, lit_2, lit_3, lit_4, lit_5, lit_6, lit_7, lit_8, lit_9, lit_10, lit_11, lit_12, lit_13, lit_14, lit_15, lit_16, lit_17, lit_18, lit_20, lit_24, lit_26, lit_30, lit_40, lit_45, lit_46, lit_47, lit_48, lit_60, lit_63, lit_64, lit_77, lit_100, lit_140, lit_168, lit_200, lit_300, lit_400, lit_900, lit_1000, lit_1168, lit_1997, lit_3333, lit_9999, lit_10000, reduceIte, Nat.reduceEqDiff, Nat.reduceLeDiff, Nat.reduceAdd, Nat.reduceMul, nI_eqE, nI_ltE, nI_leE, zbool_0, zbool_1, zbool_b, bI_0, bI_1, h3]
    rw [if_pos (by omega)]
    rfl
  | succ n ih =>
    intro fuel k X hS hd h1 h2
    obtain ⟨fuel, rfl⟩ : ∃ f, fuel = f + 1 := ⟨fuel - 1, by omega⟩
    have h3 : X.1 B 4 = nI (s 2) := hS.2.1.1.2.2.1
    have hG := hS.2.2.2.1
    have b2 := hG.2.2.1
    obtain ⟨V1, g1, g2, g3, g4⟩ := e_duties0 (z := z) hb hS (m := k) (by omega) hd
    have hS1 := hS.kept hb g2
    obtain ⟨V', q1, q2, q3⟩ := ih fuel (k + 1) (V1, X.2) hS1 ⟨_, g3, g4⟩ (by omega) (by omega)
    have e2 := g3.2.2.1
    have r1 := e_restsHold (z := z) (X := (V1, X.2)) hb hS1.2.1.1 (by have := hG.2.2.2.1; omega) (by have := hG.2.2.2.1; omega) (by have := hG.2.2.2.1; omega) g3 g4 (p := 1) (T := (dAll u (s 7) (selD u k none)).2.2.1) (by omega) (by have := g4.2.1; omega)
    rw [rl_s] at r1
    cases hc : armB s u k
    · have hc' := hc
      unfold armB at hc
      rw [hc] at r1
      refine ⟨V1, ?_, g2, ⟨_, g3, g4⟩⟩
      rw [aA_f hc']
      simp (disch := first | assumption | omega) only [f_X5_allRestsHold_2, f_X5_allRestsHold_2_body, m_gO2, m_pO2, m_gO3, m_pO3, m_gO4, m_pO4, m_rO0, m_rO1, m_rO5, m_rO6, m_rO7, m_iO, m_ldT, m_stT, m_ldS, m_ldM, m_ldL, m_lnS, m_lnM, m_gS0, m_pS0, m_gS1, m_pS1, m_gS2, m_pS2, m_gS3, m_pS3, m_gS4, m_pS4, m_gS5, m_pS5, m_gS6, m_pS6, m_rS7, m_rS8, m_iS, m_gM1, m_pM1, m_gM2, m_pM2, m_rM0, m_iM, m_gL1, m_pL1, m_rL0, m_iL, m_ldP, m_stP, m_ldR, m_stR, m_ldC, m_stC, m_ldK, m_stK, m_gx5, m_px5, m_rx0, m_rx1, m_rx2, m_rx3, m_rx4, m_ix, m_gD1, m_pD1, m_gD2, m_pD2, m_gD3, m_pD3, m_rD0, m_iD, m_ld2, m_st2, m_gH1, m_pH1, m_rH0, m_iH, m_gX1, m_pX1, m_gX2, m_pX2, m_gX3, m_pX3, m_rX0, m_rX4, m_rX5, m_rX6, m_rX7, m_iX, m_ld1273, m_st1273, m_ld1274, m_st1274, m_ld1275, m_st1275, m_ld1276, m_st1276, m_ld1277, m_st1277, m_ldH, zb2_s, zif_t, zopt_n, zopt_s, b_s, znm_e, lit_0, lit_1, lit_2, lit_3, lit_4, lit_5, lit_6, lit_7, lit_8, lit_9, lit_10, lit_11, lit_12, lit_13, lit_14, lit_15, lit_16, lit_17, lit_18, lit_20, lit_24, lit_26, lit_30, lit_40, lit_45, lit_46, lit_47, lit_48, lit_60, lit_63, lit_64, lit_77, lit_100, lit_140, lit_168, lit_200, lit_300, lit_400, lit_900, lit_1000, lit_1168, lit_1997, lit_3333, lit_9999, lit_10000, reduceIte, Nat.reduceEqDiff, Nat.reduceLeDiff, Nat.reduceAdd, Nat.reduceMul, nI_eqE, nI_ltE, nI_leE, zbool_0, zbool_1, zbool_b, bI_0, bI_1, h3, g1, e2, r1]
      rw [if_neg (by omega)]
      rfl
    · have hc' := hc
      unfold armB at hc
      rw [hc] at r1
      refine ⟨V', ?_, g2.tr q2, q3⟩
      rw [aA_t hc']
      simp (disch := first | assumption | omega) only [f_X5_allRestsHold_2, f_X5_allRestsHold_2_body, m_gO2, m_pO2, m_gO3, m_pO3, m_gO4, m_pO4, m_rO0, m_rO1, m_rO5, m_rO6, m_rO7, m_iO, m_ldT, m_stT, m_ldS, m_ldM, m_ldL, m_lnS, m_lnM, m_gS0, m_pS0, m_gS1, m_pS1, m_gS2, m_pS2, m_gS3, m_pS3, m_gS4, m_pS4, m_gS5, m_pS5, m_gS6, m_pS6, m_rS7, m_rS8, m_iS, m_gM1, m_pM1, m_gM2, m_pM2, m_rM0, m_iM, m_gL1, m_pL1, m_rL0, m_iL, m_ldP, m_stP, m_ldR, m_stR, m_ldC, m_stC, m_ldK, m_stK, m_gx5, m_px5, m_rx0, m_rx1, m_rx2, m_rx3, m_rx4, m_ix, m_gD1, m_pD1, m_gD2, m_pD2, m_gD3, m_pD3, m_rD0, m_iD, m_ld2, m_st2, m_gH1, m_pH1, m_rH0, m_iH, m_gX1, m_pX1, m_gX2, m_pX2, m_gX3, m_pX3, m_rX0, m_rX4, m_rX5, m_rX6, m_rX7, m_iX, m_ld1273, m_st1273, m_ld1274, m_st1274, m_ld1275, m_st1275, m_ld1276, m_st1276, m_ld1277, m_st1277, m_ldH, zb2_s, zif_t, zopt_n, zopt_s, b_s, znm_e, lit_0, lit_1, lit_2, lit_3, lit_4, lit_5, lit_6, lit_7, lit_8, lit_9, lit_10, lit_11, lit_12, lit_13, lit_14, lit_15, lit_16, lit_17, lit_18, lit_20, lit_24, lit_26, lit_30, lit_40, lit_45, lit_46, lit_47, lit_48, lit_60, lit_63, lit_64, lit_77, lit_100, lit_140, lit_168, lit_200, lit_300, lit_400, lit_900, lit_1000, lit_1168, lit_1997, lit_3333, lit_9999, lit_10000, reduceIte, Nat.reduceEqDiff, Nat.reduceLeDiff, Nat.reduceAdd, Nat.reduceMul, nI_eqE, nI_ltE, nI_leE, zbool_0, zbool_1, zbool_b, bI_0, bI_1, h3, g1, e2, r1, nI_add, nI_mul, q1]
      rw [if_neg (by omega)]
      simp
theorem e_allRests {z : Nat} {X : pX} {B : Nat} (hb : isB B) {s : Nat → Nat} {u : Nat → Nat → Nat} {ls : Nat → List Nat} (hS : StC X B s u ls) (hd : DuE X.1) : ∃ V', f_X5_allRestsHold (z + B) (hp z X) = some (bI (aA (armB s u) 0 (s 2)), hp z (V', X.2)) ∧ KpD X.1 V' ∧ DuE V' := by
  obtain ⟨V', g1, g2⟩ := e_allRestsL (z := z) hb (s 2) zN 0 X hS hd (by omega) (zN_lt (by have := hS.2.2.2.1.2.2.1; omega))
  exact ⟨V', by simp only [f_X5_allRestsHold, lit_0, lit_1, lit_2, lit_3, lit_4, lit_5, lit_6, lit_7, lit_8, lit_9, lit_10, lit_11, lit_12, lit_13, lit_14, lit_15, lit_16, lit_17, lit_18, lit_20, lit_24, lit_26, lit_30, lit_40, lit_45, lit_46, lit_47, lit_48, lit_60, lit_63, lit_64, lit_77, lit_100, lit_140, lit_168, lit_200, lit_300, lit_400, lit_900, lit_1000, lit_1168, lit_1997, lit_3333, lit_9999, lit_10000, g1], g2⟩
/-- hours beyond of all weeks of a member, of all members -/
def hbA (s : Nat → Nat) (u : Nat → Nat → Nat) (m : Nat) : Nat := sA (hbN s (dAll u (s 7) (selD u m none))) 0 6
theorem e_beyL2 {z : Nat} {X : pX} {B : Nat} (hb : isB B) {s : Nat → Nat} {u : Nat → Nat → Nat} {ls : Nat → List Nat} (hS : StC X B s u ls) {d : dS} (hd : DuC X.1 d) (ho : dOk d) {r4 : Nat → Int32 → Int32 → zHp → Option (Int32 × zHp)} {m : Nat} {R : Nat → Option (Int32 × zHp)} (hr4 : ∀ c, r4 (z + B) (nI c) (nI m + nI 1) (hp z X) = R c) : ∀ (n fuel k c : Nat), k + n = 6 → n < fuel → f_X5_allHoursBeyond_22 r4 fuel (z + B) (nI c) (nI m) (z + 1) (nI k) (hp z X) = R (c + sA (hbN s d) k n) := by
  intro n
  induction n with
  | zero =>
    intro fuel k c h1 h2
    obtain ⟨fuel, rfl⟩ : ∃ f, fuel = f + 1 := ⟨fuel - 1, by omega⟩
    obtain rfl : k = 6 := by omega
    simp (disch := first | assumption | omega) only [f_X5_allHoursBeyond_22, f_X5_allHoursBeyond_22_body, zb2_s, zif_t, zopt_n, zopt_s, b_s, znm_e, lit_0, lit_1, lit_2, lit_3, lit_4, lit_5, lit_6, lit_7, lit_8, lit_9, lit_10, lit_11, lit_12, lit_13, lit_14, lit_15, lit_16, lit_17, lit_18, lit_20, lit_24, lit_26, lit_30, lit_40, lit_45, lit_46, lit_47, lit_48, lit_60, lit_63, lit_64, lit_77, lit_100, lit_140, lit_168, lit_200, lit_300, lit_400, lit_900, lit_1000, lit_1168, lit_1997, lit_3333, lit_9999, lit_10000, reduceIte, Nat.reduceEqDiff, Nat.reduceLeDiff, Nat.reduceAdd, Nat.reduceMul, nI_eqE, nI_ltE, nI_leE, zbool_0, zbool_1, zbool_b, bI_0, bI_1, Nat.le_refl, if_true, sA_0, Nat.add_zero, hr4]
  | succ n ih =>
    intro fuel k c h1 h2
    obtain ⟨fuel, rfl⟩ : ∃ f, fuel = f + 1 := ⟨fuel - 1, by omega⟩
    have hk : ¬ 6 ≤ k := by omega
    have i1 := fun c => ih fuel (k + 1) c (by omega) (by omega)
    have g1 := e_beyond (z := z) hb hS hd ho (k := k) (by omega)
    simp (disch := first | assumption | omega) only [f_X5_allHoursBeyond_22, f_X5_allHoursBeyond_22_body, m_gO2, m_pO2, m_gO3, m_pO3, m_gO4, m_pO4, m_rO0, m_rO1, m_rO5, m_rO6, m_rO7, m_iO, m_ldT, m_stT, m_ldS, m_ldM, m_ldL, m_lnS, m_lnM, m_gS0, m_pS0, m_gS1, m_pS1, m_gS2, m_pS2, m_gS3, m_pS3, m_gS4, m_pS4, m_gS5, m_pS5, m_gS6, m_pS6, m_rS7, m_rS8, m_iS, m_gM1, m_pM1, m_gM2, m_pM2, m_rM0, m_iM, m_gL1, m_pL1, m_rL0, m_iL, m_ldP, m_stP, m_ldR, m_stR, m_ldC, m_stC, m_ldK, m_stK, m_gx5, m_px5, m_rx0, m_rx1, m_rx2, m_rx3, m_rx4, m_ix, m_gD1, m_pD1, m_gD2, m_pD2, m_gD3, m_pD3, m_rD0, m_iD, m_ld2, m_st2, m_gH1, m_pH1, m_rH0, m_iH, m_gX1, m_pX1, m_gX2, m_pX2, m_gX3, m_pX3, m_rX0, m_rX4, m_rX5, m_rX6, m_rX7, m_iX, m_ld1273, m_st1273, m_ld1274, m_st1274, m_ld1275, m_st1275, m_ld1276, m_st1276, m_ld1277, m_st1277, m_ldH, zb2_s, zif_t, zopt_n, zopt_s, b_s, znm_e, lit_0, lit_1, lit_2, lit_3, lit_4, lit_5, lit_6, lit_7, lit_8, lit_9, lit_10, lit_11, lit_12, lit_13, lit_14, lit_15, lit_16, lit_17, lit_18, lit_20, lit_24, lit_26, lit_30, lit_40, lit_45, lit_46, lit_47, lit_48, lit_60, lit_63, lit_64, lit_77, lit_100, lit_140, lit_168, lit_200, lit_300, lit_400, lit_900, lit_1000, lit_1168, lit_1997, lit_3333, lit_9999, lit_10000, reduceIte, Nat.reduceEqDiff, Nat.reduceLeDiff, Nat.reduceAdd, Nat.reduceMul, nI_eqE, nI_ltE, nI_leE, zbool_0, zbool_1, zbool_b, bI_0, bI_1, hk, if_false, g1, nI_add, nI_mul, i1, sA_s, Nat.add_assoc]
theorem e_beyL {z : Nat} {B : Nat} (hb : isB B) {s : Nat → Nat} {u : Nat → Nat → Nat} {ls : Nat → List Nat} : ∀ (n fuel k c : Nat) (X : pX), StC X B s u ls → DuE X.1 → k + n = s 2 → n < fuel → ∃ V', f_X5_allHoursBeyond_4 fuel (z + B) (nI c) (nI k) (hp z X) = some (nI (c + sA (hbA s u) k n), hp z (V', X.2)) ∧ KpD X.1 V' ∧ DuE V' := by
  intro n
  induction n with
  | zero =>
    intro fuel k c X hS hd h1 h2
    obtain ⟨fuel, rfl⟩ : ∃ f, fuel = f + 1 := ⟨fuel - 1, by omega⟩
    have h3 : X.1 B 4 = nI (s 2) := hS.2.1.1.2.2.1
    have b2 := hS.2.2.2.1.2.2.1
    have h1 : k = s 2 := h1
    refine ⟨X.1, ?_, KpD.rf, hd⟩
    simp (disch := first | assumption | omega) only [f_X5_allHoursBeyond_4, f_X5_allHoursBeyond_4_body, m_gO2, m_pO2, m_gO3, m_pO3, m_gO4, m_pO4, m_rO0, m_rO1, m_rO5, m_rO6, m_rO7, m_iO, m_ldT, m_stT, m_ldS, m_ldM, m_ldL, m_lnS, m_lnM, m_gS0, m_pS0, m_gS1, m_pS1, m_gS2, m_pS2, m_gS3, m_pS3, m_gS4, m_pS4, m_gS5, m_pS5, m_gS6, m_pS6, m_rS7, m_rS8, m_iS, m_gM1, m_pM1, m_gM2, m_pM2, m_rM0, m_iM, m_gL1, m_pL1, m_rL0, m_iL, m_ldP, m_stP, m_ldR, m_stR, m_ldC, m_stC, m_ldK, m_stK, m_gx5, m_px5, m_rx0, m_rx1, m_rx2, m_rx3, m_rx4, m_ix, m_gD1, m_pD1, m_gD2, m_pD2, m_gD3, m_pD3, m_rD0, m_iD, m_ld2, m_st2, m_gH1, m_pH1, m_rH0, m_iH, m_gX1, m_pX1, m_gX2, m_pX2, m_gX3, m_pX3, m_rX0, m_rX4, m_rX5, m_rX6, m_rX7, m_iX, m_ld1273, m_st1273, m_ld1274, m_st1274, m_ld1275, m_st1275, m_ld1276, m_st1276, m_ld1277, m_st1277, m_ldH, zb2_s, zif_t, zopt_n, zopt_s, b_s, znm_e, lit_0, lit_1, lit_2, lit_3, lit_4, lit_5, lit_6, lit_7, lit_8, lit_9, lit_10, lit_11, lit_12, lit_13, lit_14, lit_15, lit_16, lit_17, lit_18, lit_20, lit_24, lit_26, lit_30, lit_40, lit_45, lit_46, lit_47, lit_48, lit_60, lit_63, lit_64, lit_77, lit_100, lit_140, lit_168, lit_200, lit_300, lit_400, lit_900, lit_1000, lit_1168, lit_1997, lit_3333, lit_9999, lit_10000, reduceIte, Nat.reduceEqDiff, Nat.reduceLeDiff, Nat.reduceAdd, Nat.reduceMul, nI_eqE, nI_ltE, nI_leE, zbool_0, zbool_1, zbool_b, bI_0, bI_1, h3, sA_0, Nat.add_zero]
    rw [if_pos (by omega)]
  | succ n ih =>
    intro fuel k c X hS hd h1 h2
    obtain ⟨fuel, rfl⟩ : ∃ f, fuel = f + 1 := ⟨fuel - 1, by omega⟩
    have h3 : X.1 B 4 = nI (s 2) := hS.2.1.1.2.2.1
    have hG := hS.2.2.2.1
    have b2 := hG.2.2.1
    obtain ⟨V1, g1, g2, g3, g4⟩ := e_duties0 (z := z) hb hS (m := k) (by omega) hd
    have hS1 := hS.kept hb g2
    obtain ⟨V', q1, q2, q3⟩ := ih fuel (k + 1) (c + hbA s u k) (V1, X.2) hS1 ⟨_, g3, g4⟩ (by omega) (by omega)
    have l2 := fun m c => e_beyL2 (z := z) hb hS1 g3 g4 (r4 := f_X5_allHoursBeyond_4 fuel) (m := m) (fun c => rfl) 6 zN 0 c (by omega) (zN_lt (by omega))
    refine ⟨V', ?_, g2.tr q2, q3⟩
    simp (disch := first | assumption | omega) only [f_X5_allHoursBeyond_4, f_X5_allHoursBeyond_4_body, m_gO2, m_pO2, m_gO3, m_pO3, m_gO4, m_pO4, m_rO0, m_rO1, m_rO5, m_rO6, m_rO7, m_iO, m_ldT, m_stT, m_ldS, m_ldM, m_ldL, m_lnS, m_lnM, m_gS0, m_pS0, m_gS1, m_pS1, m_gS2, m_pS2, m_gS3, m_pS3, m_gS4, m_pS4, m_gS5, m_pS5, m_gS6, m_pS6, m_rS7, m_rS8, m_iS, m_gM1, m_pM1, m_gM2, m_pM2, m_rM0, m_iM, m_gL1, m_pL1, m_rL0, m_iL, m_ldP, m_stP, m_ldR, m_stR, m_ldC, m_stC, m_ldK, m_stK, m_gx5, m_px5, m_rx0, m_rx1, m_rx2, m_rx3, m_rx4, m_ix, m_gD1, m_pD1, m_gD2, m_pD2, m_gD3, m_pD3, m_rD0, m_iD, m_ld2, m_st2, m_gH1, m_pH1, m_rH0, m_iH, m_gX1, m_pX1, m_gX2, m_pX2, m_gX3, m_pX3, m_rX0, m_rX4, m_rX5, m_rX6, m_rX7, m_iX, m_ld1273, m_st1273, m_ld1274, m_st1274, m_ld1275, m_st1275, m_ld1276, m_st1276, m_ld1277, m_st1277, m_ldH, zb2_s, zif_t, zopt_n, zopt_s, b_s, znm_e, lit_0, lit_1, lit_2, lit_3, lit_4, lit_5, lit_6, lit_7, lit_8, lit_9, lit_10, lit_11, lit_12, lit_13, lit_14, lit_15, lit_16, lit_17, lit_18, lit_20, lit_24, lit_26, lit_30, lit_40, lit_45, lit_46, lit_47, lit_48, lit_60, lit_63, lit_64, lit_77, lit_100, lit_140, lit_168, lit_200, lit_300, lit_400, lit_900, lit_1000, lit_1168, lit_1997, lit_3333, lit_9999, lit_10000, reduceIte, Nat.reduceEqDiff, Nat.reduceLeDiff, Nat.reduceAdd, Nat.reduceMul, nI_eqE, nI_ltE, nI_leE, zbool_0, zbool_1, zbool_b, bI_0, bI_1, h3, g1, l2, nI_add, nI_mul]
    rw [if_neg (by omega)]
    show f_X5_allHoursBeyond_4 fuel (z + B) (nI (c + hbA s u k)) (nI (k + 1)) (hp z (V1, X.2)) = _
    rw [q1, sA_s, Nat.add_assoc]
theorem e_bey {z : Nat} {X : pX} {B : Nat} (hb : isB B) {s : Nat → Nat} {u : Nat → Nat → Nat} {ls : Nat → List Nat} (hS : StC X B s u ls) (hd : DuE X.1) : ∃ V', f_X5_allHoursBeyond (z + B) (hp z X) = some (nI (sA (hbA s u) 0 (s 2)), hp z (V', X.2)) ∧ KpD X.1 V' ∧ DuE V' := by
  obtain ⟨V', g1, g2⟩ := e_beyL (z := z) hb (s 2) zN 0 0 X hS hd (by omega) (zN_lt (by have := hS.2.2.2.1.2.2.1; omega))
  exact ⟨V', by simp only [f_X5_allHoursBeyond, lit_0, lit_1, lit_2, lit_3, lit_4, lit_5, lit_6, lit_7, lit_8, lit_9, lit_10, lit_11, lit_12, lit_13, lit_14, lit_15, lit_16, lit_17, lit_18, lit_20, lit_24, lit_26, lit_30, lit_40, lit_45, lit_46, lit_47, lit_48, lit_60, lit_63, lit_64, lit_77, lit_100, lit_140, lit_168, lit_200, lit_300, lit_400, lit_900, lit_1000, lit_1168, lit_1997, lit_3333, lit_9999, lit_10000, g1, Nat.zero_add], g2⟩
/-- why member m cannot take a place of role q on the sailing of rank r -/
def rsn (s : Nat → Nat) (u : Nat → Nat → Nat) (m r q : Nat) : Nat :=
  if u r 5 ≠ 0 ∨ u r 2 < s 0 then 1 else if u r (10 + q) ≤ tkR (u r) q then 2 else if s (969 + 6 * m + q) < u r 3 then 3 else if u r 2 < s (969 + 6 * m + 4) then 4 else if u r (20 + m) ≠ 0 then 5 else if rstB (dAll u (s 7) (selD u m (some r))) s (u r 2) (u r 3) = true then 0 else 6
theorem sub_pos {a b : Nat} (ha : a < 2 ^ 30) (hb : b < 2 ^ 30) : (nI 0 < nI a - nI b) = (b < a) := by
  have t := pk_sub_toInt ha hb
  have z0 : (nI 0).toInt = 0 := by decide
  refine propext ⟨fun q => ?_, fun q => Int32.lt_iff_toInt_lt.mpr (by omega)⟩
  have q := Int32.lt_iff_toInt_lt.mp q
  omega
theorem e_reason {z : Nat} {X : pX} {B : Nat} (hb : isB B) {s : Nat → Nat} {u : Nat → Nat → Nat} {ls : Nat → List Nat} (hS : StC X B s u ls) {m r q : Nat} (hm : m < s 2) (hr : r < 48) (hq : q < 4) (hd : DuE X.1) : ∃ V', f_X5_reasonAgainst (z + B) (nI m) (z + (B + (5 + 3 * X.2.1 B r))) (nI q) (hp z X) = some (nI (rsn s u m r q), hp z (V', X.2)) ∧ KpD X.1 V' ∧ DuE V' := by
  have hG := hS.2.2.2.1
  have b2 := hG.2.2.1
  have b0 := hG.1
  have hm12 : m < 12 := by omega
  have hw1 := hS.1.1 r hr
  have hs := hS.2.1.2.1 r hr
  have hU := hS.ug r hr
  have hK := hU.1
  have k2 := hs.1 2 (by decide)
  have k3 := hs.1 3 (by decide)
  have c2 := hK.1 2
  have c3 := hK.1 3
  have c20 := hK.1 (20 + m)
  have cq := hK.1 (10 + q)
  have t12 := tkR_le (u r) q
  have s0 : X.1 B 2 = nI (s 0) := hS.2.1.1.1
  have hM := hS.2.1.2.2.1 m hm12
  have m1 := hM.2.1
  have mq := hM.1 q hq
  have bq := hG.2.2.2.2 m hm12 q (by omega)
  have b4 := hG.2.2.2.2 m hm12 4 (by omega)
  have g0 := e_memAt_n (z := z) hb hS hm
  have g1 := e_isOpen (z := z) hb hw1 hs hK.1
  have g2 := e_freeOf2 (z := z) hb hw1 hs hK.1 hq
  have g3 := e_certOf (z := z) (X := X) hb hm12 hq
  have g4 := e_seats (z := z) hb hw1 hs hK.1 hm12
  unfold rsn
  by_cases a1 : u r 5 ≠ 0 ∨ u r 2 < s 0
  · rw [if_pos a1]
    refine ⟨X.1, ?_, KpD.rf, hd⟩
    simp (config := {maxSteps := 1000000}) (disch := first | assumption | omega) only [f_X5_reasonAgainst, m_iO, m_iS, m_iM, m_gS2, m_gS3, m_gO2, m_gM1, zb2_s, zif_t, zopt_n, zopt_s, b_s, znm_e, lit_0, lit_1, lit_2, lit_3, lit_4, lit_5, lit_6, lit_7, lit_8, lit_9, lit_10, lit_11, lit_12, lit_13, lit_14, lit_15, lit_16, lit_17, lit_18, lit_20, lit_24, lit_26, lit_30, lit_40, lit_45, lit_46, lit_47, lit_48, lit_60, lit_63, lit_64, lit_77, lit_100, lit_140, lit_168, lit_200, lit_300, lit_400, lit_900, lit_1000, lit_1168, lit_1997, lit_3333, lit_9999, lit_10000, nI_eqE, nI_ltE, nI_leE, bI_0, g0, g1, k2, s0]
    by_cases a : u r 5 = 0
    · rw [if_neg (by simp [a]), if_neg (by omega)]
    · rw [if_pos (by simp [a])]
  · rw [if_neg a1]
    have a5 : u r 5 = 0 := by omega
    by_cases a2 : u r (10 + q) ≤ tkR (u r) q
    · rw [if_pos a2]
      refine ⟨X.1, ?_, KpD.rf, hd⟩
      simp (config := {maxSteps := 1000000}) (disch := first | assumption | omega) only [f_X5_reasonAgainst, m_iO, m_iS, m_iM, m_gS2, m_gS3, m_gO2, m_gM1, zb2_s, zif_t, zopt_n, zopt_s, b_s, znm_e, lit_0, lit_1, lit_2, lit_3, lit_4, lit_5, lit_6, lit_7, lit_8, lit_9, lit_10, lit_11, lit_12, lit_13, lit_14, lit_15, lit_16, lit_17, lit_18, lit_20, lit_24, lit_26, lit_30, lit_40, lit_45, lit_46, lit_47, lit_48, lit_60, lit_63, lit_64, lit_77, lit_100, lit_140, lit_168, lit_200, lit_300, lit_400, lit_900, lit_1000, lit_1168, lit_1997, lit_3333, lit_9999, lit_10000, nI_eqE, nI_ltE, nI_leE, bI_0, g0, g1, k2, s0, g2, sub_pos]
      rw [if_neg (by simp [a5]), if_pos (by omega), if_neg (by omega)]
    · rw [if_neg a2]
      by_cases a3 : s (969 + 6 * m + q) < u r 3
      · rw [if_pos a3]
        refine ⟨X.1, ?_, KpD.rf, hd⟩
        simp (config := {maxSteps := 1000000}) (disch := first | assumption | omega) only [f_X5_reasonAgainst, m_iO, m_iS, m_iM, m_gS2, m_gS3, m_gO2, m_gM1, zb2_s, zif_t, zopt_n, zopt_s, b_s, znm_e, lit_0, lit_1, lit_2, lit_3, lit_4, lit_5, lit_6, lit_7, lit_8, lit_9, lit_10, lit_11, lit_12, lit_13, lit_14, lit_15, lit_16, lit_17, lit_18, lit_20, lit_24, lit_26, lit_30, lit_40, lit_45, lit_46, lit_47, lit_48, lit_60, lit_63, lit_64, lit_77, lit_100, lit_140, lit_168, lit_200, lit_300, lit_400, lit_900, lit_1000, lit_1168, lit_1997, lit_3333, lit_9999, lit_10000, nI_eqE, nI_ltE, nI_leE, bI_0, g0, g1, k2, k3, s0, g2, sub_pos, g3, mq]
        rw [if_neg (by simp [a5]), if_pos (by omega), if_pos (by omega), if_neg (by omega)]
      · rw [if_neg a3]
        by_cases a4 : u r 2 < s (969 + 6 * m + 4)
        · rw [if_pos a4]
          refine ⟨X.1, ?_, KpD.rf, hd⟩
          simp (config := {maxSteps := 1000000}) (disch := first | assumption | omega) only [f_X5_reasonAgainst, m_iO, m_iS, m_iM, m_gS2, m_gS3, m_gO2, m_gM1, zb2_s, zif_t, zopt_n, zopt_s, b_s, znm_e, lit_0, lit_1, lit_2, lit_3, lit_4, lit_5, lit_6, lit_7, lit_8, lit_9, lit_10, lit_11, lit_12, lit_13, lit_14, lit_15, lit_16, lit_17, lit_18, lit_20, lit_24, lit_26, lit_30, lit_40, lit_45, lit_46, lit_47, lit_48, lit_60, lit_63, lit_64, lit_77, lit_100, lit_140, lit_168, lit_200, lit_300, lit_400, lit_900, lit_1000, lit_1168, lit_1997, lit_3333, lit_9999, lit_10000, nI_eqE, nI_ltE, nI_leE, bI_0, g0, g1, k2, k3, s0, g2, sub_pos, g3, mq, m1]
          rw [if_neg (by simp [a5]), if_pos (by omega), if_pos (by omega), if_pos (by omega), if_neg (by omega)]
        · rw [if_neg a4]
          by_cases a6 : u r (20 + m) ≠ 0
          · rw [if_pos a6]
            refine ⟨X.1, ?_, KpD.rf, hd⟩
            simp (config := {maxSteps := 1000000}) (disch := first | assumption | omega) only [f_X5_reasonAgainst, m_iO, m_iS, m_iM, m_gS2, m_gS3, m_gO2, m_gM1, zb2_s, zif_t, zopt_n, zopt_s, b_s, znm_e, lit_0, lit_1, lit_2, lit_3, lit_4, lit_5, lit_6, lit_7, lit_8, lit_9, lit_10, lit_11, lit_12, lit_13, lit_14, lit_15, lit_16, lit_17, lit_18, lit_20, lit_24, lit_26, lit_30, lit_40, lit_45, lit_46, lit_47, lit_48, lit_60, lit_63, lit_64, lit_77, lit_100, lit_140, lit_168, lit_200, lit_300, lit_400, lit_900, lit_1000, lit_1168, lit_1997, lit_3333, lit_9999, lit_10000, nI_eqE, nI_ltE, nI_leE, bI_0, g0, g1, k2, k3, s0, g2, sub_pos, g3, mq, m1, g4]
            rw [if_neg (by simp [a5]), if_pos (by omega), if_pos (by omega), if_pos (by omega), if_pos (by omega), if_neg (by simp [a6])]
          · rw [if_neg a6]
            obtain ⟨V1, d1, d2, d3, d4⟩ := e_duties1 (z := z) hb hS hm12 hr hd
            have hS1 := hS.kept hb d2
            have hs1 : SaC V1 B (X.2.1 B r) (u r) := hS1.2.1.2.1 r hr
            have k2' : V1 (B + (5 + 3 * X.2.1 B r)) 2 = nI (u r 2) := hs1.1 2 (by decide)
            have k3' : V1 (B + (5 + 3 * X.2.1 B r)) 3 = nI (u r 3) := hs1.1 3 (by decide)
            have h1100 := hU.2.2.2.1
            have h23 := hU.2.2.1
            have r1 := e_restsHold (z := z) (X := (V1, X.2)) hb hS1.2.1.1 (by have := hG.2.2.2.1; omega) (by have := hG.2.2.2.1; omega) (by have := hG.2.2.2.1; omega) d3 d4 (p := u r 2) (T := u r 3) (by omega) (by omega)
            refine ⟨V1, ?_, d2, ⟨_, d3, d4⟩⟩
            simp (config := {maxSteps := 1000000}) (disch := first | assumption | omega) only [f_X5_reasonAgainst, m_iO, m_iS, m_iM, m_gS2, m_gS3, m_gO2, m_gM1, zb2_s, zif_t, zopt_n, zopt_s, b_s, znm_e, lit_0, lit_1, lit_2, lit_3, lit_4, lit_5, lit_6, lit_7, lit_8, lit_9, lit_10, lit_11, lit_12, lit_13, lit_14, lit_15, lit_16, lit_17, lit_18, lit_20, lit_24, lit_26, lit_30, lit_40, lit_45, lit_46, lit_47, lit_48, lit_60, lit_63, lit_64, lit_77, lit_100, lit_140, lit_168, lit_200, lit_300, lit_400, lit_900, lit_1000, lit_1168, lit_1997, lit_3333, lit_9999, lit_10000, nI_eqE, nI_ltE, nI_leE, g0, g1, k2, k3, s0, g2, sub_pos, g3, mq, m1, g4, d1, k2', k3', rl_d, r1, bI_0]
            rw [if_neg (by simp [a5]), if_pos (by omega), if_pos (by omega), if_pos (by omega), if_pos (by omega), if_pos (by simpa using a6)]
            cases rstB (dAll u (s 7) (selD u m (some r))) s (u r 2) (u r 3)
            · rw [if_pos rfl, if_neg (by decide)]
            · rw [if_neg (by decide), if_pos rfl]
