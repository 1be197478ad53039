/-! a State in order; its lookups -/
def SG (s : Nat → Nat) : Prop := s 0 ≤ 1000 ∧ s 1 ≤ 48 ∧ s 2 ≤ 12 ∧ (s 4 ≤ 20 ∧ s 5 ≤ 12 ∧ s 6 ≤ 140 ∧ s 7 ≤ 1 ∧ s 8 ≤ 100) ∧ ∀ m, m < 12 → ∀ q, q < 5 → s (969 + 6 * m + q) < 100000
def LG (s : Nat → Nat) (ls : Nat → List Nat) : Prop := ∀ q, q < 4 → (ls q).length ≤ 12 ∧ ∀ x, x ∈ ls q → x < s 2
def StC (X : pX) (B : Nat) (s : Nat → Nat) (u : Nat → Nat → Nat) (ls : Nat → List Nat) : Prop := Ord (X.2.1 B) ∧ RepS X.1 (X.2.1 B) B s u ls ∧ UG u ∧ SG s ∧ LG s ls
def DuE (V : pV) : Prop := ∃ d, DuC V d ∧ dOk d
/-- only the hours of duty changed -/
def KpD (V V' : pV) : Prop := ∀ o, o ≠ 1 → o ≠ 2 → V' o = V o
/-- only the hours of duty and the block changed -/
def KpB (B : Nat) (V V' : pV) : Prop := ∀ o, o ≠ 1 → o ≠ 2 → (o < B ∨ B + 181 ≤ o) → V' o = V o
theorem KpD.tr {V V1 V2 : pV} (h : KpD V V1) (g : KpD V1 V2) : KpD V V2 := fun o a b => (g o a b).trans (h o a b)
theorem KpB.tr {B : Nat} {V V1 V2 : pV} (h : KpB B V V1) (g : KpB B V1 V2) : KpB B V V2 := fun o a b c => (g o a b c).trans (h o a b c)
theorem KpD.B {B : Nat} {V V' : pV} (h : KpD V V') : KpB B V V' := fun o a b _ => h o a b
theorem KpD.rf {V : pV} : KpD V V := fun _ _ _ => rfl
theorem KpB.rf {B : Nat} {V : pV} : KpB B V V := fun _ _ _ _ => rfl
theorem StC.kept {X : pX} {V' : pV} {B : Nat} {s : Nat → Nat} {u : Nat → Nat → Nat} {ls : Nat → List Nat} (hb : isB B) (h : StC X B s u ls) (hk : KpD X.1 V') : StC (V', X.2) B s u ls :=
  ⟨h.1, h.2.1.kept h.1 (fun o o1 o2 => hk o (by have := isB_lt hb; omega) (by have := isB_lt hb; omega)), h.2.2⟩
theorem DuE.kept {V V' : pV} (h : DuE V) (h1 : V' 1 = V 1) (h2 : V' 2 = V 2) : DuE V' := by
  obtain ⟨d, hd, ho⟩ := h
  exact ⟨d, by unfold DuC; rw [h1, h2]; exact hd, ho⟩
theorem nA_none {p : Nat → Bool} : ∀ (n k l : Nat), (∀ i, k ≤ i → i < k + n → p i = false) → nA p k n l = none
  | 0, _, _, _ => rfl
  | n + 1, k, l, h => by rw [nA_f (h k (by omega) (by omega))]; exact nA_none n (k + 1) l (fun i a b => h i (by omega) (by omega))
theorem nA_some {p : Nat → Bool} {i : Nat} (hi : p i = true) : ∀ (n k : Nat), k ≤ i → i < k + n → (∀ j, k ≤ j → j < i → p j = false) → nA p k n 0 = some i
  | 0, _, _, _, _ => by omega
  | n + 1, k, h1, h2, h => by
    by_cases c : k = i
    · rw [c, nA_t0 hi]
    · rw [nA_f (h k (by omega) (by omega))]
      exact nA_some hi n (k + 1) (by omega) (by omega) (fun j a b => h j (by omega) b)
theorem e_memAt_n {z : Nat} {X : pX} {B : Nat} (hb : isB B) {s : Nat → Nat} {u : Nat → Nat → Nat} {ls : Nat → List Nat} (hS : StC X B s u ls) {m : Nat} (hm : m < s 2) : f_X5_memberAt (z + B) (nI m) (hp z X) = some (some (z + (B + (149 + 2 * m))), hp z X) := by
  have h2 : X.1 B 4 = nI (s 2) := hS.2.1.1.2.2.1
  have b2 := hS.2.2.2.1.2.2.1
  simp (disch := first | assumption | omega) only [f_X5_memberAt_24, f_X5_memberAt, m_gO2, m_pO2, m_gO3, m_pO3, m_gO4, m_pO4, m_rO0, m_rO1, m_rO5, m_rO6, m_rO7, m_iO, m_ldT, m_stT, m_ldS, m_ldM, m_ldL, m_lnS, m_lnM, m_gS0, m_pS0, m_gS1, m_pS1, m_gS2, m_pS2, m_gS3, m_pS3, m_gS4, m_pS4, m_gS5, m_pS5, m_gS6, m_pS6, m_rS7, m_rS8, m_iS, m_gM1, m_pM1, m_gM2, m_pM2, m_rM0, m_iM, m_gL1, m_pL1, m_rL0, m_iL, m_ldP, m_stP, m_ldR, m_stR, m_ldC, m_stC, m_ldK, m_stK, m_gx5, m_px5, m_rx0, m_rx1, m_rx2, m_rx3, m_rx4, m_ix, m_gD1, m_pD1, m_gD2, m_pD2, m_gD3, m_pD3, m_rD0, m_iD, m_ld2, m_st2, m_gH1, m_pH1, m_rH0, m_iH, m_gX1, m_pX1, m_gX2, m_pX2, m_gX3, m_pX3, m_rX0, m_rX4, m_rX5, m_rX6, m_rX7, m_iX, m_ld1273, m_st1273, m_ld1274, m_st1274, m_ld1275, m_st1275, m_ld1276, m_st1276, m_ld1277, m_st1277, m_ldH, zb2_s, zif_t, zopt_n, zopt_s, b_s, znm_e, lit_0, lit_1, lit_2, lit_3, lit_4, lit_5, lit_6, lit_7, lit_8, lit_9, lit_10, lit_11, lit_12, lit_13, lit_14, lit_15, lit_16, lit_17, lit_18, lit_20, lit_24, lit_26, lit_30, lit_40, lit_45, lit_46, lit_47, lit_48, lit_60, lit_63, lit_64, lit_77, lit_100, lit_140, lit_168, lit_200, lit_300, lit_400, lit_900, lit_1000, lit_1168, lit_1997, lit_3333, lit_9999, lit_10000, reduceIte, Nat.reduceEqDiff, Nat.reduceLeDiff, Nat.reduceAdd, Nat.reduceMul, nI_eqE, nI_ltE, nI_leE, zbool_0, zbool_1, zbool_b, bI_0, bI_1, e_isMem_n (show m < 12 by omega), h2]
  rw [if_neg (by omega)]
theorem e_memAt_x {z : Nat} {X : pX} {B : Nat} (hb : isB B) {s : Nat → Nat} {u : Nat → Nat → Nat} {ls : Nat → List Nat} (hS : StC X B s u ls) {x : Int32} (hx : ¬ (nI 0 ≤ x ∧ x < nI (s 2))) : f_X5_memberAt (z + B) x (hp z X) = some (none, hp z X) := by
  have h2 : X.1 B 4 = nI (s 2) := hS.2.1.1.2.2.1
  have b2 := hS.2.2.2.1.2.2.1
  by_cases c : nI 0 ≤ x ∧ x < nI 12
  · obtain ⟨m, hm, rfl⟩ := in_ex c (by omega)
    simp (disch := first | assumption | omega) only [f_X5_memberAt_24, f_X5_memberAt, m_gO2, m_pO2, m_gO3, m_pO3, m_gO4, m_pO4, m_rO0, m_rO1, m_rO5, m_rO6, m_rO7, m_iO, m_ldT, m_stT, m_ldS, m_ldM, m_ldL, m_lnS, m_lnM, m_gS0, m_pS0, m_gS1, m_pS1, m_gS2, m_pS2, m_gS3, m_pS3, m_gS4, m_pS4, m_gS5, m_pS5, m_gS6, m_pS6, m_rS7, m_rS8, m_iS, m_gM1, m_pM1, m_gM2, m_pM2, m_rM0, m_iM, m_gL1, m_pL1, m_rL0, m_iL, m_ldP, m_stP, m_ldR, m_stR, m_ldC, m_stC, m_ldK, m_stK, m_gx5, m_px5, m_rx0, m_rx1, m_rx2, m_rx3, m_rx4, m_ix, m_gD1, m_pD1, m_gD2, m_pD2, m_gD3, m_pD3, m_rD0, m_iD, m_ld2, m_st2, m_gH1, m_pH1, m_rH0, m_iH, m_gX1, m_pX1, m_gX2, m_pX2, m_gX3, m_pX3, m_rX0, m_rX4, m_rX5, m_rX6, m_rX7, m_iX, m_ld1273, m_st1273, m_ld1274, m_st1274, m_ld1275, m_st1275, m_ld1276, m_st1276, m_ld1277, m_st1277, m_ldH, zb2_s, zif_t, zopt_n, zopt_s, b_s, znm_e, lit_0, lit_1, lit_2, lit_3, lit_4, lit_5, lit_6, lit_7, lit_8, lit_9, lit_10, lit_11, lit_12, lit_13, lit_14, lit_15, lit_16, lit_17, lit_18, lit_20, lit_24, lit_26, lit_30, lit_40, lit_45, lit_46, lit_47, lit_48, lit_60, lit_63, lit_64, lit_77, lit_100, lit_140, lit_168, lit_200, lit_300, lit_400, lit_900, lit_1000, lit_1168, lit_1997, lit_3333, lit_9999, lit_10000, reduceIte, Nat.reduceEqDiff, Nat.reduceLeDiff, Nat.reduceAdd, Nat.reduceMul, nI_eqE, nI_ltE, nI_leE, zbool_0, zbool_1, zbool_b, bI_0, bI_1, e_isMem_n hm, h2]
    rw [if_pos (by
      rcases Nat.lt_or_ge m (s 2) with q | q
      · exact absurd (in_nI q (by omega)) hx
      · exact q)]
  · simp (disch := first | assumption | omega) only [f_X5_memberAt_24, f_X5_memberAt, m_gO2, m_pO2, m_gO3, m_pO3, m_gO4, m_pO4, m_rO0, m_rO1, m_rO5, m_rO6, m_rO7, m_iO, m_ldT, m_stT, m_ldS, m_ldM, m_ldL, m_lnS, m_lnM, m_gS0, m_pS0, m_gS1, m_pS1, m_gS2, m_pS2, m_gS3, m_pS3, m_gS4, m_pS4, m_gS5, m_pS5, m_gS6, m_pS6, m_rS7, m_rS8, m_iS, m_gM1, m_pM1, m_gM2, m_pM2, m_rM0, m_iM, m_gL1, m_pL1, m_rL0, m_iL, m_ldP, m_stP, m_ldR, m_stR, m_ldC, m_stC, m_ldK, m_stK, m_gx5, m_px5, m_rx0, m_rx1, m_rx2, m_rx3, m_rx4, m_ix, m_gD1, m_pD1, m_gD2, m_pD2, m_gD3, m_pD3, m_rD0, m_iD, m_ld2, m_st2, m_gH1, m_pH1, m_rH0, m_iH, m_gX1, m_pX1, m_gX2, m_pX2, m_gX3, m_pX3, m_rX0, m_rX4, m_rX5, m_rX6, m_rX7, m_iX, m_ld1273, m_st1273, m_ld1274, m_st1274, m_ld1275, m_st1275, m_ld1276, m_st1276, m_ld1277, m_st1277, m_ldH, zb2_s, zif_t, zopt_n, zopt_s, b_s, znm_e, lit_0, lit_1, lit_2, lit_3, lit_4, lit_5, lit_6, lit_7, lit_8, lit_9, lit_10, lit_11, lit_12, lit_13, lit_14, lit_15, lit_16, lit_17, lit_18, lit_20, lit_24, lit_26, lit_30, lit_40, lit_45, lit_46, lit_47, lit_48, lit_60, lit_63, lit_64, lit_77, lit_100, lit_140, lit_168, lit_200, lit_300, lit_400, lit_900, lit_1000, lit_1168, lit_1997, lit_3333, lit_9999, lit_10000, reduceIte, Nat.reduceEqDiff, Nat.reduceLeDiff, Nat.reduceAdd, Nat.reduceMul, nI_eqE, nI_ltE, nI_leE, zbool_0, zbool_1, zbool_b, bI_0, bI_1, e_isMem, bI_f (decide_eq_false c)]
theorem e_ladOf_n {z : Nat} {X : pX} {B : Nat} (hb : isB B) {s : Nat → Nat} {u : Nat → Nat → Nat} {ls : Nat → List Nat} (hS : StC X B s u ls) {q : Nat} (hq : q < 4) : f_X5_ladderOf (z + B) (nI q) (hp z X) = some (some (z + (B + (173 + 2 * q))), hp z X) := by
  simp (disch := first | assumption | omega) only [f_X5_ladderOf, m_gO2, m_pO2, m_gO3, m_pO3, m_gO4, m_pO4, m_rO0, m_rO1, m_rO5, m_rO6, m_rO7, m_iO, m_ldT, m_stT, m_ldS, m_ldM, m_ldL, m_lnS, m_lnM, m_gS0, m_pS0, m_gS1, m_pS1, m_gS2, m_pS2, m_gS3, m_pS3, m_gS4, m_pS4, m_gS5, m_pS5, m_gS6, m_pS6, m_rS7, m_rS8, m_iS, m_gM1, m_pM1, m_gM2, m_pM2, m_rM0, m_iM, m_gL1, m_pL1, m_rL0, m_iL, m_ldP, m_stP, m_ldR, m_stR, m_ldC, m_stC, m_ldK, m_stK, m_gx5, m_px5, m_rx0, m_rx1, m_rx2, m_rx3, m_rx4, m_ix, m_gD1, m_pD1, m_gD2, m_pD2, m_gD3, m_pD3, m_rD0, m_iD, m_ld2, m_st2, m_gH1, m_pH1, m_rH0, m_iH, m_gX1, m_pX1, m_gX2, m_pX2, m_gX3, m_pX3, m_rX0, m_rX4, m_rX5, m_rX6, m_rX7, m_iX, m_ld1273, m_st1273, m_ld1274, m_st1274, m_ld1275, m_st1275, m_ld1276, m_st1276, m_ld1277, m_st1277, m_ldH, zb2_s, zif_t, zopt_n, zopt_s, b_s, znm_e, lit_0, lit_1, lit_2, lit_3, lit_4, lit_5, lit_6, lit_7, lit_8, lit_9, lit_10, lit_11, lit_12, lit_13, lit_14, lit_15, lit_16, lit_17, lit_18, lit_20, lit_24, lit_26, lit_30, lit_40, lit_45, lit_46, lit_47, lit_48, lit_60, lit_63, lit_64, lit_77, lit_100, lit_140, lit_168, lit_200, lit_300, lit_400, lit_900, lit_1000, lit_1168, lit_1997, lit_3333, lit_9999, lit_10000, reduceIte, Nat.reduceEqDiff, Nat.reduceLeDiff, Nat.reduceAdd, Nat.reduceMul, nI_eqE, nI_ltE, nI_leE, zbool_0, zbool_1, zbool_b, bI_0, bI_1, e_isRole_n hq]
theorem e_ladOf_x {z : Nat} {X : pX} {B : Nat} {x : Int32} (hx : ¬ (nI 0 ≤ x ∧ x < nI 4)) : f_X5_ladderOf (z + B) x (hp z X) = some (none, hp z X) := by
  simp (disch := first | assumption | omega) only [f_X5_ladderOf, m_gO2, m_pO2, m_gO3, m_pO3, m_gO4, m_pO4, m_rO0, m_rO1, m_rO5, m_rO6, m_rO7, m_iO, m_ldT, m_stT, m_ldS, m_ldM, m_ldL, m_lnS, m_lnM, m_gS0, m_pS0, m_gS1, m_pS1, m_gS2, m_pS2, m_gS3, m_pS3, m_gS4, m_pS4, m_gS5, m_pS5, m_gS6, m_pS6, m_rS7, m_rS8, m_iS, m_gM1, m_pM1, m_gM2, m_pM2, m_rM0, m_iM, m_gL1, m_pL1, m_rL0, m_iL, m_ldP, m_stP, m_ldR, m_stR, m_ldC, m_stC, m_ldK, m_stK, m_gx5, m_px5, m_rx0, m_rx1, m_rx2, m_rx3, m_rx4, m_ix, m_gD1, m_pD1, m_gD2, m_pD2, m_gD3, m_pD3, m_rD0, m_iD, m_ld2, m_st2, m_gH1, m_pH1, m_rH0, m_iH, m_gX1, m_pX1, m_gX2, m_pX2, m_gX3, m_pX3, m_rX0, m_rX4, m_rX5, m_rX6, m_rX7, m_iX, m_ld1273, m_st1273, m_ld1274, m_st1274, m_ld1275, m_st1275, m_ld1276, m_st1276, m_ld1277, m_st1277, m_ldH, zb2_s, zif_t, zopt_n, zopt_s, b_s, znm_e, lit_0, lit_1, lit_2, lit_3, lit_4, lit_5, lit_6, lit_7, lit_8, lit_9, lit_10, lit_11, lit_12, lit_13, lit_14, lit_15, lit_16, lit_17, lit_18, lit_20, lit_24, lit_26, lit_30, lit_40, lit_45, lit_46, lit_47, lit_48, lit_60, lit_63, lit_64, lit_77, lit_100, lit_140, lit_168, lit_200, lit_300, lit_400, lit_900, lit_1000, lit_1168, lit_1997, lit_3333, lit_9999, lit_10000, reduceIte, Nat.reduceEqDiff, Nat.reduceLeDiff, Nat.reduceAdd, Nat.reduceMul, nI_eqE, nI_ltE, nI_leE, zbool_0, zbool_1, zbool_b, bI_0, bI_1, e_isRole, bI_f (decide_eq_false hx)]
theorem e_sailAtL {z : Nat} {X : pX} {B : Nat} (hb : isB B) {s : Nat → Nat} {u : Nat → Nat → Nat} {ls : Nat → List Nat} (hS : StC X B s u ls) {x : Int32} : ∀ (n fuel k : Nat), k + n = 48 → n < fuel → f_X5_sailingAt_11 fuel x (z + (B + 2)) (nI 48) (nI k) (hp z X) = some ((nA (fun r => decide (u r 5 ≠ 3 ∧ nI (u r 0) = x)) k n 0).map (fun r => z + (B + (5 + 3 * X.2.1 B r))), hp z X) := by
  intro n
  obtain ⟨hw, hR, hU, hG, hL⟩ := hS
  induction n with
  | zero =>
    intro fuel k h1 h2
    obtain ⟨fuel, rfl⟩ : ∃ f, fuel = f + 1 := ⟨fuel - 1, by omega⟩
    obtain rfl : k = 48 := by omega
    simp (disch := first | assumption | omega) only [f_X5_sailingAt_11, f_X5_sailingAt_11_body, zb2_s, zif_t, zopt_n, zopt_s, b_s, znm_e, lit_0, lit_1, lit_2, lit_3, lit_4, lit_5, lit_6, lit_7, lit_8, lit_9, lit_10, lit_11, lit_12, lit_13, lit_14, lit_15, lit_16, lit_17, lit_18, lit_20, lit_24, lit_26, lit_30, lit_40, lit_45, lit_46, lit_47, lit_48, lit_60, lit_63, lit_64, lit_77, lit_100, lit_140, lit_168, lit_200, lit_300, lit_400, lit_900, lit_1000, lit_1168, lit_1997, lit_3333, lit_9999, lit_10000, reduceIte, Nat.reduceEqDiff, Nat.reduceLeDiff, Nat.reduceAdd, Nat.reduceMul, nI_eqE, nI_ltE, nI_leE, zbool_0, zbool_1, zbool_b, bI_0, bI_1, Nat.le_refl, if_true, nA_0, Option.map]
  | succ n ih =>
    intro fuel k h1 h2
    obtain ⟨fuel, rfl⟩ : ∃ f, fuel = f + 1 := ⟨fuel - 1, by omega⟩
    have hw1 := hw.1 k (by omega)
    have hs := hR.2.1 k (by omega)
    have hK := (hU k (by omega)).1
    have h0 := hs.1 0 (by decide)
    have hk : ¬ 48 ≤ k := by omega
    have i1 := ih fuel (k + 1) (by omega) (by omega)
    have g0 := e_hasCome (z := z) hb hw1 hs hK.1
    simp (disch := first | assumption | omega) only [f_X5_sailingAt_11, f_X5_sailingAt_11_body, f_X5_sailingAt_43, m_gO2, m_pO2, m_gO3, m_pO3, m_gO4, m_pO4, m_rO0, m_rO1, m_rO5, m_rO6, m_rO7, m_iO, m_ldT, m_stT, m_ldS, m_ldM, m_ldL, m_lnS, m_lnM, m_gS0, m_pS0, m_gS1, m_pS1, m_gS2, m_pS2, m_gS3, m_pS3, m_gS4, m_pS4, m_gS5, m_pS5, m_gS6, m_pS6, m_rS7, m_rS8, m_iS, m_gM1, m_pM1, m_gM2, m_pM2, m_rM0, m_iM, m_gL1, m_pL1, m_rL0, m_iL, m_ldP, m_stP, m_ldR, m_stR, m_ldC, m_stC, m_ldK, m_stK, m_gx5, m_px5, m_rx0, m_rx1, m_rx2, m_rx3, m_rx4, m_ix, m_gD1, m_pD1, m_gD2, m_pD2, m_gD3, m_pD3, m_rD0, m_iD, m_ld2, m_st2, m_gH1, m_pH1, m_rH0, m_iH, m_gX1, m_pX1, m_gX2, m_pX2, m_gX3, m_pX3, m_rX0, m_rX4, m_rX5, m_rX6, m_rX7, m_iX, m_ld1273, m_st1273, m_ld1274, m_st1274, m_ld1275, m_st1275, m_ld1276, m_st1276, m_ld1277, m_st1277, m_ldH, zb2_s, zif_t, zopt_n, zopt_s, b_s, znm_e, lit_0, lit_1, lit_2, lit_3, lit_4, lit_5, lit_6, lit_7, lit_8, lit_9, lit_10, lit_11, lit_12, lit_13, lit_14, lit_15, lit_16, lit_17, lit_18, lit_20, lit_24, lit_26, lit_30, lit_40, lit_45, lit_46, lit_47, lit_48, lit_60, lit_63, lit_64, lit_77, lit_100, lit_140, lit_168, lit_200, lit_300, lit_400, lit_900, lit_1000, lit_1168, lit_1997, lit_3333, lit_9999, lit_10000, reduceIte, Nat.reduceEqDiff, Nat.reduceLeDiff, Nat.reduceAdd, Nat.reduceMul, nI_eqE, nI_ltE, nI_leE, zbool_0, zbool_1, zbool_b, bI_0, bI_1, hk, if_false, h0, g0, nI_add, nI_mul, i1]
    by_cases q : u k 5 = 3
    · rw [if_pos (by simp [q]), nA_f (by simp [q])]
    · rw [if_neg (by simp [q])]
      by_cases q2 : nI (u k 0) = x
      · rw [if_pos q2, nA_t0 (by simp [q, q2])]; rfl
      · rw [if_neg q2, nA_f (by simp [q2])]
theorem e_sailAt {z : Nat} {X : pX} {B : Nat} (hb : isB B) {s : Nat → Nat} {u : Nat → Nat → Nat} {ls : Nat → List Nat} (hS : StC X B s u ls) {x : Int32} : f_X5_sailingAt (z + B) x (hp z X) = some ((nA (fun r => decide (u r 5 ≠ 3 ∧ nI (u r 0) = x)) 0 48 0).map (fun r => z + (B + (5 + 3 * X.2.1 B r))), hp z X) := by
  have h := e_sailAtL (z := z) hb hS (x := x) 48 zN 0 rfl (zN_lt (by omega))
  simp (disch := first | assumption | omega) only [f_X5_sailingAt, m_gO2, m_pO2, m_gO3, m_pO3, m_gO4, m_pO4, m_rO0, m_rO1, m_rO5, m_rO6, m_rO7, m_iO, m_ldT, m_stT, m_ldS, m_ldM, m_ldL, m_lnS, m_lnM, m_gS0, m_pS0, m_gS1, m_pS1, m_gS2, m_pS2, m_gS3, m_pS3, m_gS4, m_pS4, m_gS5, m_pS5, m_gS6, m_pS6, m_rS7, m_rS8, m_iS, m_gM1, m_pM1, m_gM2, m_pM2, m_rM0, m_iM, m_gL1, m_pL1, m_rL0, m_iL, m_ldP, m_stP, m_ldR, m_stR, m_ldC, m_stC, m_ldK, m_stK, m_gx5, m_px5, m_rx0, m_rx1, m_rx2, m_rx3, m_rx4, m_ix, m_gD1, m_pD1, m_gD2, m_pD2, m_gD3, m_pD3, m_rD0, m_iD, m_ld2, m_st2, m_gH1, m_pH1, m_rH0, m_iH, m_gX1, m_pX1, m_gX2, m_pX2, m_gX3, m_pX3, m_rX0, m_rX4, m_rX5, m_rX6, m_rX7, m_iX, m_ld1273, m_st1273, m_ld1274, m_st1274, m_ld1275, m_st1275, m_ld1276, m_st1276, m_ld1277, m_st1277, m_ldH, zb2_s, zif_t, zopt_n, zopt_s, b_s, znm_e, lit_0, lit_1, lit_2, lit_3, lit_4, lit_5, lit_6, lit_7, lit_8, lit_9, lit_10, lit_11, lit_12, lit_13, lit_14, lit_15, lit_16, lit_17, lit_18, lit_20, lit_24, lit_26, lit_30, lit_40, lit_45, lit_46, lit_47, lit_48, lit_60, lit_63, lit_64, lit_77, lit_100, lit_140, lit_168, lit_200, lit_300, lit_400, lit_900, lit_1000, lit_1168, lit_1997, lit_3333, lit_9999, lit_10000, h]
def oA (p : Nat → Bool) : Nat → Nat → Bool
  | _, 0 => false
  | k, n + 1 => p k || oA p (k + 1) n
theorem oA_iff {p : Nat → Bool} : ∀ {n k : Nat}, oA p k n = true ↔ ∃ i, k ≤ i ∧ i < k + n ∧ p i = true
  | 0, k => ⟨fun h => (by cases h), fun ⟨i, a, b, _⟩ => (by omega)⟩
  | n + 1, k => by
    show (p k || oA p (k + 1) n) = true ↔ _
    rw [Bool.or_eq_true, oA_iff (n := n) (k := k + 1)]
    constructor
    · rintro (h | ⟨i, a, b, c⟩)
      · exact ⟨k, Nat.le_refl _, by omega, h⟩
      · exact ⟨i, by omega, by omega, c⟩
    · rintro ⟨i, a, b, c⟩
      by_cases e : i = k
      · exact Or.inl (e ▸ c)
      · exact Or.inr ⟨i, by omega, by omega, c⟩
theorem oA_t {p : Nat → Bool} {k n : Nat} (h : p k = true) : oA p k (n + 1) = true := by show (p k || _) = _; rw [h]; rfl
theorem oA_f {p : Nat → Bool} {k n : Nat} (h : p k = false) : oA p k (n + 1) = oA p (k + 1) n := by show (p k || _) = _; rw [h]; rfl
theorem e_needsL {z : Nat} {X : pX} {B : Nat} (hb : isB B) {s : Nat → Nat} {u : Nat → Nat → Nat} {ls : Nat → List Nat} (hS : StC X B s u ls) {m q e : Nat} (hm : m < 12) (hq : q < 4) (he : e < 100000) : ∀ (n fuel k : Nat), k + n = 48 → n < fuel → f_X5_needsCertificateAfter_14 fuel (nI m) (nI q) (nI e) (z + (B + 2)) (nI 48) (nI k) (hp z X) = some (bI (oA (fun r => decide (u r 5 = 0 ∧ e < u r 3 ∧ u r (20 + m) = q + 1)) k n), hp z X) := by
  intro n
  obtain ⟨hw, hR, hU, hG, hL⟩ := hS
  induction n with
  | zero =>
    intro fuel k h1 h2
    obtain ⟨fuel, rfl⟩ : ∃ f, fuel = f + 1 := ⟨fuel - 1, by omega⟩
    obtain rfl : k = 48 := by omega
    simp (disch := first | assumption | omega) only [f_X5_needsCertificateAfter_14, f_X5_needsCertificateAfter_14_body, zb2_s, zif_t, zopt_n, zopt_s, b_s, znm_e, lit_0, lit_1, lit_2, lit_3, lit_4, lit_5, lit_6, lit_7, lit_8, lit_9, lit_10, lit_11, lit_12, lit_13, lit_14, lit_15, lit_16, lit_17, lit_18, lit_20, lit_24, lit_26, lit_30, lit_40, lit_45, lit_46, lit_47, lit_48, lit_60, lit_63, lit_64, lit_77, lit_100, lit_140, lit_168, lit_200, lit_300, lit_400, lit_900, lit_1000, lit_1168, lit_1997, lit_3333, lit_9999, lit_10000, reduceIte, Nat.reduceEqDiff, Nat.reduceLeDiff, Nat.reduceAdd, Nat.reduceMul, nI_eqE, nI_ltE, nI_leE, zbool_0, zbool_1, zbool_b, bI_0, bI_1, Nat.le_refl, if_true]
    rfl
  | succ n ih =>
    intro fuel k h1 h2
    obtain ⟨fuel, rfl⟩ : ∃ f, fuel = f + 1 := ⟨fuel - 1, by omega⟩
    have hw1 := hw.1 k (by omega)
    have hs := hR.2.1 k (by omega)
    have hK := (hU k (by omega)).1
    have h3 := hs.1 3 (by decide)
    have b3 := hK.1 3
    have b4 := hK.1 (20 + m)
    have hk : ¬ 48 ≤ k := by omega
    have i1 := ih fuel (k + 1) (by omega) (by omega)
    have g0 := e_isOpen (z := z) hb hw1 hs hK.1
    have g1 := e_roleOf (z := z) hb hw1 hs hK.1 hm
    simp (disch := first | assumption | omega) only [f_X5_needsCertificateAfter_14, f_X5_needsCertificateAfter_14_body, f_X5_needsCertificateAfter_57, m_gO2, m_pO2, m_gO3, m_pO3, m_gO4, m_pO4, m_rO0, m_rO1, m_rO5, m_rO6, m_rO7, m_iO, m_ldT, m_stT, m_ldS, m_ldM, m_ldL, m_lnS, m_lnM, m_gS0, m_pS0, m_gS1, m_pS1, m_gS2, m_pS2, m_gS3, m_pS3, m_gS4, m_pS4, m_gS5, m_pS5, m_gS6, m_pS6, m_rS7, m_rS8, m_iS, m_gM1, m_pM1, m_gM2, m_pM2, m_rM0, m_iM, m_gL1, m_pL1, m_rL0, m_iL, m_ldP, m_stP, m_ldR, m_stR, m_ldC, m_stC, m_ldK, m_stK, m_gx5, m_px5, m_rx0, m_rx1, m_rx2, m_rx3, m_rx4, m_ix, m_gD1, m_pD1, m_gD2, m_pD2, m_gD3, m_pD3, m_rD0, m_iD, m_ld2, m_st2, m_gH1, m_pH1, m_rH0, m_iH, m_gX1, m_pX1, m_gX2, m_pX2, m_gX3, m_pX3, m_rX0, m_rX4, m_rX5, m_rX6, m_rX7, m_iX, m_ld1273, m_st1273, m_ld1274, m_st1274, m_ld1275, m_st1275, m_ld1276, m_st1276, m_ld1277, m_st1277, m_ldH, zb2_s, zif_t, zopt_n, zopt_s, b_s, znm_e, lit_0, lit_1, lit_2, lit_3, lit_4, lit_5, lit_6, lit_7, lit_8, lit_9, lit_10, lit_11, lit_12, lit_13, lit_14, lit_15, lit_16, lit_17, lit_18, lit_20, lit_24, lit_26, lit_30, lit_40, lit_45, lit_46, lit_47, lit_48, lit_60, lit_63, lit_64, lit_77, lit_100, lit_140, lit_168, lit_200, lit_300, lit_400, lit_900, lit_1000, lit_1168, lit_1997, lit_3333, lit_9999, lit_10000, reduceIte, Nat.reduceEqDiff, Nat.reduceLeDiff, Nat.reduceAdd, Nat.reduceMul, nI_eqE, nI_ltE, nI_leE, zbool_0, zbool_1, zbool_b, bI_0, bI_1, hk, if_false, h3, g0, g1, rl_r, nI_add, nI_mul, i1]
    by_cases q0 : u k 5 = 0 ∧ e < u k 3 ∧ u k (20 + m) = q + 1
    · rw [if_neg (by simp [q0]), if_neg (by omega), if_pos q0.2.2, oA_t (by simp [q0])]
      rfl
    · rw [oA_f (decide_eq_false q0)]
      by_cases q1 : u k 5 = 0
      · rw [if_neg (by simp [q1])]
        by_cases q2 : e < u k 3
        · rw [if_neg (by omega), if_neg (fun q3 => q0 ⟨q1, q2, q3⟩)]
        · rw [if_pos (by omega)]
      · rw [if_pos (by simp [q1])]
theorem e_needs {z : Nat} {X : pX} {B : Nat} (hb : isB B) {s : Nat → Nat} {u : Nat → Nat → Nat} {ls : Nat → List Nat} (hS : StC X B s u ls) {m q e : Nat} (hm : m < 12) (hq : q < 4) (he : e < 100000) : f_X5_needsCertificateAfter (z + B) (nI m) (nI q) (nI e) (hp z X) = some (bI (oA (fun r => decide (u r 5 = 0 ∧ e < u r 3 ∧ u r (20 + m) = q + 1)) 0 48), hp z X) := by
  have h := e_needsL (z := z) hb hS hm hq he 48 zN 0 rfl (zN_lt (by omega))
  simp (disch := first | assumption | omega) only [f_X5_needsCertificateAfter, m_gO2, m_pO2, m_gO3, m_pO3, m_gO4, m_pO4, m_rO0, m_rO1, m_rO5, m_rO6, m_rO7, m_iO, m_ldT, m_stT, m_ldS, m_ldM, m_ldL, m_lnS, m_lnM, m_gS0, m_pS0, m_gS1, m_pS1, m_gS2, m_pS2, m_gS3, m_pS3, m_gS4, m_pS4, m_gS5, m_pS5, m_gS6, m_pS6, m_rS7, m_rS8, m_iS, m_gM1, m_pM1, m_gM2, m_pM2, m_rM0, m_iM, m_gL1, m_pL1, m_rL0, m_iL, m_ldP, m_stP, m_ldR, m_stR, m_ldC, m_stC, m_ldK, m_stK, m_gx5, m_px5, m_rx0, m_rx1, m_rx2, m_rx3, m_rx4, m_ix, m_gD1, m_pD1, m_gD2, m_pD2, m_gD3, m_pD3, m_rD0, m_iD, m_ld2, m_st2, m_gH1, m_pH1, m_rH0, m_iH, m_gX1, m_pX1, m_gX2, m_pX2, m_gX3, m_pX3, m_rX0, m_rX4, m_rX5, m_rX6, m_rX7, m_iX, m_ld1273, m_st1273, m_ld1274, m_st1274, m_ld1275, m_st1275, m_ld1276, m_st1276, m_ld1277, m_st1277, m_ldH, zb2_s, zif_t, zopt_n, zopt_s, b_s, znm_e, lit_0, lit_1, lit_2, lit_3, lit_4, lit_5, lit_6, lit_7, lit_8, lit_9, lit_10, lit_11, lit_12, lit_13, lit_14, lit_15, lit_16, lit_17, lit_18, lit_20, lit_24, lit_26, lit_30, lit_40, lit_45, lit_46, lit_47, lit_48, lit_60, lit_63, lit_64, lit_77, lit_100, lit_140, lit_168, lit_200, lit_300, lit_400, lit_900, lit_1000, lit_1168, lit_1997, lit_3333, lit_9999, lit_10000, h]
theorem e_sickNL {z : Nat} {X : pX} {B : Nat} (hb : isB B) {s : Nat → Nat} {u : Nat → Nat → Nat} {ls : Nat → List Nat} (hS : StC X B s u ls) : ∀ (n fuel k c : Nat), k + n = 12 → n < fuel → f_X5_membersSickNow_13 fuel (z + B) (nI c) (z + (B + 3)) (nI 12) (nI k) (hp z X) = some (nI (c + cA (fun m => decide (s 0 < s (969 + 6 * m + 4))) k n), hp z X) := by
  intro n
  obtain ⟨hw, hR, hU, hG, hL⟩ := hS
  induction n with
  | zero =>
    intro fuel k c h1 h2
    obtain ⟨fuel, rfl⟩ : ∃ f, fuel = f + 1 := ⟨fuel - 1, by omega⟩
    obtain rfl : k = 12 := by omega
    simp (disch := first | assumption | omega) only [f_X5_membersSickNow_13, f_X5_membersSickNow_13_body, zb2_s, zif_t, zopt_n, zopt_s, b_s, znm_e, lit_0, lit_1, lit_2, lit_3, lit_4, lit_5, lit_6, lit_7, lit_8, lit_9, lit_10, lit_11, lit_12, lit_13, lit_14, lit_15, lit_16, lit_17, lit_18, lit_20, lit_24, lit_26, lit_30, lit_40, lit_45, lit_46, lit_47, lit_48, lit_60, lit_63, lit_64, lit_77, lit_100, lit_140, lit_168, lit_200, lit_300, lit_400, lit_900, lit_1000, lit_1168, lit_1997, lit_3333, lit_9999, lit_10000, reduceIte, Nat.reduceEqDiff, Nat.reduceLeDiff, Nat.reduceAdd, Nat.reduceMul, nI_eqE, nI_ltE, nI_leE, zbool_0, zbool_1, zbool_b, bI_0, bI_1, Nat.le_refl, if_true, cA_0, Nat.add_zero]
  | succ n ih =>
    intro fuel k c h1 h2
    obtain ⟨fuel, rfl⟩ : ∃ f, fuel = f + 1 := ⟨fuel - 1, by omega⟩
    have h0 : X.1 B 2 = nI (s 0) := hR.1.1
    have h3 := (hR.2.2.1 k (by omega)).2.1
    have b3 := hG.2.2.2.2 k (by omega) 4 (by omega)
    have b0 := hG.1
    have hk : ¬ 12 ≤ k := by omega
    have i1 := fun c => ih fuel (k + 1) c (by omega) (by omega)
    simp (disch := first | assumption | omega) only [f_X5_membersSickNow_13, f_X5_membersSickNow_13_body, f_X5_membersSickNow_40, m_gO2, m_pO2, m_gO3, m_pO3, m_gO4, m_pO4, m_rO0, m_rO1, m_rO5, m_rO6, m_rO7, m_iO, m_ldT, m_stT, m_ldS, m_ldM, m_ldL, m_lnS, m_lnM, m_gS0, m_pS0, m_gS1, m_pS1, m_gS2, m_pS2, m_gS3, m_pS3, m_gS4, m_pS4, m_gS5, m_pS5, m_gS6, m_pS6, m_rS7, m_rS8, m_iS, m_gM1, m_pM1, m_gM2, m_pM2, m_rM0, m_iM, m_gL1, m_pL1, m_rL0, m_iL, m_ldP, m_stP, m_ldR, m_stR, m_ldC, m_stC, m_ldK, m_stK, m_gx5, m_px5, m_rx0, m_rx1, m_rx2, m_rx3, m_rx4, m_ix, m_gD1, m_pD1, m_gD2, m_pD2, m_gD3, m_pD3, m_rD0, m_iD, m_ld2, m_st2, m_gH1, m_pH1, m_rH0, m_iH, m_gX1, m_pX1, m_gX2, m_pX2, m_gX3, m_pX3, m_rX0, m_rX4, m_rX5, m_rX6, m_rX7, m_iX, m_ld1273, m_st1273, m_ld1274, m_st1274, m_ld1275, m_st1275, m_ld1276, m_st1276, m_ld1277, m_st1277, m_ldH, zb2_s, zif_t, zopt_n, zopt_s, b_s, znm_e, lit_0, lit_1, lit_2, lit_3, lit_4, lit_5, lit_6, lit_7, lit_8, lit_9, lit_10, lit_11, lit_12, lit_13, lit_14, lit_15, lit_16, lit_17, lit_18, lit_20, lit_24, lit_26, lit_30, lit_40, lit_45, lit_46, lit_47, lit_48, lit_60, lit_63, lit_64, lit_77, lit_100, lit_140, lit_168, lit_200, lit_300, lit_400, lit_900, lit_1000, lit_1168, lit_1997, lit_3333, lit_9999, lit_10000, reduceIte, Nat.reduceEqDiff, Nat.reduceLeDiff, Nat.reduceAdd, Nat.reduceMul, nI_eqE, nI_ltE, nI_leE, zbool_0, zbool_1, zbool_b, bI_0, bI_1, hk, if_false, h0, h3, nI_add, nI_mul, i1]
    by_cases q : s 0 < s (969 + 6 * k + 4)
    · rw [if_neg (by omega), cA_t (by simp [q]), Nat.add_assoc]
    · rw [if_pos (by omega), cA_f (by simp; omega)]
theorem e_sickN {z : Nat} {X : pX} {B : Nat} (hb : isB B) {s : Nat → Nat} {u : Nat → Nat → Nat} {ls : Nat → List Nat} (hS : StC X B s u ls) : f_X5_membersSickNow (z + B) (hp z X) = some (nI (cA (fun m => decide (s 0 < s (969 + 6 * m + 4))) 0 12), hp z X) := by
  have h := e_sickNL (z := z) hb hS 12 zN 0 0 rfl (zN_lt (by omega))
  simp (disch := first | assumption | omega) only [f_X5_membersSickNow, m_gO2, m_pO2, m_gO3, m_pO3, m_gO4, m_pO4, m_rO0, m_rO1, m_rO5, m_rO6, m_rO7, m_iO, m_ldT, m_stT, m_ldS, m_ldM, m_ldL, m_lnS, m_lnM, m_gS0, m_pS0, m_gS1, m_pS1, m_gS2, m_pS2, m_gS3, m_pS3, m_gS4, m_pS4, m_gS5, m_pS5, m_gS6, m_pS6, m_rS7, m_rS8, m_iS, m_gM1, m_pM1, m_gM2, m_pM2, m_rM0, m_iM, m_gL1, m_pL1, m_rL0, m_iL, m_ldP, m_stP, m_ldR, m_stR, m_ldC, m_stC, m_ldK, m_stK, m_gx5, m_px5, m_rx0, m_rx1, m_rx2, m_rx3, m_rx4, m_ix, m_gD1, m_pD1, m_gD2, m_pD2, m_gD3, m_pD3, m_rD0, m_iD, m_ld2, m_st2, m_gH1, m_pH1, m_rH0, m_iH, m_gX1, m_pX1, m_gX2, m_pX2, m_gX3, m_pX3, m_rX0, m_rX4, m_rX5, m_rX6, m_rX7, m_iX, m_ld1273, m_st1273, m_ld1274, m_st1274, m_ld1275, m_st1275, m_ld1276, m_st1276, m_ld1277, m_st1277, m_ldH, zb2_s, zif_t, zopt_n, zopt_s, b_s, znm_e, lit_0, lit_1, lit_2, lit_3, lit_4, lit_5, lit_6, lit_7, lit_8, lit_9, lit_10, lit_11, lit_12, lit_13, lit_14, lit_15, lit_16, lit_17, lit_18, lit_20, lit_24, lit_26, lit_30, lit_40, lit_45, lit_46, lit_47, lit_48, lit_60, lit_63, lit_64, lit_77, lit_100, lit_140, lit_168, lit_200, lit_300, lit_400, lit_900, lit_1000, lit_1168, lit_1997, lit_3333, lit_9999, lit_10000, h, Nat.zero_add]
theorem e_coversL {z : Nat} {X : pX} {B : Nat} (hb : isB B) {s : Nat → Nat} {u : Nat → Nat → Nat} {ls : Nat → List Nat} (hS : StC X B s u ls) : ∀ (n fuel k c : Nat), k + n = 12 → n < fuel → f_X5_allCovers_13 fuel (nI c) (z + (B + 3)) (nI 12) (nI k) (hp z X) = some (nI (c + sA (fun m => s (969 + 6 * m + 5)) k n), hp z X) := by
  intro n
  obtain ⟨hw, hR, hU, hG, hL⟩ := hS
  induction n with
  | zero =>
    intro fuel k c h1 h2
    obtain ⟨fuel, rfl⟩ : ∃ f, fuel = f + 1 := ⟨fuel - 1, by omega⟩
    obtain rfl : k = 12 := by omega
    simp (disch := first | assumption | omega) only [f_X5_allCovers_13, f_X5_allCovers_13_body, zb2_s, zif_t, zopt_n, zopt_s, b_s, znm_e, lit_0, lit_1, lit_2, lit_3, lit_4, lit_5, lit_6, lit_7, lit_8, lit_9, lit_10, lit_11, lit_12, lit_13, lit_14, lit_15, lit_16, lit_17, lit_18, lit_20, lit_24, lit_26, lit_30, lit_40, lit_45, lit_46, lit_47, lit_48, lit_60, lit_63, lit_64, lit_77, lit_100, lit_140, lit_168, lit_200, lit_300, lit_400, lit_900, lit_1000, lit_1168, lit_1997, lit_3333, lit_9999, lit_10000, reduceIte, Nat.reduceEqDiff, Nat.reduceLeDiff, Nat.reduceAdd, Nat.reduceMul, nI_eqE, nI_ltE, nI_leE, zbool_0, zbool_1, zbool_b, bI_0, bI_1, Nat.le_refl, if_true, sA_0, Nat.add_zero]
  | succ n ih =>
    intro fuel k c h1 h2
    obtain ⟨fuel, rfl⟩ : ∃ f, fuel = f + 1 := ⟨fuel - 1, by omega⟩
    have h3 := (hR.2.2.1 k (by omega)).2.2
    have hk : ¬ 12 ≤ k := by omega
    have i1 := fun c => ih fuel (k + 1) c (by omega) (by omega)
    simp (disch := first | assumption | omega) only [f_X5_allCovers_13, f_X5_allCovers_13_body, m_gO2, m_pO2, m_gO3, m_pO3, m_gO4, m_pO4, m_rO0, m_rO1, m_rO5, m_rO6, m_rO7, m_iO, m_ldT, m_stT, m_ldS, m_ldM, m_ldL, m_lnS, m_lnM, m_gS0, m_pS0, m_gS1, m_pS1, m_gS2, m_pS2, m_gS3, m_pS3, m_gS4, m_pS4, m_gS5, m_pS5, m_gS6, m_pS6, m_rS7, m_rS8, m_iS, m_gM1, m_pM1, m_gM2, m_pM2, m_rM0, m_iM, m_gL1, m_pL1, m_rL0, m_iL, m_ldP, m_stP, m_ldR, m_stR, m_ldC, m_stC, m_ldK, m_stK, m_gx5, m_px5, m_rx0, m_rx1, m_rx2, m_rx3, m_rx4, m_ix, m_gD1, m_pD1, m_gD2, m_pD2, m_gD3, m_pD3, m_rD0, m_iD, m_ld2, m_st2, m_gH1, m_pH1, m_rH0, m_iH, m_gX1, m_pX1, m_gX2, m_pX2, m_gX3, m_pX3, m_rX0, m_rX4, m_rX5, m_rX6, m_rX7, m_iX, m_ld1273, m_st1273, m_ld1274, m_st1274, m_ld1275, m_st1275, m_ld1276, m_st1276, m_ld1277, m_st1277, m_ldH, zb2_s, zif_t, zopt_n, zopt_s, b_s, znm_e, lit_0, lit_1, lit_2, lit_3, lit_4, lit_5, lit_6, lit_7, lit_8, lit_9, lit_10, lit_11, lit_12, lit_13, lit_14, lit_15, lit_16, lit_17, lit_18, lit_20, lit_24, lit_26, lit_30, lit_40, lit_45, lit_46, lit_47, lit_48, lit_60, lit_63, lit_64, lit_77, lit_100, lit_140, lit_168, lit_200, lit_300, lit_400, lit_900, lit_1000, lit_1168, lit_1997, lit_3333, lit_9999, lit_10000, reduceIte, Nat.reduceEqDiff, Nat.reduceLeDiff, Nat.reduceAdd, Nat.reduceMul, nI_eqE, nI_ltE, nI_leE, zbool_0, zbool_1, zbool_b, bI_0, bI_1, hk, if_false, h3, nI_add, nI_mul, i1, sA_s, Nat.add_assoc]
theorem e_covers {z : Nat} {X : pX} {B : Nat} (hb : isB B) {s : Nat → Nat} {u : Nat → Nat → Nat} {ls : Nat → List Nat} (hS : StC X B s u ls) : f_X5_allCovers (z + B) (hp z X) = some (nI (sA (fun m => s (969 + 6 * m + 5)) 0 12), hp z X) := by
  have h := e_coversL (z := z) hb hS 12 zN 0 0 rfl (zN_lt (by omega))
  simp (disch := first | assumption | omega) only [f_X5_allCovers, m_gO2, m_pO2, m_gO3, m_pO3, m_gO4, m_pO4, m_rO0, m_rO1, m_rO5, m_rO6, m_rO7, m_iO, m_ldT, m_stT, m_ldS, m_ldM, m_ldL, m_lnS, m_lnM, m_gS0, m_pS0, m_gS1, m_pS1, m_gS2, m_pS2, m_gS3, m_pS3, m_gS4, m_pS4, m_gS5, m_pS5, m_gS6, m_pS6, m_rS7, m_rS8, m_iS, m_gM1, m_pM1, m_gM2, m_pM2, m_rM0, m_iM, m_gL1, m_pL1, m_rL0, m_iL, m_ldP, m_stP, m_ldR, m_stR, m_ldC, m_stC, m_ldK, m_stK, m_gx5, m_px5, m_rx0, m_rx1, m_rx2, m_rx3, m_rx4, m_ix, m_gD1, m_pD1, m_gD2, m_pD2, m_gD3, m_pD3, m_rD0, m_iD, m_ld2, m_st2, m_gH1, m_pH1, m_rH0, m_iH, m_gX1, m_pX1, m_gX2, m_pX2, m_gX3, m_pX3, m_rX0, m_rX4, m_rX5, m_rX6, m_rX7, m_iX, m_ld1273, m_st1273, m_ld1274, m_st1274, m_ld1275, m_st1275, m_ld1276, m_st1276, m_ld1277, m_st1277, m_ldH, zb2_s, zif_t, zopt_n, zopt_s, b_s, znm_e, lit_0, lit_1, lit_2, lit_3, lit_4, lit_5, lit_6, lit_7, lit_8, lit_9, lit_10, lit_11, lit_12, lit_13, lit_14, lit_15, lit_16, lit_17, lit_18, lit_20, lit_24, lit_26, lit_30, lit_40, lit_45, lit_46, lit_47, lit_48, lit_60, lit_63, lit_64, lit_77, lit_100, lit_140, lit_168, lit_200, lit_300, lit_400, lit_900, lit_1000, lit_1168, lit_1997, lit_3333, lit_9999, lit_10000, h, Nat.zero_add]
/-- hours beyond, as the class tells them -/
def hbN (s : Nat → Nat) (d : dS) (k : Nat) : Nat := 168 - cA (fB d) (168 * k) 168 - s 8
theorem zmax_n {a b : Nat} (ha : a < 100000) (hb : b < 100000) : zmax (nI 0) (nI a - nI b) = nI (a - b) := by
  have t := pk_sub_toInt (a := a) (b := b) (by omega) (by omega)
  have z0 : (nI 0).toInt = 0 := by decide
  unfold zmax
  by_cases c : b < a
  · rw [if_pos (Int32.lt_iff_toInt_lt.mpr (by rw [t]; omega)), nI_sub (by omega)]
  · rw [if_neg (fun q => by have q := Int32.lt_iff_toInt_lt.mp q; rw [t] at q; omega), show a - b = 0 by omega]
theorem e_beyond {z : Nat} {X : pX} {B : Nat} (hb : isB B) {s : Nat → Nat} {u : Nat → Nat → Nat} {ls : Nat → List Nat} (hS : StC X B s u ls) {d : dS} (hd : DuC X.1 d) (ho : dOk d) {k : Nat} (hk : k < 6) : f_X5_hoursBeyond (z + B) (z + 1) (nI k) (hp z X) = some (nI (hbN s d k), hp z X) := by
  have h8 : X.1 (B + 1) 4 = nI (s 8) := hS.2.1.1.2.2.2 4 (by omega)
  have b8 := hS.2.2.2.1.2.2.2.1.2.2.2.2
  have g := e_restIn (z := z) hd ho (a := k * 168) (N := 168) (by omega)
  have hc := cA_le (fB d) 168 (k * 168)
  have e1 : nI 168 - nI (cA (fB d) (k * 168) 168) = nI (168 - cA (fB d) (k * 168) 168) := nI_sub hc
  have e2 := zmax_n (a := 168 - cA (fB d) (k * 168) 168) (b := s 8) (by omega) (by omega)
  simp (disch := first | assumption | omega) only [f_X5_hoursBeyond, m_gO2, m_pO2, m_gO3, m_pO3, m_gO4, m_pO4, m_rO0, m_rO1, m_rO5, m_rO6, m_rO7, m_iO, m_ldT, m_stT, m_ldS, m_ldM, m_ldL, m_lnS, m_lnM, m_gS0, m_pS0, m_gS1, m_pS1, m_gS2, m_pS2, m_gS3, m_pS3, m_gS4, m_pS4, m_gS5, m_pS5, m_gS6, m_pS6, m_rS7, m_rS8, m_iS, m_gM1, m_pM1, m_gM2, m_pM2, m_rM0, m_iM, m_gL1, m_pL1, m_rL0, m_iL, m_ldP, m_stP, m_ldR, m_stR, m_ldC, m_stC, m_ldK, m_stK, m_gx5, m_px5, m_rx0, m_rx1, m_rx2, m_rx3, m_rx4, m_ix, m_gD1, m_pD1, m_gD2, m_pD2, m_gD3, m_pD3, m_rD0, m_iD, m_ld2, m_st2, m_gH1, m_pH1, m_rH0, m_iH, m_gX1, m_pX1, m_gX2, m_pX2, m_gX3, m_pX3, m_rX0, m_rX4, m_rX5, m_rX6, m_rX7, m_iX, m_ld1273, m_st1273, m_ld1274, m_st1274, m_ld1275, m_st1275, m_ld1276, m_st1276, m_ld1277, m_st1277, m_ldH, zb2_s, zif_t, zopt_n, zopt_s, b_s, znm_e, lit_0, lit_1, lit_2, lit_3, lit_4, lit_5, lit_6, lit_7, lit_8, lit_9, lit_10, lit_11, lit_12, lit_13, lit_14, lit_15, lit_16, lit_17, lit_18, lit_20, lit_24, lit_26, lit_30, lit_40, lit_45, lit_46, lit_47, lit_48, lit_60, lit_63, lit_64, lit_77, lit_100, lit_140, lit_168, lit_200, lit_300, lit_400, lit_900, lit_1000, lit_1168, lit_1997, lit_3333, lit_9999, lit_10000, nI_mul, g, h8, e1, e2, hbN, Nat.mul_comm 168 k]
