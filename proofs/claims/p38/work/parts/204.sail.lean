/-! the class's sailings: loops over their members and roles -/
theorem e_takenL {z : Nat} {X : pX} {B j : Nat} (hb : isB B) (hj : j < 48) {u : Nat → Nat} (hs : SaC X.1 B j u) (hu : Sm u) : ∀ (n fuel k c : Nat), k + n = 12 → n < fuel → c + n < 1000 → f_X4_takenPlaces_4 fuel (z + (B + (5 + 3 * j))) (nI c) (nI k) (hp z X) = some (nI (c + cA (fun m => !decide (u (20 + m) = 0)) k n), hp z X) := by
  intro n
  induction n with
  | zero =>
    intro fuel k c h1 h2 h3
    obtain ⟨fuel, rfl⟩ : ∃ f, fuel = f + 1 := ⟨fuel - 1, by omega⟩
    obtain rfl : k = 12 := by omega
    simp (disch := first | assumption | omega) only [f_X4_takenPlaces_4, f_X4_takenPlaces_4_body, zb2_s, zif_t, zopt_n, zopt_s, b_s, znm_e, lit_0, lit_1, lit_2, lit_3, lit_4, lit_5, lit_6, lit_7, lit_8, lit_9, lit_10, lit_11, lit_12, lit_13, lit_14, lit_15, lit_16, lit_17, lit_18, lit_20, lit_24, lit_26, lit_30, lit_40, lit_45, lit_46, lit_47, lit_48, lit_60, lit_63, lit_64, lit_77, lit_100, lit_140, lit_168, lit_200, lit_300, lit_400, lit_900, lit_1000, lit_1168, lit_1997, lit_3333, lit_9999, lit_10000, reduceIte, Nat.reduceEqDiff, Nat.reduceLeDiff, Nat.reduceAdd, Nat.reduceMul, nI_eqE, nI_ltE, nI_leE, zbool_0, zbool_1, zbool_b, bI_0, bI_1, Nat.le_refl, if_true, cA_0, Nat.add_zero]
  | succ n ih =>
    intro fuel k c h1 h2 h3
    obtain ⟨fuel, rfl⟩ : ∃ f, fuel = f + 1 := ⟨fuel - 1, by omega⟩
    have h5 := hs.2.2 k (by omega)
    have b5 := hu (20 + k)
    have hk : ¬ 12 ≤ k := by omega
    have i1 := ih fuel (k + 1) c (by omega) (by omega) (by omega)
    have i2 := ih fuel (k + 1) (c + 1) (by omega) (by omega) (by omega)
    simp (disch := first | assumption | omega) only [f_X4_takenPlaces_4, f_X4_takenPlaces_4_body, f_X4_takenPlaces_23, m_gO2, m_pO2, m_gO3, m_pO3, m_gO4, m_pO4, m_rO0, m_rO1, m_rO5, m_rO6, m_rO7, m_iO, m_ldT, m_stT, m_ldS, m_ldM, m_ldL, m_lnS, m_lnM, m_gS0, m_pS0, m_gS1, m_pS1, m_gS2, m_pS2, m_gS3, m_pS3, m_gS4, m_pS4, m_gS5, m_pS5, m_gS6, m_pS6, m_rS7, m_rS8, m_iS, m_gM1, m_pM1, m_gM2, m_pM2, m_rM0, m_iM, m_gL1, m_pL1, m_rL0, m_iL, m_ldP, m_stP, m_ldR, m_stR, m_ldC, m_stC, m_ldK, m_stK, m_gx5, m_px5, m_rx0, m_rx1, m_rx2, m_rx3, m_rx4, m_ix, m_gD1, m_pD1, m_gD2, m_pD2, m_gD3, m_pD3, m_rD0, m_iD, m_ld2, m_st2, m_gH1, m_pH1, m_rH0, m_iH, m_gX1, m_pX1, m_gX2, m_pX2, m_gX3, m_pX3, m_rX0, m_rX4, m_rX5, m_rX6, m_rX7, m_iX, m_ld1273, m_st1273, m_ld1274, m_st1274, m_ld1275, m_st1275, m_ld1276, m_st1276, m_ld1277, m_st1277, m_ldH, zb2_s, zif_t, zopt_n, zopt_s, b_s, znm_e, lit_0, lit_1, lit_2, lit_3, lit_4, lit_5, lit_6, lit_7, lit_8, lit_9, lit_10, lit_11, lit_12, lit_13, lit_14, lit_15, lit_16, lit_17, lit_18, lit_20, lit_24, lit_26, lit_30, lit_40, lit_45, lit_46, lit_47, lit_48, lit_60, lit_63, lit_64, lit_77, lit_100, lit_140, lit_168, lit_200, lit_300, lit_400, lit_900, lit_1000, lit_1168, lit_1997, lit_3333, lit_9999, lit_10000, reduceIte, Nat.reduceEqDiff, Nat.reduceLeDiff, Nat.reduceAdd, Nat.reduceMul, nI_eqE, nI_ltE, nI_leE, zbool_0, zbool_1, zbool_b, bI_0, bI_1, hk, if_false, h5, rl_n, nI_add, nI_mul, i1, i2]
    by_cases q : u (20 + k) = 0
    · rw [if_pos q, cA_f (by simp [q])]
    · rw [if_neg q, cA_t (by simp [q]), Nat.add_assoc]
theorem e_taken {z : Nat} {X : pX} {B j : Nat} (hb : isB B) (hj : j < 48) {u : Nat → Nat} (hs : SaC X.1 B j u) (hu : Sm u) : f_X4_takenPlaces (z + (B + (5 + 3 * j))) (hp z X) = some (nI (tkU u), hp z X) := by
  have h := e_takenL (z := z) hb hj hs hu 12 zN 0 0 rfl (zN_lt (by omega)) (by omega)
  simp only [f_X4_takenPlaces, lit_0, lit_1, lit_2, lit_3, lit_4, lit_5, lit_6, lit_7, lit_8, lit_9, lit_10, lit_11, lit_12, lit_13, lit_14, lit_15, lit_16, lit_17, lit_18, lit_20, lit_24, lit_26, lit_30, lit_40, lit_45, lit_46, lit_47, lit_48, lit_60, lit_63, lit_64, lit_77, lit_100, lit_140, lit_168, lit_200, lit_300, lit_400, lit_900, lit_1000, lit_1168, lit_1997, lit_3333, lit_9999, lit_10000, h, Nat.zero_add, tkU]
theorem e_allPlaces {z : Nat} {X : pX} {B j : Nat} (hb : isB B) (hj : j < 48) {u : Nat → Nat} (hs : SaC X.1 B j u) (hu : Sm u) : f_X4_allPlaces (z + (B + (5 + 3 * j))) (hp z X) = some (nI (ned u), hp z X) := by
  have hz := zN_eq
  obtain ⟨fuel, hfu⟩ : ∃ f, zN = f + 5 := ⟨zN - 5, by omega⟩
  have h0 := hs.2.1 0 (by decide)
  have h1 := hs.2.1 1 (by decide)
  have h2 := hs.2.1 2 (by decide)
  have h3 := hs.2.1 3 (by decide)
  simp only [Nat.reduceAdd] at h0 h1 h2 h3
  simp only [f_X4_allPlaces, hfu]
  simp (disch := first | assumption | omega) only [f_X4_allPlaces_4, f_X4_allPlaces_4_body, m_gO2, m_pO2, m_gO3, m_pO3, m_gO4, m_pO4, m_rO0, m_rO1, m_rO5, m_rO6, m_rO7, m_iO, m_ldT, m_stT, m_ldS, m_ldM, m_ldL, m_lnS, m_lnM, m_gS0, m_pS0, m_gS1, m_pS1, m_gS2, m_pS2, m_gS3, m_pS3, m_gS4, m_pS4, m_gS5, m_pS5, m_gS6, m_pS6, m_rS7, m_rS8, m_iS, m_gM1, m_pM1, m_gM2, m_pM2, m_rM0, m_iM, m_gL1, m_pL1, m_rL0, m_iL, m_ldP, m_stP, m_ldR, m_stR, m_ldC, m_stC, m_ldK, m_stK, m_gx5, m_px5, m_rx0, m_rx1, m_rx2, m_rx3, m_rx4, m_ix, m_gD1, m_pD1, m_gD2, m_pD2, m_gD3, m_pD3, m_rD0, m_iD, m_ld2, m_st2, m_gH1, m_pH1, m_rH0, m_iH, m_gX1, m_pX1, m_gX2, m_pX2, m_gX3, m_pX3, m_rX0, m_rX4, m_rX5, m_rX6, m_rX7, m_iX, m_ld1273, m_st1273, m_ld1274, m_st1274, m_ld1275, m_st1275, m_ld1276, m_st1276, m_ld1277, m_st1277, m_ldH, zb2_s, zif_t, zopt_n, zopt_s, b_s, znm_e, lit_0, lit_1, lit_2, lit_3, lit_4, lit_5, lit_6, lit_7, lit_8, lit_9, lit_10, lit_11, lit_12, lit_13, lit_14, lit_15, lit_16, lit_17, lit_18, lit_20, lit_24, lit_26, lit_30, lit_40, lit_45, lit_46, lit_47, lit_48, lit_60, lit_63, lit_64, lit_77, lit_100, lit_140, lit_168, lit_200, lit_300, lit_400, lit_900, lit_1000, lit_1168, lit_1997, lit_3333, lit_9999, lit_10000, reduceIte, Nat.reduceEqDiff, Nat.reduceLeDiff, Nat.reduceAdd, Nat.reduceMul, nI_eqE, nI_ltE, nI_leE, zbool_0, zbool_1, zbool_b, bI_0, bI_1, nI_add, nI_mul, h0, h1, h2, h3, ned, Nat.zero_add, if_false, if_true, Nat.le_refl]
theorem e_freePlaces {z : Nat} {X : pX} {B j : Nat} (hb : isB B) (hj : j < 48) {u : Nat → Nat} (hs : SaC X.1 B j u) (hk : SaK u) : f_X4_freePlaces (z + (B + (5 + 3 * j))) (hp z X) = some (nI (ned u) - nI (tkU u), hp z X) := by
  simp (disch := first | assumption | omega) only [f_X4_freePlaces, m_gO2, m_pO2, m_gO3, m_pO3, m_gO4, m_pO4, m_rO0, m_rO1, m_rO5, m_rO6, m_rO7, m_iO, m_ldT, m_stT, m_ldS, m_ldM, m_ldL, m_lnS, m_lnM, m_gS0, m_pS0, m_gS1, m_pS1, m_gS2, m_pS2, m_gS3, m_pS3, m_gS4, m_pS4, m_gS5, m_pS5, m_gS6, m_pS6, m_rS7, m_rS8, m_iS, m_gM1, m_pM1, m_gM2, m_pM2, m_rM0, m_iM, m_gL1, m_pL1, m_rL0, m_iL, m_ldP, m_stP, m_ldR, m_stR, m_ldC, m_stC, m_ldK, m_stK, m_gx5, m_px5, m_rx0, m_rx1, m_rx2, m_rx3, m_rx4, m_ix, m_gD1, m_pD1, m_gD2, m_pD2, m_gD3, m_pD3, m_rD0, m_iD, m_ld2, m_st2, m_gH1, m_pH1, m_rH0, m_iH, m_gX1, m_pX1, m_gX2, m_pX2, m_gX3, m_pX3, m_rX0, m_rX4, m_rX5, m_rX6, m_rX7, m_iX, m_ld1273, m_st1273, m_ld1274, m_st1274, m_ld1275, m_st1275, m_ld1276, m_st1276, m_ld1277, m_st1277, m_ldH, zb2_s, zif_t, zopt_n, zopt_s, b_s, znm_e, e_taken hb hj hs hk.1, e_allPlaces hb hj hs hk.1]
/-- places k .. k + n - 1 emptied -/
def clr (f : Nat → Int32) (k n : Nat) : Nat → Int32 := fun m => if k ≤ m ∧ m < k + n then -nI 1 else f m
theorem clr_0 {f : Nat → Int32} {k : Nat} : clr f k 0 = f := by
  funext m; unfold clr; rw [if_neg (by omega)]
theorem clr_s {f : Nat → Int32} {k n : Nat} : clr (upd f k (-nI 1)) (k + 1) n = clr f k (n + 1) := by
  funext m; unfold clr upd
  by_cases h : k + 1 ≤ m ∧ m < k + 1 + n
  · rw [if_pos h, if_pos (by omega)]
  · rw [if_neg h]
    by_cases q : m = k
    · rw [if_pos q, if_pos (by omega)]
    · rw [if_neg q, if_neg (by omega)]
theorem e_unseatAllL {z B j : Nat} (hb : isB B) (hj : j < 48) : ∀ (n fuel k : Nat) (X : pX), k + n = 12 → n < fuel → f_X4_unseatAll_2 fuel (z + (B + (5 + 3 * j))) (nI k) (hp z X) = some (hp z (sV X.1 (B + (7 + 3 * j)) (clr (X.1 (B + (7 + 3 * j))) k n), X.2)) := by
  intro n
  induction n with
  | zero =>
    intro fuel k X h1 h2
    obtain ⟨fuel, rfl⟩ : ∃ f, fuel = f + 1 := ⟨fuel - 1, by omega⟩
    obtain rfl : k = 12 := by omega
    simp (disch := first | assumption | omega) only [f_X4_unseatAll_2, f_X4_unseatAll_2_body, zb2_s, zif_t, zopt_n, zopt_s, b_s, znm_e, lit_0, lit_1, lit_2, lit_3, lit_4, lit_5, lit_6, lit_7, lit_8, lit_9, lit_10, lit_11, lit_12, lit_13, lit_14, lit_15, lit_16, lit_17, lit_18, lit_20, lit_24, lit_26, lit_30, lit_40, lit_45, lit_46, lit_47, lit_48, lit_60, lit_63, lit_64, lit_77, lit_100, lit_140, lit_168, lit_200, lit_300, lit_400, lit_900, lit_1000, lit_1168, lit_1997, lit_3333, lit_9999, lit_10000, reduceIte, Nat.reduceEqDiff, Nat.reduceLeDiff, Nat.reduceAdd, Nat.reduceMul, nI_eqE, nI_ltE, nI_leE, zbool_0, zbool_1, zbool_b, bI_0, bI_1, Nat.le_refl, if_true, clr_0, sV_id]
  | succ n ih =>
    intro fuel k X h1 h2
    obtain ⟨fuel, rfl⟩ : ∃ f, fuel = f + 1 := ⟨fuel - 1, by omega⟩
    have hk : ¬ 12 ≤ k := by omega
    have i1 := fun X => ih fuel (k + 1) X (by omega) (by omega)
    simp (disch := first | assumption | omega) only [f_X4_unseatAll_2, f_X4_unseatAll_2_body, m_gO2, m_pO2, m_gO3, m_pO3, m_gO4, m_pO4, m_rO0, m_rO1, m_rO5, m_rO6, m_rO7, m_iO, m_ldT, m_stT, m_ldS, m_ldM, m_ldL, m_lnS, m_lnM, m_gS0, m_pS0, m_gS1, m_pS1, m_gS2, m_pS2, m_gS3, m_pS3, m_gS4, m_pS4, m_gS5, m_pS5, m_gS6, m_pS6, m_rS7, m_rS8, m_iS, m_gM1, m_pM1, m_gM2, m_pM2, m_rM0, m_iM, m_gL1, m_pL1, m_rL0, m_iL, m_ldP, m_stP, m_ldR, m_stR, m_ldC, m_stC, m_ldK, m_stK, m_gx5, m_px5, m_rx0, m_rx1, m_rx2, m_rx3, m_rx4, m_ix, m_gD1, m_pD1, m_gD2, m_pD2, m_gD3, m_pD3, m_rD0, m_iD, m_ld2, m_st2, m_gH1, m_pH1, m_rH0, m_iH, m_gX1, m_pX1, m_gX2, m_pX2, m_gX3, m_pX3, m_rX0, m_rX4, m_rX5, m_rX6, m_rX7, m_iX, m_ld1273, m_st1273, m_ld1274, m_st1274, m_ld1275, m_st1275, m_ld1276, m_st1276, m_ld1277, m_st1277, m_ldH, zb2_s, zif_t, zopt_n, zopt_s, b_s, znm_e, lit_0, lit_1, lit_2, lit_3, lit_4, lit_5, lit_6, lit_7, lit_8, lit_9, lit_10, lit_11, lit_12, lit_13, lit_14, lit_15, lit_16, lit_17, lit_18, lit_20, lit_24, lit_26, lit_30, lit_40, lit_45, lit_46, lit_47, lit_48, lit_60, lit_63, lit_64, lit_77, lit_100, lit_140, lit_168, lit_200, lit_300, lit_400, lit_900, lit_1000, lit_1168, lit_1997, lit_3333, lit_9999, lit_10000, reduceIte, Nat.reduceEqDiff, Nat.reduceLeDiff, Nat.reduceAdd, Nat.reduceMul, nI_eqE, nI_ltE, nI_leE, zbool_0, zbool_1, zbool_b, bI_0, bI_1, hk, if_false, nI_add, nI_mul, i1, sV_s, sV_sV, clr_s]
theorem e_unseatAll {z : Nat} {X : pX} {B j : Nat} (hb : isB B) (hj : j < 48) : f_X4_unseatAll (z + (B + (5 + 3 * j))) (hp z X) = some (hp z (sV X.1 (B + (7 + 3 * j)) (clr (X.1 (B + (7 + 3 * j))) 0 12), X.2)) := by
  have h := e_unseatAllL (z := z) hb hj 12 zN 0 X rfl (zN_lt (by omega))
  simp only [f_X4_unseatAll, lit_0, lit_1, lit_2, lit_3, lit_4, lit_5, lit_6, lit_7, lit_8, lit_9, lit_10, lit_11, lit_12, lit_13, lit_14, lit_15, lit_16, lit_17, lit_18, lit_20, lit_24, lit_26, lit_30, lit_40, lit_45, lit_46, lit_47, lit_48, lit_60, lit_63, lit_64, lit_77, lit_100, lit_140, lit_168, lit_200, lit_300, lit_400, lit_900, lit_1000, lit_1168, lit_1997, lit_3333, lit_9999, lit_10000, h]
theorem e_callOff {z : Nat} {X : pX} {B j : Nat} (hb : isB B) (hj : j < 48) {u : Nat → Nat} (hs : SaC X.1 B j u) (hu : Sm u) : f_X4_callOff (z + (B + (5 + 3 * j))) (hp z X) = some (nI (tkU u), hp z (sV (sV X.1 (B + (5 + 3 * j)) (upd (X.1 (B + (5 + 3 * j))) 5 (nI 2))) (B + (7 + 3 * j)) (clr (X.1 (B + (7 + 3 * j))) 0 12), X.2)) := by
  simp (disch := first | assumption | omega) only [f_X4_callOff, m_gO2, m_pO2, m_gO3, m_pO3, m_gO4, m_pO4, m_rO0, m_rO1, m_rO5, m_rO6, m_rO7, m_iO, m_ldT, m_stT, m_ldS, m_ldM, m_ldL, m_lnS, m_lnM, m_gS0, m_pS0, m_gS1, m_pS1, m_gS2, m_pS2, m_gS3, m_pS3, m_gS4, m_pS4, m_gS5, m_pS5, m_gS6, m_pS6, m_rS7, m_rS8, m_iS, m_gM1, m_pM1, m_gM2, m_pM2, m_rM0, m_iM, m_gL1, m_pL1, m_rL0, m_iL, m_ldP, m_stP, m_ldR, m_stR, m_ldC, m_stC, m_ldK, m_stK, m_gx5, m_px5, m_rx0, m_rx1, m_rx2, m_rx3, m_rx4, m_ix, m_gD1, m_pD1, m_gD2, m_pD2, m_gD3, m_pD3, m_rD0, m_iD, m_ld2, m_st2, m_gH1, m_pH1, m_rH0, m_iH, m_gX1, m_pX1, m_gX2, m_pX2, m_gX3, m_pX3, m_rX0, m_rX4, m_rX5, m_rX6, m_rX7, m_iX, m_ld1273, m_st1273, m_ld1274, m_st1274, m_ld1275, m_st1275, m_ld1276, m_st1276, m_ld1277, m_st1277, m_ldH, zb2_s, zif_t, zopt_n, zopt_s, b_s, znm_e, lit_0, lit_1, lit_2, lit_3, lit_4, lit_5, lit_6, lit_7, lit_8, lit_9, lit_10, lit_11, lit_12, lit_13, lit_14, lit_15, lit_16, lit_17, lit_18, lit_20, lit_24, lit_26, lit_30, lit_40, lit_45, lit_46, lit_47, lit_48, lit_60, lit_63, lit_64, lit_77, lit_100, lit_140, lit_168, lit_200, lit_300, lit_400, lit_900, lit_1000, lit_1168, lit_1997, lit_3333, lit_9999, lit_10000, e_taken hb hj hs hu, e_unseatAll hb hj, sV_n]
theorem nI_sub0 {a b : Nat} (ha : a < 2 ^ 30) (hb : b < 2 ^ 30) : (nI a - nI b = nI 0) = (a = b) := by
  refine propext ⟨fun q => ?_, fun q => ?_⟩
  · have h := pk_sub_toInt ha hb
    rw [q] at h
    have h2 : (nI 0).toInt = 0 := by decide
    omega
  · rw [q, nI_sub (Nat.le_refl _), Nat.sub_self]
theorem e_depart {z : Nat} {X : pX} {B j : Nat} (hb : isB B) (hj : j < 48) {u : Nat → Nat} (hs : SaC X.1 B j u) (hu : Sm u) : f_X4_depart (z + (B + (5 + 3 * j))) (hp z X) = some (hp z (if ned u = tkU u then (sV X.1 (B + (5 + 3 * j)) (upd (X.1 (B + (5 + 3 * j))) 5 (nI 1)), X.2) else (sV (sV X.1 (B + (5 + 3 * j)) (upd (X.1 (B + (5 + 3 * j))) 5 (nI 2))) (B + (7 + 3 * j)) (clr (X.1 (B + (7 + 3 * j))) 0 12), X.2))) := by
  have b1 := hu 10
  have b2 := hu 11
  have b3 := hu 12
  have b4 := hu 13
  have b5 := tkU_le u
  have b6 : ned u < 2 ^ 30 := by unfold ned; omega
  have hf : f_X4_freePlaces (z + (B + (5 + 3 * j))) (hp z X) = some (nI (ned u) - nI (tkU u), hp z X) := by
    simp (disch := first | assumption | omega) only [f_X4_freePlaces, m_gO2, m_pO2, m_gO3, m_pO3, m_gO4, m_pO4, m_rO0, m_rO1, m_rO5, m_rO6, m_rO7, m_iO, m_ldT, m_stT, m_ldS, m_ldM, m_ldL, m_lnS, m_lnM, m_gS0, m_pS0, m_gS1, m_pS1, m_gS2, m_pS2, m_gS3, m_pS3, m_gS4, m_pS4, m_gS5, m_pS5, m_gS6, m_pS6, m_rS7, m_rS8, m_iS, m_gM1, m_pM1, m_gM2, m_pM2, m_rM0, m_iM, m_gL1, m_pL1, m_rL0, m_iL, m_ldP, m_stP, m_ldR, m_stR, m_ldC, m_stC, m_ldK, m_stK, m_gx5, m_px5, m_rx0, m_rx1, m_rx2, m_rx3, m_rx4, m_ix, m_gD1, m_pD1, m_gD2, m_pD2, m_gD3, m_pD3, m_rD0, m_iD, m_ld2, m_st2, m_gH1, m_pH1, m_rH0, m_iH, m_gX1, m_pX1, m_gX2, m_pX2, m_gX3, m_pX3, m_rX0, m_rX4, m_rX5, m_rX6, m_rX7, m_iX, m_ld1273, m_st1273, m_ld1274, m_st1274, m_ld1275, m_st1275, m_ld1276, m_st1276, m_ld1277, m_st1277, m_ldH, zb2_s, zif_t, zopt_n, zopt_s, b_s, znm_e, e_taken hb hj hs hu, e_allPlaces hb hj hs hu]
  simp (disch := first | assumption | omega) only [f_X4_depart, m_gO2, m_pO2, m_gO3, m_pO3, m_gO4, m_pO4, m_rO0, m_rO1, m_rO5, m_rO6, m_rO7, m_iO, m_ldT, m_stT, m_ldS, m_ldM, m_ldL, m_lnS, m_lnM, m_gS0, m_pS0, m_gS1, m_pS1, m_gS2, m_pS2, m_gS3, m_pS3, m_gS4, m_pS4, m_gS5, m_pS5, m_gS6, m_pS6, m_rS7, m_rS8, m_iS, m_gM1, m_pM1, m_gM2, m_pM2, m_rM0, m_iM, m_gL1, m_pL1, m_rL0, m_iL, m_ldP, m_stP, m_ldR, m_stR, m_ldC, m_stC, m_ldK, m_stK, m_gx5, m_px5, m_rx0, m_rx1, m_rx2, m_rx3, m_rx4, m_ix, m_gD1, m_pD1, m_gD2, m_pD2, m_gD3, m_pD3, m_rD0, m_iD, m_ld2, m_st2, m_gH1, m_pH1, m_rH0, m_iH, m_gX1, m_pX1, m_gX2, m_pX2, m_gX3, m_pX3, m_rX0, m_rX4, m_rX5, m_rX6, m_rX7, m_iX, m_ld1273, m_st1273, m_ld1274, m_st1274, m_ld1275, m_st1275, m_ld1276, m_st1276, m_ld1277, m_st1277, m_ldH, zb2_s, zif_t, zopt_n, zopt_s, b_s, znm_e, lit_0, lit_1, lit_2, lit_3, lit_4, lit_5, lit_6, lit_7, lit_8, lit_9, lit_10, lit_11, lit_12, lit_13, lit_14, lit_15, lit_16, lit_17, lit_18, lit_20, lit_24, lit_26, lit_30, lit_40, lit_45, lit_46, lit_47, lit_48, lit_60, lit_63, lit_64, lit_77, lit_100, lit_140, lit_168, lit_200, lit_300, lit_400, lit_900, lit_1000, lit_1168, lit_1997, lit_3333, lit_9999, lit_10000, hf, e_callOff hb hj hs hu, nI_sub0]
  by_cases c : ned u = tkU u
  · rw [if_pos c, if_pos c]
  · rw [if_neg c, if_neg c]
theorem e_freeOfL {z : Nat} {X : pX} {B j : Nat} (hb : isB B) (hj : j < 48) {u : Nat → Nat} (hs : SaC X.1 B j u) (hu : Sm u) {r : Nat} (hr : r < 4) : ∀ (n fuel k c : Nat), k + n = 12 → n < fuel → c < 100000 → f_X4_freePlacesOf_18 fuel (z + (B + (5 + 3 * j))) (nI r) (nI c - nI (cA (fun m => decide (u (20 + m) = r + 1)) 0 k)) (nI k) (hp z X) = some (nI c - nI (cA (fun m => decide (u (20 + m) = r + 1)) 0 12), hp z X) := by
  intro n
  induction n with
  | zero =>
    intro fuel k c h1 h2 h3
    obtain ⟨fuel, rfl⟩ : ∃ f, fuel = f + 1 := ⟨fuel - 1, by omega⟩
    obtain rfl : k = 12 := by omega
    simp (disch := first | assumption | omega) only [f_X4_freePlacesOf_18, f_X4_freePlacesOf_18_body, zb2_s, zif_t, zopt_n, zopt_s, b_s, znm_e, lit_0, lit_1, lit_2, lit_3, lit_4, lit_5, lit_6, lit_7, lit_8, lit_9, lit_10, lit_11, lit_12, lit_13, lit_14, lit_15, lit_16, lit_17, lit_18, lit_20, lit_24, lit_26, lit_30, lit_40, lit_45, lit_46, lit_47, lit_48, lit_60, lit_63, lit_64, lit_77, lit_100, lit_140, lit_168, lit_200, lit_300, lit_400, lit_900, lit_1000, lit_1168, lit_1997, lit_3333, lit_9999, lit_10000, reduceIte, Nat.reduceEqDiff, Nat.reduceLeDiff, Nat.reduceAdd, Nat.reduceMul, nI_eqE, nI_ltE, nI_leE, zbool_0, zbool_1, zbool_b, bI_0, bI_1, Nat.le_refl, if_true]
  | succ n ih =>
    intro fuel k c h1 h2 h3
    obtain ⟨fuel, rfl⟩ : ∃ f, fuel = f + 1 := ⟨fuel - 1, by omega⟩
    have h5 := hs.2.2 k (by omega)
    have b5 := hu (20 + k)
    have hk : ¬ 12 ≤ k := by omega
    have i1 := ih fuel (k + 1) c (by omega) (by omega) (by omega)
    simp (disch := first | assumption | omega) only [f_X4_freePlacesOf_18, f_X4_freePlacesOf_18_body, f_X4_freePlacesOf_37, m_gO2, m_pO2, m_gO3, m_pO3, m_gO4, m_pO4, m_rO0, m_rO1, m_rO5, m_rO6, m_rO7, m_iO, m_ldT, m_stT, m_ldS, m_ldM, m_ldL, m_lnS, m_lnM, m_gS0, m_pS0, m_gS1, m_pS1, m_gS2, m_pS2, m_gS3, m_pS3, m_gS4, m_pS4, m_gS5, m_pS5, m_gS6, m_pS6, m_rS7, m_rS8, m_iS, m_gM1, m_pM1, m_gM2, m_pM2, m_rM0, m_iM, m_gL1, m_pL1, m_rL0, m_iL, m_ldP, m_stP, m_ldR, m_stR, m_ldC, m_stC, m_ldK, m_stK, m_gx5, m_px5, m_rx0, m_rx1, m_rx2, m_rx3, m_rx4, m_ix, m_gD1, m_pD1, m_gD2, m_pD2, m_gD3, m_pD3, m_rD0, m_iD, m_ld2, m_st2, m_gH1, m_pH1, m_rH0, m_iH, m_gX1, m_pX1, m_gX2, m_pX2, m_gX3, m_pX3, m_rX0, m_rX4, m_rX5, m_rX6, m_rX7, m_iX, m_ld1273, m_st1273, m_ld1274, m_st1274, m_ld1275, m_st1275, m_ld1276, m_st1276, m_ld1277, m_st1277, m_ldH, zb2_s, zif_t, zopt_n, zopt_s, b_s, znm_e, lit_0, lit_1, lit_2, lit_3, lit_4, lit_5, lit_6, lit_7, lit_8, lit_9, lit_10, lit_11, lit_12, lit_13, lit_14, lit_15, lit_16, lit_17, lit_18, lit_20, lit_24, lit_26, lit_30, lit_40, lit_45, lit_46, lit_47, lit_48, lit_60, lit_63, lit_64, lit_77, lit_100, lit_140, lit_168, lit_200, lit_300, lit_400, lit_900, lit_1000, lit_1168, lit_1997, lit_3333, lit_9999, lit_10000, reduceIte, Nat.reduceEqDiff, Nat.reduceLeDiff, Nat.reduceAdd, Nat.reduceMul, nI_eqE, nI_ltE, nI_leE, zbool_0, zbool_1, zbool_b, bI_0, bI_1, hk, if_false, h5, rl_r, nI_add, nI_mul]
    by_cases q : u (20 + k) = r + 1
    · rw [if_pos q]
      rw [cA_lt (by simp [q])] at i1
      rw [sub_s] at i1
      exact i1
    · rw [if_neg q]
      rw [cA_lf (by simp [q])] at i1
      exact i1
