/-! more of the class's sailings -/
theorem e_freeOf2 {z : Nat} {X : pX} {B j : Nat} (hb : isB B) (hj : j < 48) {u : Nat → Nat} (hs : SaC X.1 B j u) (hu : Sm u) {r : Nat} (hr : r < 4) : f_X4_freePlacesOf (z + (B + (5 + 3 * j))) (nI r) (hp z X) = some (nI (u (10 + r)) - nI (tkR u r), hp z X) := by
  have h5 := hs.2.1 r hr
  have b := hu (10 + r)
  have i1 := e_freeOfL (z := z) hb hj hs hu hr 12 zN 0 (u (10 + r)) rfl (zN_lt (by omega)) b
  have h0 : nI (u (10 + r)) - nI 0 = nI (u (10 + r)) := Int32.sub_zero _
  rw [cA_0, h0] at i1
  simp (disch := first | assumption | omega) only [f_X4_freePlacesOf, m_gO2, m_pO2, m_gO3, m_pO3, m_gO4, m_pO4, m_rO0, m_rO1, m_rO5, m_rO6, m_rO7, m_iO, m_ldT, m_stT, m_ldS, m_ldM, m_ldL, m_lnS, m_lnM, m_gS0, m_pS0, m_gS1, m_pS1, m_gS2, m_pS2, m_gS3, m_pS3, m_gS4, m_pS4, m_gS5, m_pS5, m_gS6, m_pS6, m_rS7, m_rS8, m_iS, m_gM1, m_pM1, m_gM2, m_pM2, m_rM0, m_iM, m_gL1, m_pL1, m_rL0, m_iL, m_ldP, m_stP, m_ldR, m_stR, m_ldC, m_stC, m_ldK, m_stK, m_gx5, m_px5, m_rx0, m_rx1, m_rx2, m_rx3, m_rx4, m_ix, m_gD1, m_pD1, m_gD2, m_pD2, m_gD3, m_pD3, m_rD0, m_iD, m_ld2, m_st2, m_gH1, m_pH1, m_rH0, m_iH, m_gX1, m_pX1, m_gX2, m_pX2, m_gX3, m_pX3, m_rX0, m_rX4, m_rX5, m_rX6, m_rX7, m_iX, m_ld1273, m_st1273, m_ld1274, m_st1274, m_ld1275, m_st1275, m_ld1276, m_st1276, m_ld1277, m_st1277, m_ldH, zb2_s, zif_t, zopt_n, zopt_s, b_s, znm_e, lit_0, lit_1, lit_2, lit_3, lit_4, lit_5, lit_6, lit_7, lit_8, lit_9, lit_10, lit_11, lit_12, lit_13, lit_14, lit_15, lit_16, lit_17, lit_18, lit_20, lit_24, lit_26, lit_30, lit_40, lit_45, lit_46, lit_47, lit_48, lit_60, lit_63, lit_64, lit_77, lit_100, lit_140, lit_168, lit_200, lit_300, lit_400, lit_900, lit_1000, lit_1168, lit_1997, lit_3333, lit_9999, lit_10000, reduceIte, Nat.reduceEqDiff, Nat.reduceLeDiff, Nat.reduceAdd, Nat.reduceMul, nI_eqE, nI_ltE, nI_leE, zbool_0, zbool_1, zbool_b, bI_0, bI_1, e_isRole_n, h5, if_false, i1, tkR]
theorem e_occupies {z : Nat} {X : pX} {B j : Nat} (hb : isB B) (hj : j < 48) {u : Nat → Nat} (hs : SaC X.1 B j u) (hu : Sm u) (f a b : Int32) : f_X4_occupies (z + (B + (5 + 3 * j))) f a b (hp z X) = some (bI (decide ((u 5 = 0 ∨ u 5 = 1) ∧ nI (u 1) = f ∧ nI (u 2) < b ∧ a < nI (u 3))), hp z X) := by
  have h1 := hs.1 1 (by decide)
  have h2 := hs.1 2 (by decide)
  have h3 := hs.1 3 (by decide)
  have h5 := hs.1 5 (by decide)
  have b5 := hu 5
  simp (disch := first | assumption | omega) only [f_X4_occupies_55, f_X4_occupies_20, f_X4_occupies_15, f_X4_occupies, m_gO2, m_pO2, m_gO3, m_pO3, m_gO4, m_pO4, m_rO0, m_rO1, m_rO5, m_rO6, m_rO7, m_iO, m_ldT, m_stT, m_ldS, m_ldM, m_ldL, m_lnS, m_lnM, m_gS0, m_pS0, m_gS1, m_pS1, m_gS2, m_pS2, m_gS3, m_pS3, m_gS4, m_pS4, m_gS5, m_pS5, m_gS6, m_pS6, m_rS7, m_rS8, m_iS, m_gM1, m_pM1, m_gM2, m_pM2, m_rM0, m_iM, m_gL1, m_pL1, m_rL0, m_iL, m_ldP, m_stP, m_ldR, m_stR, m_ldC, m_stC, m_ldK, m_stK, m_gx5, m_px5, m_rx0, m_rx1, m_rx2, m_rx3, m_rx4, m_ix, m_gD1, m_pD1, m_gD2, m_pD2, m_gD3, m_pD3, m_rD0, m_iD, m_ld2, m_st2, m_gH1, m_pH1, m_rH0, m_iH, m_gX1, m_pX1, m_gX2, m_pX2, m_gX3, m_pX3, m_rX0, m_rX4, m_rX5, m_rX6, m_rX7, m_iX, m_ld1273, m_st1273, m_ld1274, m_st1274, m_ld1275, m_st1275, m_ld1276, m_st1276, m_ld1277, m_st1277, m_ldH, zb2_s, zif_t, zopt_n, zopt_s, b_s, znm_e, lit_0, lit_1, lit_2, lit_3, lit_4, lit_5, lit_6, lit_7, lit_8, lit_9, lit_10, lit_11, lit_12, lit_13, lit_14, lit_15, lit_16, lit_17, lit_18, lit_20, lit_24, lit_26, lit_30, lit_40, lit_45, lit_46, lit_47, lit_48, lit_60, lit_63, lit_64, lit_77, lit_100, lit_140, lit_168, lit_200, lit_300, lit_400, lit_900, lit_1000, lit_1168, lit_1997, lit_3333, lit_9999, lit_10000, reduceIte, Nat.reduceEqDiff, Nat.reduceLeDiff, Nat.reduceAdd, Nat.reduceMul, nI_eqE, nI_ltE, nI_leE, zbool_0, zbool_1, zbool_b, bI_0, bI_1, h1, h2, h3, h5]
  by_cases c0 : u 5 = 0
  · by_cases c1 : nI (u 1) = f
    · by_cases c2 : b ≤ nI (u 2)
      · have q2 := Int32.not_lt.mpr c2
        simp [c0, c1, c2, q2, bI]
      · have q2 := Int32.not_le.mp c2
        by_cases c3 : nI (u 3) ≤ a
        · have q3 := Int32.not_lt.mpr c3
          simp [c0, c1, c2, c3, q2, q3, bI]
        · have q3 := Int32.not_le.mp c3
          simp [c0, c1, c2, c3, q2, q3, bI]
    · simp [c0, c1, bI]
  · by_cases c9 : u 5 = 1
    · by_cases c1 : nI (u 1) = f
      · by_cases c2 : b ≤ nI (u 2)
        · have q2 := Int32.not_lt.mpr c2
          simp [c9, c1, c2, q2, bI]
        · have q2 := Int32.not_le.mp c2
          by_cases c3 : nI (u 3) ≤ a
          · have q3 := Int32.not_lt.mpr c3
            simp [c9, c1, c2, c3, q2, q3, bI]
          · have q3 := Int32.not_le.mp c3
            simp [c9, c1, c2, c3, q2, q3, bI]
      · simp [c9, c1, bI]
    · simp [c0, c9, bI]
/-- members with a place, by roles -/
def mrP (u : Nat → Nat) (k : Nat) : Bool := decide (u (20 + k % 12) = k / 12 + 1)
theorem e_rankL1 {z : Nat} {X : pX} {B j : Nat} (hb : isB B) (hj : j < 48) {u : Nat → Nat} (hs : SaC X.1 B j u) (hu : Sm u) {out : Nat → Option (Int32 × zHp)} {r4 : Nat → Int32 → Int32 → Int32 → zHp → Option (Int32 × zHp)} {r q R : Nat} (hq : q < 4) (hR : R < 2 ^ 31)
    (hr4 : ∀ b, b ≤ R → r4 (z + (B + (5 + 3 * j))) (nI R) (nI b) (nI q + nI 1) (hp z X) = some (oI ((nA (mrP u) (12 * (q + 1)) (36 - 12 * q) (R - b)).map (· % 12)), hp z X)) :
    ∀ (n fuel k b : Nat), k + n = 12 → n < fuel → b ≤ R → f_X4_memberOfRank_12 r4 fuel (z + (B + (5 + 3 * j))) (nI R) (nI b) (nI q) (nI k) (hp z X) = some (oI ((nA (mrP u) (12 * q + k) (n + (36 - 12 * q)) (R - b)).map (· % 12)), hp z X) := by
  intro n
  induction n with
  | zero =>
    intro fuel k b h1 h2 h3
    obtain ⟨fuel, rfl⟩ : ∃ f, fuel = f + 1 := ⟨fuel - 1, by omega⟩
    obtain rfl : k = 12 := by omega
    have := hr4 b h3
    simp (disch := first | assumption | omega) only [f_X4_memberOfRank_12, f_X4_memberOfRank_12_body, zb2_s, zif_t, zopt_n, zopt_s, b_s, znm_e, lit_0, lit_1, lit_2, lit_3, lit_4, lit_5, lit_6, lit_7, lit_8, lit_9, lit_10, lit_11, lit_12, lit_13, lit_14, lit_15, lit_16, lit_17, lit_18, lit_20, lit_24, lit_26, lit_30, lit_40, lit_45, lit_46, lit_47, lit_48, lit_60, lit_63, lit_64, lit_77, lit_100, lit_140, lit_168, lit_200, lit_300, lit_400, lit_900, lit_1000, lit_1168, lit_1997, lit_3333, lit_9999, lit_10000, reduceIte, Nat.reduceEqDiff, Nat.reduceLeDiff, Nat.reduceAdd, Nat.reduceMul, nI_eqE, nI_ltE, nI_leE, zbool_0, zbool_1, zbool_b, bI_0, bI_1, Nat.le_refl, if_true, this, Nat.zero_add, Nat.mul_add]
  | succ n ih =>
    intro fuel k b h1 h2 h3
    obtain ⟨fuel, rfl⟩ : ∃ f, fuel = f + 1 := ⟨fuel - 1, by omega⟩
    have h5 := hs.2.2 k (by omega)
    have b5 := hu (20 + k)
    have hk : ¬ 12 ≤ k := by omega
    have i1 := ih fuel (k + 1) b (by omega) (by omega) h3
    have e1 : (12 * q + k) % 12 = k := by omega
    have e2 : (12 * q + k) / 12 = q := by omega
    have e3 : n + 1 + (36 - 12 * q) = (n + (36 - 12 * q)) + 1 := by omega
    rw [e3]
    simp (disch := first | assumption | omega) only [f_X4_memberOfRank_12, f_X4_memberOfRank_12_body, f_X4_memberOfRank_41, m_gO2, m_pO2, m_gO3, m_pO3, m_gO4, m_pO4, m_rO0, m_rO1, m_rO5, m_rO6, m_rO7, m_iO, m_ldT, m_stT, m_ldS, m_ldM, m_ldL, m_lnS, m_lnM, m_gS0, m_pS0, m_gS1, m_pS1, m_gS2, m_pS2, m_gS3, m_pS3, m_gS4, m_pS4, m_gS5, m_pS5, m_gS6, m_pS6, m_rS7, m_rS8, m_iS, m_gM1, m_pM1, m_gM2, m_pM2, m_rM0, m_iM, m_gL1, m_pL1, m_rL0, m_iL, m_ldP, m_stP, m_ldR, m_stR, m_ldC, m_stC, m_ldK, m_stK, m_gx5, m_px5, m_rx0, m_rx1, m_rx2, m_rx3, m_rx4, m_ix, m_gD1, m_pD1, m_gD2, m_pD2, m_gD3, m_pD3, m_rD0, m_iD, m_ld2, m_st2, m_gH1, m_pH1, m_rH0, m_iH, m_gX1, m_pX1, m_gX2, m_pX2, m_gX3, m_pX3, m_rX0, m_rX4, m_rX5, m_rX6, m_rX7, m_iX, m_ld1273, m_st1273, m_ld1274, m_st1274, m_ld1275, m_st1275, m_ld1276, m_st1276, m_ld1277, m_st1277, m_ldH, zb2_s, zif_t, zopt_n, zopt_s, b_s, znm_e, lit_0, lit_1, lit_2, lit_3, lit_4, lit_5, lit_6, lit_7, lit_8, lit_9, lit_10, lit_11, lit_12, lit_13, lit_14, lit_15, lit_16, lit_17, lit_18, lit_20, lit_24, lit_26, lit_30, lit_40, lit_45, lit_46, lit_47, lit_48, lit_60, lit_63, lit_64, lit_77, lit_100, lit_140, lit_168, lit_200, lit_300, lit_400, lit_900, lit_1000, lit_1168, lit_1997, lit_3333, lit_9999, lit_10000, reduceIte, Nat.reduceEqDiff, Nat.reduceLeDiff, Nat.reduceAdd, Nat.reduceMul, nI_eqE, nI_ltE, nI_leE, zbool_0, zbool_1, zbool_b, bI_0, bI_1, hk, if_false, h5, rl_r, nI_add, nI_mul]
    by_cases c : u (20 + k) = q + 1
    · have hp1 : mrP u (12 * q + k) = true := by unfold mrP; rw [e1, e2, c]; simp
      rw [if_pos c]
      by_cases d : b = R
      · subst d
        rw [if_pos rfl, Nat.sub_self, nA_t0 hp1]
        simp only [Option.map, oI, e1]
      · have i2 := ih fuel (k + 1) (b + 1) (by omega) (by omega) (by omega)
        obtain ⟨t, ht⟩ : ∃ t, R - b = t + 1 := ⟨R - b - 1, by omega⟩
        rw [if_neg d, ht, nA_ts hp1, i2, show R - (b + 1) = t by omega, Nat.add_assoc]
    · have hp1 : mrP u (12 * q + k) = false := by unfold mrP; rw [e1, e2]; simp [c]
      rw [if_neg c, nA_f hp1, i1, Nat.add_assoc]
theorem e_rankL2 {z : Nat} {X : pX} {B j : Nat} (hb : isB B) (hj : j < 48) {u : Nat → Nat} (hs : SaC X.1 B j u) (hu : Sm u) {R : Nat} (hR : R < 2 ^ 31) : ∀ (n fuel q b : Nat), q + n = 4 → n < fuel → b ≤ R → f_X4_memberOfRank_4 fuel (z + (B + (5 + 3 * j))) (nI R) (nI b) (nI q) (hp z X) = some (oI ((nA (mrP u) (12 * q) (48 - 12 * q) (R - b)).map (· % 12)), hp z X) := by
  intro n
  induction n with
  | zero =>
    intro fuel q b h1 h2 h3
    obtain ⟨fuel, rfl⟩ : ∃ f, fuel = f + 1 := ⟨fuel - 1, by omega⟩
    obtain rfl : q = 4 := by omega
    simp (disch := first | assumption | omega) only [f_X4_memberOfRank_4, f_X4_memberOfRank_4_body, zb2_s, zif_t, zopt_n, zopt_s, b_s, znm_e, lit_0, lit_1, lit_2, lit_3, lit_4, lit_5, lit_6, lit_7, lit_8, lit_9, lit_10, lit_11, lit_12, lit_13, lit_14, lit_15, lit_16, lit_17, lit_18, lit_20, lit_24, lit_26, lit_30, lit_40, lit_45, lit_46, lit_47, lit_48, lit_60, lit_63, lit_64, lit_77, lit_100, lit_140, lit_168, lit_200, lit_300, lit_400, lit_900, lit_1000, lit_1168, lit_1997, lit_3333, lit_9999, lit_10000, reduceIte, Nat.reduceEqDiff, Nat.reduceLeDiff, Nat.reduceAdd, Nat.reduceMul, nI_eqE, nI_ltE, nI_leE, zbool_0, zbool_1, zbool_b, bI_0, bI_1, Nat.le_refl, if_true, Nat.sub_self, nA_0, Option.map, oI]
  | succ n ih =>
    intro fuel q b h1 h2 h3
    obtain ⟨fuel, rfl⟩ : ∃ f, fuel = f + 1 := ⟨fuel - 1, by omega⟩
    have hq : ¬ 4 ≤ q := by omega
    have i1 := fun b hb => ih fuel (q + 1) b (by omega) (by omega) hb
    have i2 := e_rankL1 (z := z) hb hj hs hu (out := fun _ => none) (r := 0) (r4 := f_X4_memberOfRank_4 fuel) (q := q) (R := R) (by omega) hR (fun b hb => by rw [nI_add, i1 b hb, show 48 - 12 * (q + 1) = 36 - 12 * q by omega]) 12 zN 0 b rfl (zN_lt (by omega)) h3
    simp (disch := first | assumption | omega) only [f_X4_memberOfRank_4, f_X4_memberOfRank_4_body, zb2_s, zif_t, zopt_n, zopt_s, b_s, znm_e, lit_0, lit_1, lit_2, lit_3, lit_4, lit_5, lit_6, lit_7, lit_8, lit_9, lit_10, lit_11, lit_12, lit_13, lit_14, lit_15, lit_16, lit_17, lit_18, lit_20, lit_24, lit_26, lit_30, lit_40, lit_45, lit_46, lit_47, lit_48, lit_60, lit_63, lit_64, lit_77, lit_100, lit_140, lit_168, lit_200, lit_300, lit_400, lit_900, lit_1000, lit_1168, lit_1997, lit_3333, lit_9999, lit_10000, reduceIte, Nat.reduceEqDiff, Nat.reduceLeDiff, Nat.reduceAdd, Nat.reduceMul, nI_eqE, nI_ltE, nI_leE, zbool_0, zbool_1, zbool_b, bI_0, bI_1, hq, if_false, i2]
    rw [show 12 + (36 - 12 * q) = 48 - 12 * q by omega, Nat.add_zero]
theorem e_rank {z : Nat} {X : pX} {B j : Nat} (hb : isB B) (hj : j < 48) {u : Nat → Nat} (hs : SaC X.1 B j u) (hu : Sm u) {R : Nat} (hR : R < 2 ^ 31) : f_X4_memberOfRank (z + (B + (5 + 3 * j))) (nI R) (hp z X) = some (oI ((nA (mrP u) 0 48 R).map (· % 12)), hp z X) := by
  have h := e_rankL2 (z := z) hb hj hs hu hR 4 zN 0 0 rfl (zN_lt (by omega)) (Nat.zero_le _)
  simp only [f_X4_memberOfRank, lit_0, lit_1, lit_2, lit_3, lit_4, lit_5, lit_6, lit_7, lit_8, lit_9, lit_10, lit_11, lit_12, lit_13, lit_14, lit_15, lit_16, lit_17, lit_18, lit_20, lit_24, lit_26, lit_30, lit_40, lit_45, lit_46, lit_47, lit_48, lit_60, lit_63, lit_64, lit_77, lit_100, lit_140, lit_168, lit_200, lit_300, lit_400, lit_900, lit_1000, lit_1168, lit_1997, lit_3333, lit_9999, lit_10000, h, Nat.mul_zero, Nat.sub_zero]
