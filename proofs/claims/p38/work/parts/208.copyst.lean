/-! a State's copyFrom -/
theorem RepP.kept {V V' : pV} {w : Nat → Nat} {B : Nat} {s : Nat → Nat} {u : Nat → Nat → Nat} {ls : Nat → List Nat} {a b c : Nat} (h : RepP V w B s u ls a b c) (h1 : V' B = V B ∧ V' (B + 1) = V (B + 1)) (h2 : ∀ r, r < a → V' (B + (5 + 3 * w r)) = V (B + (5 + 3 * w r)) ∧ V' (B + (6 + 3 * w r)) = V (B + (6 + 3 * w r)) ∧ V' (B + (7 + 3 * w r)) = V (B + (7 + 3 * w r))) (h3 : ∀ k, k < b → V' (B + (149 + 2 * k)) = V (B + (149 + 2 * k)) ∧ V' (B + (150 + 2 * k)) = V (B + (150 + 2 * k))) (h4 : ∀ q, q < c → V' (B + (173 + 2 * q)) = V (B + (173 + 2 * q)) ∧ V' (B + (174 + 2 * q)) = V (B + (174 + 2 * q))) : RepP V' w B s u ls a b c :=
  ⟨h.1.kept h1.1 h1.2, fun r hr => (h.2.1 r hr).kept (h2 r hr).1 (h2 r hr).2.1 (h2 r hr).2.2, fun k hk => (h.2.2.1 k hk).kept (h3 k hk).1 (h3 k hk).2, fun q hq => (h.2.2.2 q hq).kept (h4 q hq).1 (h4 q hq).2⟩
theorem e_cpL {z B C : Nat} (hb : isB B) (hc : isB C) (hd : B + 181 ≤ C ∨ C + 181 ≤ B) {w wC : Nat → Nat} (hw : Ord w) (hwC : Ord wC) {s : Nat → Nat} {u : Nat → Nat → Nat} {ls : Nat → List Nat} (hls : ∀ q, q < 4 → (ls q).length ≤ 12) : ∀ (n fuel k : Nat) (X : pX), k + n = 4 → n < fuel → RepS X.1 wC C s u ls → RepP X.1 w B s u ls 48 12 k → ∃ V', f_X5_copyFrom_98 fuel (z + B) (z + C) (nI k) (hp z X) = some (hp z (V', X.2)) ∧ (∀ o, (o < B ∨ B + 181 ≤ o) → V' o = X.1 o) ∧ RepS V' w B s u ls := by
  intro n
  induction n with
  | zero =>
    intro fuel k X h1 h2 h3 h4
    obtain ⟨fuel, rfl⟩ : ∃ f, fuel = f + 1 := ⟨fuel - 1, by omega⟩
    obtain rfl : k = 4 := by omega
    exact ⟨X.1, by simp (disch := first | assumption | omega) only [f_X5_copyFrom_98, f_X5_copyFrom_98_body, zb2_s, zif_t, zopt_n, zopt_s, b_s, znm_e, lit_0, lit_1, lit_2, lit_3, lit_4, lit_5, lit_6, lit_7, lit_8, lit_9, lit_10, lit_11, lit_12, lit_13, lit_14, lit_15, lit_16, lit_17, lit_18, lit_20, lit_24, lit_26, lit_30, lit_40, lit_45, lit_46, lit_47, lit_48, lit_60, lit_63, lit_64, lit_77, lit_100, lit_140, lit_168, lit_200, lit_300, lit_400, lit_900, lit_1000, lit_1168, lit_1997, lit_3333, lit_9999, lit_10000, reduceIte, Nat.reduceEqDiff, Nat.reduceLeDiff, Nat.reduceAdd, Nat.reduceMul, nI_eqE, nI_ltE, nI_leE, zbool_0, zbool_1, zbool_b, bI_0, bI_1, Nat.le_refl, if_true], fun _ _ => rfl, h4⟩
  | succ n ih =>
    intro fuel k X h1 h2 h3 h4
    obtain ⟨fuel, rfl⟩ : ∃ f, fuel = f + 1 := ⟨fuel - 1, by omega⟩
    have hk : ¬ 4 ≤ k := by omega
    have hk4 : k < 4 := by omega
    obtain ⟨V1, e1, e2, e3⟩ := e_copyL (z := z) (X := X) hb hc hd hk4
    obtain ⟨V', g1, g2, g3⟩ := ih fuel (k + 1) (V1, X.2) (by omega) (by omega) (h3.kept hwC (fun o o1 o2 => e2 o (by omega) (by omega)))
      (by
        have h5 : RepP V1 w B s u ls 48 12 k := h4.kept ⟨e2 _ (by omega) (by omega), e2 _ (by omega) (by omega)⟩ (fun r hr => by have := hw.1 r hr; exact ⟨e2 _ (by omega) (by omega), e2 _ (by omega) (by omega), e2 _ (by omega) (by omega)⟩) (fun k2 hk2 => ⟨e2 _ (by omega) (by omega), e2 _ (by omega) (by omega)⟩) (fun q hq => ⟨e2 _ (by omega) (by omega), e2 _ (by omega) (by omega)⟩)
        refine ⟨h5.1, h5.2.1, h5.2.2.1, fun q hq => ?_⟩
        by_cases c : q = k
        · rw [c]; exact e3 _ (hls k hk4) (h3.2.2.2 k hk4)
        · exact h5.2.2.2 q (by omega))
    refine ⟨V', ?_, fun o ho => by rw [g2 o ho]; exact e2 o (by omega) (by omega), g3⟩
    simp (disch := first | assumption | omega) only [f_X5_copyFrom_98, f_X5_copyFrom_98_body, m_gO2, m_pO2, m_gO3, m_pO3, m_gO4, m_pO4, m_rO0, m_rO1, m_rO5, m_rO6, m_rO7, m_iO, m_ldT, m_stT, m_ldS, m_ldM, m_ldL, m_lnS, m_lnM, m_gS0, m_pS0, m_gS1, m_pS1, m_gS2, m_pS2, m_gS3, m_pS3, m_gS4, m_pS4, m_gS5, m_pS5, m_gS6, m_pS6, m_rS7, m_rS8, m_iS, m_gM1, m_pM1, m_gM2, m_pM2, m_rM0, m_iM, m_gL1, m_pL1, m_rL0, m_iL, m_ldP, m_stP, m_ldR, m_stR, m_ldC, m_stC, m_ldK, m_stK, m_gx5, m_px5, m_rx0, m_rx1, m_rx2, m_rx3, m_rx4, m_ix, m_gD1, m_pD1, m_gD2, m_pD2, m_gD3, m_pD3, m_rD0, m_iD, m_ld2, m_st2, m_gH1, m_pH1, m_rH0, m_iH, m_gX1, m_pX1, m_gX2, m_pX2, m_gX3, m_pX3, m_rX0, m_rX4, m_rX5, m_rX6, m_rX7, m_iX, m_ld1273, m_st1273, m_ld1274, m_st1274, m_ld1275, m_st1275, m_ld1276, m_st1276, m_ld1277, m_st1277, m_ldH, zb2_s, zif_t, zopt_n, zopt_s, b_s, znm_e, lit_0, lit_1, lit_2, lit_3, lit_4, lit_5, lit_6, lit_7, lit_8, lit_9, lit_10, lit_11, lit_12, lit_13, lit_14, lit_15, lit_16, lit_17, lit_18, lit_20, lit_24, lit_26, lit_30, lit_40, lit_45, lit_46, lit_47, lit_48, lit_60, lit_63, lit_64, lit_77, lit_100, lit_140, lit_168, lit_200, lit_300, lit_400, lit_900, lit_1000, lit_1168, lit_1997, lit_3333, lit_9999, lit_10000, reduceIte, Nat.reduceEqDiff, Nat.reduceLeDiff, Nat.reduceAdd, Nat.reduceMul, nI_eqE, nI_ltE, nI_leE, zbool_0, zbool_1, zbool_b, bI_0, bI_1, hk, if_false, e1, nI_add, nI_mul, g1]
theorem e_cpM {z B C : Nat} (hb : isB B) (hc : isB C) (hd : B + 181 ≤ C ∨ C + 181 ≤ B) {w wC : Nat → Nat} (hw : Ord w) (hwC : Ord wC) {s : Nat → Nat} {u : Nat → Nat → Nat} {ls : Nat → List Nat} (hls : ∀ q, q < 4 → (ls q).length ≤ 12) : ∀ (n fuel k : Nat) (X : pX), k + n = 12 → n < fuel → RepS X.1 wC C s u ls → RepP X.1 w B s u ls 48 k 0 → ∃ V', f_X5_copyFrom_69 fuel (z + B) (z + C) (nI k) (hp z X) = some (hp z (V', X.2)) ∧ (∀ o, (o < B ∨ B + 181 ≤ o) → V' o = X.1 o) ∧ RepS V' w B s u ls := by
  intro n
  induction n with
  | zero =>
    intro fuel k X h1 h2 h3 h4
    obtain ⟨fuel, rfl⟩ : ∃ f, fuel = f + 1 := ⟨fuel - 1, by omega⟩
    obtain rfl : k = 12 := by omega
    obtain ⟨V', g1, g2, g3⟩ := e_cpL (z := z) hb hc hd hw hwC hls 4 zN 0 X rfl (zN_lt (by omega)) h3 h4
    exact ⟨V', by simp (disch := first | assumption | omega) only [f_X5_copyFrom_69, f_X5_copyFrom_69_body, zb2_s, zif_t, zopt_n, zopt_s, b_s, znm_e, lit_0, lit_1, lit_2, lit_3, lit_4, lit_5, lit_6, lit_7, lit_8, lit_9, lit_10, lit_11, lit_12, lit_13, lit_14, lit_15, lit_16, lit_17, lit_18, lit_20, lit_24, lit_26, lit_30, lit_40, lit_45, lit_46, lit_47, lit_48, lit_60, lit_63, lit_64, lit_77, lit_100, lit_140, lit_168, lit_200, lit_300, lit_400, lit_900, lit_1000, lit_1168, lit_1997, lit_3333, lit_9999, lit_10000, reduceIte, Nat.reduceEqDiff, Nat.reduceLeDiff, Nat.reduceAdd, Nat.reduceMul, nI_eqE, nI_ltE, nI_leE, zbool_0, zbool_1, zbool_b, bI_0, bI_1, Nat.le_refl, if_true, g1], g2, g3⟩
  | succ n ih =>
    intro fuel k X h1 h2 h3 h4
    obtain ⟨fuel, rfl⟩ : ∃ f, fuel = f + 1 := ⟨fuel - 1, by omega⟩
    have hk : ¬ 12 ≤ k := by omega
    have hk4 : k < 12 := by omega
    obtain ⟨V1, e1, e2, e3⟩ := e_copyM (z := z) (X := X) hb hc hd hk4
    obtain ⟨V', g1, g2, g3⟩ := ih fuel (k + 1) (V1, X.2) (by omega) (by omega) (h3.kept hwC (fun o o1 o2 => e2 o (by omega) (by omega)))
      (by
        have h5 : RepP V1 w B s u ls 48 k 0 := h4.kept ⟨e2 _ (by omega) (by omega), e2 _ (by omega) (by omega)⟩ (fun r hr => by have := hw.1 r hr; exact ⟨e2 _ (by omega) (by omega), e2 _ (by omega) (by omega), e2 _ (by omega) (by omega)⟩) (fun k2 hk2 => ⟨e2 _ (by omega) (by omega), e2 _ (by omega) (by omega)⟩) (fun q hq => by omega)
        refine ⟨h5.1, h5.2.1, fun q hq => ?_, fun q hq => by omega⟩
        by_cases c : q = k
        · rw [c]; exact e3 _ (h3.2.2.1 k hk4)
        · exact h5.2.2.1 q (by omega))
    refine ⟨V', ?_, fun o ho => by rw [g2 o ho]; exact e2 o (by omega) (by omega), g3⟩
    simp (disch := first | assumption | omega) only [f_X5_copyFrom_69, f_X5_copyFrom_69_body, m_gO2, m_pO2, m_gO3, m_pO3, m_gO4, m_pO4, m_rO0, m_rO1, m_rO5, m_rO6, m_rO7, m_iO, m_ldT, m_stT, m_ldS, m_ldM, m_ldL, m_lnS, m_lnM, m_gS0, m_pS0, m_gS1, m_pS1, m_gS2, m_pS2, m_gS3, m_pS3, m_gS4, m_pS4, m_gS5, m_pS5, m_gS6, m_pS6, m_rS7, m_rS8, m_iS, m_gM1, m_pM1, m_gM2, m_pM2, m_rM0, m_iM, m_gL1, m_pL1, m_rL0, m_iL, m_ldP, m_stP, m_ldR, m_stR, m_ldC, m_stC, m_ldK, m_stK, m_gx5, m_px5, m_rx0, m_rx1, m_rx2, m_rx3, m_rx4, m_ix, m_gD1, m_pD1, m_gD2, m_pD2, m_gD3, m_pD3, m_rD0, m_iD, m_ld2, m_st2, m_gH1, m_pH1, m_rH0, m_iH, m_gX1, m_pX1, m_gX2, m_pX2, m_gX3, m_pX3, m_rX0, m_rX4, m_rX5, m_rX6, m_rX7, m_iX, m_ld1273, m_st1273, m_ld1274, m_st1274, m_ld1275, m_st1275, m_ld1276, m_st1276, m_ld1277, m_st1277, m_ldH, zb2_s, zif_t, zopt_n, zopt_s, b_s, znm_e, lit_0, lit_1, lit_2, lit_3, lit_4, lit_5, lit_6, lit_7, lit_8, lit_9, lit_10, lit_11, lit_12, lit_13, lit_14, lit_15, lit_16, lit_17, lit_18, lit_20, lit_24, lit_26, lit_30, lit_40, lit_45, lit_46, lit_47, lit_48, lit_60, lit_63, lit_64, lit_77, lit_100, lit_140, lit_168, lit_200, lit_300, lit_400, lit_900, lit_1000, lit_1168, lit_1997, lit_3333, lit_9999, lit_10000, reduceIte, Nat.reduceEqDiff, Nat.reduceLeDiff, Nat.reduceAdd, Nat.reduceMul, nI_eqE, nI_ltE, nI_leE, zbool_0, zbool_1, zbool_b, bI_0, bI_1, hk, if_false, e1, nI_add, nI_mul, g1]
theorem e_cpS {z B C : Nat} (hb : isB B) (hc : isB C) (hd : B + 181 ≤ C ∨ C + 181 ≤ B) {w wC : Nat → Nat} (hw : Ord w) (hwC : Ord wC) {s : Nat → Nat} {u : Nat → Nat → Nat} {ls : Nat → List Nat} (hls : ∀ q, q < 4 → (ls q).length ≤ 12) : ∀ (n fuel k : Nat) (X : pX), X.2.1 B = w → X.2.1 C = wC → k + n = 48 → n < fuel → RepS X.1 wC C s u ls → RepP X.1 w B s u ls k 0 0 → ∃ V', f_X5_copyFrom_40 fuel (z + B) (z + C) (nI k) (hp z X) = some (hp z (V', X.2)) ∧ (∀ o, (o < B ∨ B + 181 ≤ o) → V' o = X.1 o) ∧ RepS V' w B s u ls := by
  intro n
  induction n with
  | zero =>
    intro fuel k X x1 x2 h1 h2 h3 h4
    obtain ⟨fuel, rfl⟩ : ∃ f, fuel = f + 1 := ⟨fuel - 1, by omega⟩
    obtain rfl : k = 48 := by omega
    obtain ⟨V', g1, g2, g3⟩ := e_cpM (z := z) hb hc hd hw hwC hls 12 zN 0 X rfl (zN_lt (by omega)) h3 h4
    exact ⟨V', by simp (disch := first | assumption | omega) only [f_X5_copyFrom_40, f_X5_copyFrom_40_body, zb2_s, zif_t, zopt_n, zopt_s, b_s, znm_e, lit_0, lit_1, lit_2, lit_3, lit_4, lit_5, lit_6, lit_7, lit_8, lit_9, lit_10, lit_11, lit_12, lit_13, lit_14, lit_15, lit_16, lit_17, lit_18, lit_20, lit_24, lit_26, lit_30, lit_40, lit_45, lit_46, lit_47, lit_48, lit_60, lit_63, lit_64, lit_77, lit_100, lit_140, lit_168, lit_200, lit_300, lit_400, lit_900, lit_1000, lit_1168, lit_1997, lit_3333, lit_9999, lit_10000, reduceIte, Nat.reduceEqDiff, Nat.reduceLeDiff, Nat.reduceAdd, Nat.reduceMul, nI_eqE, nI_ltE, nI_leE, zbool_0, zbool_1, zbool_b, bI_0, bI_1, Nat.le_refl, if_true, g1], g2, g3⟩
  | succ n ih =>
    intro fuel k X x1 x2 h1 h2 h3 h4
    obtain ⟨fuel, rfl⟩ : ∃ f, fuel = f + 1 := ⟨fuel - 1, by omega⟩
    have hk : ¬ 48 ≤ k := by omega
    have hk4 : k < 48 := by omega
    have hw1 := hw.1 k hk4
    have hw2 := hwC.1 k hk4
    obtain ⟨V1, e1, e2, e3⟩ := e_copyS (z := z) (X := X) hb hc hd hw1 hw2
    obtain ⟨V', g1, g2, g3⟩ := ih fuel (k + 1) (V1, X.2) x1 x2 (by omega) (by omega) (h3.kept hwC (fun o o1 o2 => e2 o (by omega) (by omega) (by omega)))
      (by
        have h5 : RepP V1 w B s u ls k 0 0 := h4.kept ⟨e2 _ (by omega) (by omega) (by omega), e2 _ (by omega) (by omega) (by omega)⟩ (fun r hr => by
          have := hw.1 r (by omega)
          have hne : w r ≠ w k := fun q => by have := hw.2 r k (by omega) hk4 q; omega
          exact ⟨e2 _ (by omega) (by omega) (by omega), e2 _ (by omega) (by omega) (by omega), e2 _ (by omega) (by omega) (by omega)⟩) (fun k2 hk2 => by omega) (fun q hq => by omega)
        refine ⟨h5.1, fun q hq => ?_, fun q hq => by omega, fun q hq => by omega⟩
        by_cases c : q = k
        · rw [c]; exact e3 _ (h3.2.1 k hk4)
        · exact h5.2.1 q (by omega))
    refine ⟨V', ?_, fun o ho => by rw [g2 o ho]; exact e2 o (by omega) (by omega) (by omega), g3⟩
    simp (disch := first | assumption | omega) only [f_X5_copyFrom_40, f_X5_copyFrom_40_body, m_gO2, m_pO2, m_gO3, m_pO3, m_gO4, m_pO4, m_rO0, m_rO1, m_rO5, m_rO6, m_rO7, m_iO, m_ldT, m_stT, m_ldS, m_ldM, m_ldL, m_lnS, m_lnM, m_gS0, m_pS0, m_gS1, m_pS1, m_gS2, m_pS2, m_gS3, m_pS3, m_gS4, m_pS4, m_gS5, m_pS5, m_gS6, m_pS6, m_rS7, m_rS8, m_iS, m_gM1, m_pM1, m_gM2, m_pM2, m_rM0, m_iM, m_gL1, m_pL1, m_rL0, m_iL, m_ldP, m_stP, m_ldR, m_stR, m_ldC, m_stC, m_ldK, m_stK, m_gx5, m_px5, m_rx0, m_rx1, m_rx2, m_rx3, m_rx4, m_ix, m_gD1, m_pD1, m_gD2, m_pD2, m_gD3, m_pD3, m_rD0, m_iD, m_ld2, m_st2, m_gH1, m_pH1, m_rH0, m_iH, m_gX1, m_pX1, m_gX2, m_pX2, m_gX3, m_pX3, m_rX0, m_rX4, m_rX5, m_rX6, m_rX7, m_iX, m_ld1273, m_st1273, m_ld1274, m_st1274, m_ld1275, m_st1275, m_ld1276, m_st1276, m_ld1277, m_st1277, m_ldH, zb2_s, zif_t, zopt_n, zopt_s, b_s, znm_e, lit_0, lit_1, lit_2, lit_3, lit_4, lit_5, lit_6, lit_7, lit_8, lit_9, lit_10, lit_11, lit_12, lit_13, lit_14, lit_15, lit_16, lit_17, lit_18, lit_20, lit_24, lit_26, lit_30, lit_40, lit_45, lit_46, lit_47, lit_48, lit_60, lit_63, lit_64, lit_77, lit_100, lit_140, lit_168, lit_200, lit_300, lit_400, lit_900, lit_1000, lit_1168, lit_1997, lit_3333, lit_9999, lit_10000, reduceIte, Nat.reduceEqDiff, Nat.reduceLeDiff, Nat.reduceAdd, Nat.reduceMul, nI_eqE, nI_ltE, nI_leE, zbool_0, zbool_1, zbool_b, bI_0, bI_1, hk, if_false, x1, x2, e1, nI_add, nI_mul, g1]
theorem e_copyO {z : Nat} {X : pX} {B C : Nat} (hb : isB B) (hc : isB C) (hd : B + 181 ≤ C ∨ C + 181 ≤ B) (hw : Ord (X.2.1 B)) (hwC : Ord (X.2.1 C)) {s : Nat → Nat} {u : Nat → Nat → Nat} {ls : Nat → List Nat} (hls : ∀ q, q < 4 → (ls q).length ≤ 12) (hR : RepS X.1 (X.2.1 C) C s u ls) : ∃ V', f_X5_copyFrom (z + B) (z + C) (hp z X) = some (hp z (V', X.2)) ∧ (∀ o, (o < B ∨ B + 181 ≤ o) → V' o = X.1 o) ∧ RepS V' (X.2.1 B) B s u ls := by
  obtain ⟨V1, e1, e2, e3⟩ : ∃ V1, (f_X5_copyFrom (z + B) (z + C) (hp z X) = f_X5_copyFrom_40 zN (z + B) (z + C) (nI 0) (hp z (V1, X.2))) ∧ (∀ o, o ≠ B → o ≠ B + 1 → V1 o = X.1 o) ∧ HdC V1 B s := by
    refine ⟨_, by
      simp (disch := first | assumption | omega) only [f_X5_copyFrom, m_gO2, m_pO2, m_gO3, m_pO3, m_gO4, m_pO4, m_rO0, m_rO1, m_rO5, m_rO6, m_rO7, m_iO, m_ldT, m_stT, m_ldS, m_ldM, m_ldL, m_lnS, m_lnM, m_gS0, m_pS0, m_gS1, m_pS1, m_gS2, m_pS2, m_gS3, m_pS3, m_gS4, m_pS4, m_gS5, m_pS5, m_gS6, m_pS6, m_rS7, m_rS8, m_iS, m_gM1, m_pM1, m_gM2, m_pM2, m_rM0, m_iM, m_gL1, m_pL1, m_rL0, m_iL, m_ldP, m_stP, m_ldR, m_stR, m_ldC, m_stC, m_ldK, m_stK, m_gx5, m_px5, m_rx0, m_rx1, m_rx2, m_rx3, m_rx4, m_ix, m_gD1, m_pD1, m_gD2, m_pD2, m_gD3, m_pD3, m_rD0, m_iD, m_ld2, m_st2, m_gH1, m_pH1, m_rH0, m_iH, m_gX1, m_pX1, m_gX2, m_pX2, m_gX3, m_pX3, m_rX0, m_rX4, m_rX5, m_rX6, m_rX7, m_iX, m_ld1273, m_st1273, m_ld1274, m_st1274, m_ld1275, m_st1275, m_ld1276, m_st1276, m_ld1277, m_st1277, m_ldH, m_cpT, zb2_s, zif_t, zopt_n, zopt_s, b_s, znm_e, lit_0, lit_1, lit_2, lit_3, lit_4, lit_5, lit_6, lit_7, lit_8, lit_9, lit_10, lit_11, lit_12, lit_13, lit_14, lit_15, lit_16, lit_17, lit_18, lit_20, lit_24, lit_26, lit_30, lit_40, lit_45, lit_46, lit_47, lit_48, lit_60, lit_63, lit_64, lit_77, lit_100, lit_140, lit_168, lit_200, lit_300, lit_400, lit_900, lit_1000, lit_1168, lit_1997, lit_3333, lit_9999, lit_10000, reduceIte, Nat.reduceEqDiff, Nat.reduceLeDiff, Nat.reduceAdd, Nat.reduceMul, nI_eqE, nI_ltE, nI_leE, zbool_0, zbool_1, zbool_b, bI_0, bI_1, sV_s, sV_n, sV_sV]
      rfl, ?_, ?_⟩
    · intro o o1 o2
      rw [sV_n o2, sV_n o1]
    · have h := hR.1
      have h1 := h.1
      have h2 := h.2.1
      have h3 := h.2.2.1
      refine ⟨?_, ?_, ?_, fun i hi => ?_⟩
      · rw [sV_n (by omega), sV_s]; simp [upd, h1]
      · rw [sV_n (by omega), sV_s]; simp [upd, h2]
      · rw [sV_n (by omega), sV_s]; simp [upd, h3]
      · rw [sV_s, va_cpy0 hi]; exact h.2.2.2 i hi
  obtain ⟨V', g1, g2, g3⟩ := e_cpS (z := z) hb hc hd hw hwC hls 48 zN 0 (V1, X.2) rfl rfl rfl (zN_lt (by omega)) (hR.kept hwC (fun o o1 o2 => e2 o (by omega) (by omega))) ⟨e3, fun r hr => by omega, fun k hk => by omega, fun q hq => by omega⟩
  exact ⟨V', by rw [e1, g1], fun o ho => by rw [g2 o ho]; exact e2 o (by omega) (by omega), g3⟩
