/-! rests, as the class tells them from the marks -/
def fB (d : dS) (t : Nat) : Bool := decide (d.1 t = 0)
theorem nI_m1 (n : Nat) : nI (n + 1) + -nI 1 = nI n := by
  rw [← Int32.sub_eq_add_neg]; exact nI_pred n
theorem cA_shift (f : Nat → Bool) (k n : Nat) : cA f (k + 1) n + (f k).toNat = cA f k n + (f (k + n)).toNat := by
  have h1 : cA f k (n + 1) = (f k).toNat + cA f (k + 1) n := rfl
  have h2 : cA f k (n + 1) = cA f k n + (f (k + n)).toNat := cA_last
  omega
theorem add_sub3 {a b c d : Nat} (h : d + c = a + b) : nI a + (nI b - nI c) = nI d := by
  rw [Int32.sub_eq_add_neg, ← Int32.add_assoc, nI_add, ← h, ← nI_add, ← Int32.sub_eq_add_neg, Int32.add_sub_cancel]
theorem e_restAt {z : Nat} {X : pX} {d : dS} (hd : DuC X.1 d) (ho : dOk d) {t : Nat} (ht : t < 100000) : f_X0_restAt (z + 1) (nI t) (hp z X) = some (nI (fB d t).toNat, hp z X) := by
  have b0 := ho.1 t
  by_cases c : 1168 ≤ t
  · have : fB d t = true := decide_eq_true (ho.2.2.2 t (by have := ho.2.1; omega))
    rw [this]
    simp (disch := first | assumption | omega) only [f_X0_restAt_20, f_X0_restAt, m_gO2, m_pO2, m_gO3, m_pO3, m_gO4, m_pO4, m_rO0, m_rO1, m_rO5, m_rO6, m_rO7, m_iO, m_ldT, m_stT, m_ldS, m_ldM, m_ldL, m_lnS, m_lnM, m_gS0, m_pS0, m_gS1, m_pS1, m_gS2, m_pS2, m_gS3, m_pS3, m_gS4, m_pS4, m_gS5, m_pS5, m_gS6, m_pS6, m_rS7, m_rS8, m_iS, m_gM1, m_pM1, m_gM2, m_pM2, m_rM0, m_iM, m_gL1, m_pL1, m_rL0, m_iL, m_ldP, m_stP, m_ldR, m_stR, m_ldC, m_stC, m_ldK, m_stK, m_gx5, m_px5, m_rx0, m_rx1, m_rx2, m_rx3, m_rx4, m_ix, m_gD1, m_pD1, m_gD2, m_pD2, m_gD3, m_pD3, m_rD0, m_iD, m_ld2, m_st2, m_gH1, m_pH1, m_rH0, m_iH, m_gX1, m_pX1, m_gX2, m_pX2, m_gX3, m_pX3, m_rX0, m_rX4, m_rX5, m_rX6, m_rX7, m_iX, m_ld1273, m_st1273, m_ld1274, m_st1274, m_ld1275, m_st1275, m_ld1276, m_st1276, m_ld1277, m_st1277, m_ldH, zb2_s, zif_t, zopt_n, zopt_s, b_s, znm_e, lit_0, lit_1, lit_2, lit_3, lit_4, lit_5, lit_6, lit_7, lit_8, lit_9, lit_10, lit_11, lit_12, lit_13, lit_14, lit_15, lit_16, lit_17, lit_18, lit_20, lit_24, lit_26, lit_30, lit_40, lit_45, lit_46, lit_47, lit_48, lit_60, lit_63, lit_64, lit_77, lit_100, lit_140, lit_168, lit_200, lit_300, lit_400, lit_900, lit_1000, lit_1168, lit_1997, lit_3333, lit_9999, lit_10000, reduceIte, Nat.reduceEqDiff, Nat.reduceLeDiff, Nat.reduceAdd, Nat.reduceMul, nI_eqE, nI_ltE, nI_leE, zbool_0, zbool_1, zbool_b, bI_0, bI_1]
    rw [if_neg (by omega), if_pos c]; rfl
  · have h0 := hd.1 t (by omega)
    simp (disch := first | assumption | omega) only [f_X0_restAt_20, f_X0_restAt, m_gO2, m_pO2, m_gO3, m_pO3, m_gO4, m_pO4, m_rO0, m_rO1, m_rO5, m_rO6, m_rO7, m_iO, m_ldT, m_stT, m_ldS, m_ldM, m_ldL, m_lnS, m_lnM, m_gS0, m_pS0, m_gS1, m_pS1, m_gS2, m_pS2, m_gS3, m_pS3, m_gS4, m_pS4, m_gS5, m_pS5, m_gS6, m_pS6, m_rS7, m_rS8, m_iS, m_gM1, m_pM1, m_gM2, m_pM2, m_rM0, m_iM, m_gL1, m_pL1, m_rL0, m_iL, m_ldP, m_stP, m_ldR, m_stR, m_ldC, m_stC, m_ldK, m_stK, m_gx5, m_px5, m_rx0, m_rx1, m_rx2, m_rx3, m_rx4, m_ix, m_gD1, m_pD1, m_gD2, m_pD2, m_gD3, m_pD3, m_rD0, m_iD, m_ld2, m_st2, m_gH1, m_pH1, m_rH0, m_iH, m_gX1, m_pX1, m_gX2, m_pX2, m_gX3, m_pX3, m_rX0, m_rX4, m_rX5, m_rX6, m_rX7, m_iX, m_ld1273, m_st1273, m_ld1274, m_st1274, m_ld1275, m_st1275, m_ld1276, m_st1276, m_ld1277, m_st1277, m_ldH, zb2_s, zif_t, zopt_n, zopt_s, b_s, znm_e, lit_0, lit_1, lit_2, lit_3, lit_4, lit_5, lit_6, lit_7, lit_8, lit_9, lit_10, lit_11, lit_12, lit_13, lit_14, lit_15, lit_16, lit_17, lit_18, lit_20, lit_24, lit_26, lit_30, lit_40, lit_45, lit_46, lit_47, lit_48, lit_60, lit_63, lit_64, lit_77, lit_100, lit_140, lit_168, lit_200, lit_300, lit_400, lit_900, lit_1000, lit_1168, lit_1997, lit_3333, lit_9999, lit_10000, reduceIte, Nat.reduceEqDiff, Nat.reduceLeDiff, Nat.reduceAdd, Nat.reduceMul, nI_eqE, nI_ltE, nI_leE, zbool_0, zbool_1, zbool_b, bI_0, bI_1, h0]
    rw [if_neg (by omega), if_neg c]
    by_cases c2 : d.1 t = 0
    · have : fB d t = true := decide_eq_true c2
      rw [if_pos c2, this]; rfl
    · have : fB d t = false := decide_eq_false c2
      rw [if_neg c2, this]; rfl
theorem e_restInL {z : Nat} {X : pX} {d : dS} (hd : DuC X.1 d) (ho : dOk d) {a N : Nat} (ha : a + N < 100000) : ∀ (n fuel k r : Nat), k + n = a + N → n < fuel → f_X0_restIn_5 fuel (z + 1) (nI a) (nI N) (nI (r + n)) (nI k) (hp z X) = some (nI (r + cA (fB d) k n), hp z X) := by
  intro n
  induction n with
  | zero =>
    intro fuel k r h1 h2
    obtain ⟨fuel, rfl⟩ : ∃ f, fuel = f + 1 := ⟨fuel - 1, by omega⟩
    have h1 : k = a + N := h1
    simp (disch := first | assumption | omega) only [f_X0_restIn_5, f_X0_restIn_5_body, m_gO2, m_pO2, m_gO3, m_pO3, m_gO4, m_pO4, m_rO0, m_rO1, m_rO5, m_rO6, m_rO7, m_iO, m_ldT, m_stT, m_ldS, m_ldM, m_ldL, m_lnS, m_lnM, m_gS0, m_pS0, m_gS1, m_pS1, m_gS2, m_pS2, m_gS3, m_pS3, m_gS4, m_pS4, m_gS5, m_pS5, m_gS6, m_pS6, m_rS7, m_rS8, m_iS, m_gM1, m_pM1, m_gM2, m_pM2, m_rM0, m_iM, m_gL1, m_pL1, m_rL0, m_iL, m_ldP, m_stP, m_ldR, m_stR, m_ldC, m_stC, m_ldK, m_stK, m_gx5, m_px5, m_rx0, m_rx1, m_rx2, m_rx3, m_rx4, m_ix, m_gD1, m_pD1, m_gD2, m_pD2, m_gD3, m_pD3, m_rD0, m_iD, m_ld2, m_st2, m_gH1, m_pH1, m_rH0, m_iH, m_gX1, m_pX1, m_gX2, m_pX2, m_gX3, m_pX3, m_rX0, m_rX4, m_rX5, m_rX6, m_rX7, m_iX, m_ld1273, m_st1273, m_ld1274, m_st1274, m_ld1275, m_st1275, m_ld1276, m_st1276, m_ld1277, m_st1277, m_ldH, zb2_s, zif_t, zopt_n, zopt_s, b_s, znm_e, lit_0, lit_1, lit_2, lit_3, lit_4, lit_5, lit_6, lit_7, lit_8, lit_9, lit_10, lit_11, lit_12, lit_13, lit_14, lit_15, lit_16, lit_17, lit_18, lit_20, lit_24, lit_26, lit_30, lit_40, lit_45, lit_46, lit_47, lit_48, lit_60, lit_63, lit_64, lit_77, lit_100, lit_140, lit_168, lit_200, lit_300, lit_400, lit_900, lit_1000, lit_1168, lit_1997, lit_3333, lit_9999, lit_10000, reduceIte, Nat.reduceEqDiff, Nat.reduceLeDiff, Nat.reduceAdd, Nat.reduceMul, nI_eqE, nI_ltE, nI_leE, zbool_0, zbool_1, zbool_b, bI_0, bI_1, nI_add, nI_mul, cA_0]
    rw [if_pos (by omega)]
  | succ n ih =>
    intro fuel k r h1 h2
    obtain ⟨fuel, rfl⟩ : ∃ f, fuel = f + 1 := ⟨fuel - 1, by omega⟩
    have b0 := ho.1 k
    have i1 := ih fuel (k + 1) (r + 1) (by omega) (by omega)
    have i2 := ih fuel (k + 1) r (by omega) (by omega)
    rw [show r + 1 + n = r + (n + 1) by omega] at i1
    by_cases c : 1168 ≤ k
    · have hf : fB d k = true := decide_eq_true (ho.2.2.2 k (by have := ho.2.1; omega))
      simp (disch := first | assumption | omega) only [f_X0_restIn_5, f_X0_restIn_5_body, f_X0_restIn_39, m_gO2, m_pO2, m_gO3, m_pO3, m_gO4, m_pO4, m_rO0, m_rO1, m_rO5, m_rO6, m_rO7, m_iO, m_ldT, m_stT, m_ldS, m_ldM, m_ldL, m_lnS, m_lnM, m_gS0, m_pS0, m_gS1, m_pS1, m_gS2, m_pS2, m_gS3, m_pS3, m_gS4, m_pS4, m_gS5, m_pS5, m_gS6, m_pS6, m_rS7, m_rS8, m_iS, m_gM1, m_pM1, m_gM2, m_pM2, m_rM0, m_iM, m_gL1, m_pL1, m_rL0, m_iL, m_ldP, m_stP, m_ldR, m_stR, m_ldC, m_stC, m_ldK, m_stK, m_gx5, m_px5, m_rx0, m_rx1, m_rx2, m_rx3, m_rx4, m_ix, m_gD1, m_pD1, m_gD2, m_pD2, m_gD3, m_pD3, m_rD0, m_iD, m_ld2, m_st2, m_gH1, m_pH1, m_rH0, m_iH, m_gX1, m_pX1, m_gX2, m_pX2, m_gX3, m_pX3, m_rX0, m_rX4, m_rX5, m_rX6, m_rX7, m_iX, m_ld1273, m_st1273, m_ld1274, m_st1274, m_ld1275, m_st1275, m_ld1276, m_st1276, m_ld1277, m_st1277, m_ldH, zb2_s, zif_t, zopt_n, zopt_s, b_s, znm_e, lit_0, lit_1, lit_2, lit_3, lit_4, lit_5, lit_6, lit_7, lit_8, lit_9, lit_10, lit_11, lit_12, lit_13, lit_14, lit_15, lit_16, lit_17, lit_18, lit_20, lit_24, lit_26, lit_30, lit_40, lit_45, lit_46, lit_47, lit_48, lit_60, lit_63, lit_64, lit_77, lit_100, lit_140, lit_168, lit_200, lit_300, lit_400, lit_900, lit_1000, lit_1168, lit_1997, lit_3333, lit_9999, lit_10000, reduceIte, Nat.reduceEqDiff, Nat.reduceLeDiff, Nat.reduceAdd, Nat.reduceMul, nI_eqE, nI_ltE, nI_leE, zbool_0, zbool_1, zbool_b, bI_0, bI_1, nI_add, nI_mul, i1]
      rw [if_neg (by omega), if_neg (by omega), if_pos c, cA_t hf, Nat.add_assoc]
    · have h0 := hd.1 k (by omega)
      by_cases c2 : d.1 k = 0
      · have hf : fB d k = true := decide_eq_true c2
        simp (disch := first | assumption | omega) only [f_X0_restIn_5, f_X0_restIn_5_body, f_X0_restIn_39, m_gO2, m_pO2, m_gO3, m_pO3, m_gO4, m_pO4, m_rO0, m_rO1, m_rO5, m_rO6, m_rO7, m_iO, m_ldT, m_stT, m_ldS, m_ldM, m_ldL, m_lnS, m_lnM, m_gS0, m_pS0, m_gS1, m_pS1, m_gS2, m_pS2, m_gS3, m_pS3, m_gS4, m_pS4, m_gS5, m_pS5, m_gS6, m_pS6, m_rS7, m_rS8, m_iS, m_gM1, m_pM1, m_gM2, m_pM2, m_rM0, m_iM, m_gL1, m_pL1, m_rL0, m_iL, m_ldP, m_stP, m_ldR, m_stR, m_ldC, m_stC, m_ldK, m_stK, m_gx5, m_px5, m_rx0, m_rx1, m_rx2, m_rx3, m_rx4, m_ix, m_gD1, m_pD1, m_gD2, m_pD2, m_gD3, m_pD3, m_rD0, m_iD, m_ld2, m_st2, m_gH1, m_pH1, m_rH0, m_iH, m_gX1, m_pX1, m_gX2, m_pX2, m_gX3, m_pX3, m_rX0, m_rX4, m_rX5, m_rX6, m_rX7, m_iX, m_ld1273, m_st1273, m_ld1274, m_st1274, m_ld1275, m_st1275, m_ld1276, m_st1276, m_ld1277, m_st1277, m_ldH, zb2_s, zif_t, zopt_n, zopt_s, b_s, znm_e, lit_0, lit_1, lit_2, lit_3, lit_4, lit_5, lit_6, lit_7, lit_8, lit_9, lit_10, lit_11, lit_12, lit_13, lit_14, lit_15, lit_16, lit_17, lit_18, lit_20, lit_24, lit_26, lit_30, lit_40, lit_45, lit_46, lit_47, lit_48, lit_60, lit_63, lit_64, lit_77, lit_100, lit_140, lit_168, lit_200, lit_300, lit_400, lit_900, lit_1000, lit_1168, lit_1997, lit_3333, lit_9999, lit_10000, reduceIte, Nat.reduceEqDiff, Nat.reduceLeDiff, Nat.reduceAdd, Nat.reduceMul, nI_eqE, nI_ltE, nI_leE, zbool_0, zbool_1, zbool_b, bI_0, bI_1, nI_add, nI_mul, h0, i1]
        rw [if_neg (by omega), if_neg (by omega), if_neg c, if_pos c2, cA_t hf, Nat.add_assoc]
      · have hf : fB d k = false := decide_eq_false c2
        rw [← Nat.add_assoc]
        simp (disch := first | assumption | omega) only [f_X0_restIn_5, f_X0_restIn_5_body, f_X0_restIn_39, m_gO2, m_pO2, m_gO3, m_pO3, m_gO4, m_pO4, m_rO0, m_rO1, m_rO5, m_rO6, m_rO7, m_iO, m_ldT, m_stT, m_ldS, m_ldM, m_ldL, m_lnS, m_lnM, m_gS0, m_pS0, m_gS1, m_pS1, m_gS2, m_pS2, m_gS3, m_pS3, m_gS4, m_pS4, m_gS5, m_pS5, m_gS6, m_pS6, m_rS7, m_rS8, m_iS, m_gM1, m_pM1, m_gM2, m_pM2, m_rM0, m_iM, m_gL1, m_pL1, m_rL0, m_iL, m_ldP, m_stP, m_ldR, m_stR, m_ldC, m_stC, m_ldK, m_stK, m_gx5, m_px5, m_rx0, m_rx1, m_rx2, m_rx3, m_rx4, m_ix, m_gD1, m_pD1, m_gD2, m_pD2, m_gD3, m_pD3, m_rD0, m_iD, m_ld2, m_st2, m_gH1, m_pH1, m_rH0, m_iH, m_gX1, m_pX1, m_gX2, m_pX2, m_gX3, m_pX3, m_rX0, m_rX4, m_rX5, m_rX6, m_rX7, m_iX, m_ld1273, m_st1273, m_ld1274, m_st1274, m_ld1275, m_st1275, m_ld1276, m_st1276, m_ld1277, m_st1277, m_ldH, zb2_s, zif_t, zopt_n, zopt_s, b_s, znm_e, lit_0, lit_1, lit_2, lit_3, lit_4, lit_5, lit_6, lit_7, lit_8, lit_9, lit_10, lit_11, lit_12, lit_13, lit_14, lit_15, lit_16, lit_17, lit_18, lit_20, lit_24, lit_26, lit_30, lit_40, lit_45, lit_46, lit_47, lit_48, lit_60, lit_63, lit_64, lit_77, lit_100, lit_140, lit_168, lit_200, lit_300, lit_400, lit_900, lit_1000, lit_1168, lit_1997, lit_3333, lit_9999, lit_10000, reduceIte, Nat.reduceEqDiff, Nat.reduceLeDiff, Nat.reduceAdd, Nat.reduceMul, nI_eqE, nI_ltE, nI_leE, zbool_0, zbool_1, zbool_b, bI_0, bI_1, nI_add, nI_mul, h0, nI_m1, i2]
        rw [if_neg (by omega), if_neg (by omega), if_neg c, if_neg c2, cA_f hf]
theorem e_restIn {z : Nat} {X : pX} {d : dS} (hd : DuC X.1 d) (ho : dOk d) {a N : Nat} (ha : a + N < 100000) : f_X0_restIn (z + 1) (nI a) (nI N) (hp z X) = some (nI (cA (fB d) a N), hp z X) := by
  have h := e_restInL (z := z) hd ho ha N zN a 0 rfl (zN_lt (by omega))
  simp only [Nat.zero_add] at h
  simp only [f_X0_restIn, h]
def rowB (f : Nat → Bool) (least len a T : Nat) : Bool := decide (∀ t, t < T → a ≤ t → least ≤ cA f t len)
theorem rowB_t {f : Nat → Bool} {least len a T : Nat} (h : T ≤ a) : rowB f least len a T = true := decide_eq_true (fun t h1 h2 => by omega)
theorem rowB_s {f : Nat → Bool} {least len a T : Nat} (h : a < T) : rowB f least len a T = (decide (least ≤ cA f a len) && rowB f least len (a + 1) T) := by
  by_cases c : least ≤ cA f a len
  · rw [decide_eq_true c, Bool.true_and]
    unfold rowB
    refine decide_eq_decide.mpr ⟨fun q t h1 h2 => q t h1 (by omega), fun q t h1 h2 => ?_⟩
    rcases Nat.lt_or_ge a t with e | e
    · exact q t h1 e
    · rw [show t = a by omega]; exact c
  · rw [decide_eq_false c, Bool.false_and]
    exact decide_eq_false (fun q => c (q a h (Nat.le_refl _)))
theorem e_rowL {z : Nat} {X : pX} {d : dS} (hd : DuC X.1 d) (ho : dOk d) {least len T : Nat} (hl : least < 100000) (hlen : len < 1000) (hT : T < 5000) : ∀ (n fuel k : Nat), k + n = T ∨ (n = 0 ∧ T ≤ k) → k < 6000 → n < fuel → f_X0_everyRowHas_11 fuel (z + 1) (nI least) (nI len) (nI T) (nI (cA (fB d) k len)) (nI k) (hp z X) = some (bI (rowB (fB d) least len k T), hp z X) := by
  intro n
  induction n with
  | zero =>
    intro fuel k h1 hk h2
    obtain ⟨fuel, rfl⟩ : ∃ f, fuel = f + 1 := ⟨fuel - 1, by omega⟩
    rw [rowB_t (by omega)]
    simp (disch := first | assumption | omega) only [f_X0_everyRowHas_11, f_X0_everyRowHas_11_body, m_gO2, m_pO2, m_gO3, m_pO3, m_gO4, m_pO4, m_rO0, m_rO1, m_rO5, m_rO6, m_rO7, m_iO, m_ldT, m_stT, m_ldS, m_ldM, m_ldL, m_lnS, m_lnM, m_gS0, m_pS0, m_gS1, m_pS1, m_gS2, m_pS2, m_gS3, m_pS3, m_gS4, m_pS4, m_gS5, m_pS5, m_gS6, m_pS6, m_rS7, m_rS8, m_iS, m_gM1, m_pM1, m_gM2, m_pM2, m_rM0, m_iM, m_gL1, m_pL1, m_rL0, m_iL, m_ldP, m_stP, m_ldR, m_stR, m_ldC, m_stC, m_ldK, m_stK, m_gx5, m_px5, m_rx0, m_rx1, m_rx2, m_rx3, m_rx4, m_ix, m_gD1, m_pD1, m_gD2, m_pD2, m_gD3, m_pD3, m_rD0, m_iD, m_ld2, m_st2, m_gH1, m_pH1, m_rH0, m_iH, m_gX1, m_pX1, m_gX2, m_pX2, m_gX3, m_pX3, m_rX0, m_rX4, m_rX5, m_rX6, m_rX7, m_iX, m_ld1273, m_st1273, m_ld1274, m_st1274, m_ld1275, m_st1275, m_ld1276, m_st1276, m_ld1277, m_st1277, m_ldH, zb2_s, zif_t, zopt_n, zopt_s, b_s, znm_e, lit_0, lit_1, lit_2, lit_3, lit_4, lit_5, lit_6, lit_7, lit_8, lit_9, lit_10, lit_11, lit_12, lit_13, lit_14, lit_15, lit_16, lit_17, lit_18, lit_20, lit_24, lit_26, lit_30, lit_40, lit_45, lit_46, lit_47, lit_48, lit_60, lit_63, lit_64, lit_77, lit_100, lit_140, lit_168, lit_200, lit_300, lit_400, lit_900, lit_1000, lit_1168, lit_1997, lit_3333, lit_9999, lit_10000, reduceIte, Nat.reduceEqDiff, Nat.reduceLeDiff, Nat.reduceAdd, Nat.reduceMul, nI_eqE, nI_ltE, nI_leE, zbool_0, zbool_1, zbool_b, bI_0, bI_1]
    rw [if_pos (by omega)]; rfl
  | succ n ih =>
    intro fuel k h1 hk h2
    obtain ⟨fuel, rfl⟩ : ∃ f, fuel = f + 1 := ⟨fuel - 1, by omega⟩
    have hc := cA_le (fB d) len k
    have i1 := ih fuel (k + 1) (by omega) (by omega) (by omega)
    have g1 := e_restAt (z := z) hd ho (t := k) (by omega)
    have g2 := e_restAt (z := z) hd ho (t := k + len) (by omega)
    have g3 := add_sub3 (cA_shift (fB d) k len)
    rw [rowB_s (by omega)]
    simp (disch := first | assumption | omega) only [f_X0_everyRowHas_11, f_X0_everyRowHas_11_body, m_gO2, m_pO2, m_gO3, m_pO3, m_gO4, m_pO4, m_rO0, m_rO1, m_rO5, m_rO6, m_rO7, m_iO, m_ldT, m_stT, m_ldS, m_ldM, m_ldL, m_lnS, m_lnM, m_gS0, m_pS0, m_gS1, m_pS1, m_gS2, m_pS2, m_gS3, m_pS3, m_gS4, m_pS4, m_gS5, m_pS5, m_gS6, m_pS6, m_rS7, m_rS8, m_iS, m_gM1, m_pM1, m_gM2, m_pM2, m_rM0, m_iM, m_gL1, m_pL1, m_rL0, m_iL, m_ldP, m_stP, m_ldR, m_stR, m_ldC, m_stC, m_ldK, m_stK, m_gx5, m_px5, m_rx0, m_rx1, m_rx2, m_rx3, m_rx4, m_ix, m_gD1, m_pD1, m_gD2, m_pD2, m_gD3, m_pD3, m_rD0, m_iD, m_ld2, m_st2, m_gH1, m_pH1, m_rH0, m_iH, m_gX1, m_pX1, m_gX2, m_pX2, m_gX3, m_pX3, m_rX0, m_rX4, m_rX5, m_rX6, m_rX7, m_iX, m_ld1273, m_st1273, m_ld1274, m_st1274, m_ld1275, m_st1275, m_ld1276, m_st1276, m_ld1277, m_st1277, m_ldH, zb2_s, zif_t, zopt_n, zopt_s, b_s, znm_e, lit_0, lit_1, lit_2, lit_3, lit_4, lit_5, lit_6, lit_7, lit_8, lit_9, lit_10, lit_11, lit_12, lit_13, lit_14, lit_15, lit_16, lit_17, lit_18, lit_20, lit_24, lit_26, lit_30, lit_40, lit_45, lit_46, lit_47, lit_48, lit_60, lit_63, lit_64, lit_77, lit_100, lit_140, lit_168, lit_200, lit_300, lit_400, lit_900, lit_1000, lit_1168, lit_1997, lit_3333, lit_9999, lit_10000, reduceIte, Nat.reduceEqDiff, Nat.reduceLeDiff, Nat.reduceAdd, Nat.reduceMul, nI_eqE, nI_ltE, nI_leE, zbool_0, zbool_1, zbool_b, bI_0, bI_1, nI_add, nI_mul, g1, g2, g3, i1]
    rw [if_neg (by omega)]
    by_cases c : least ≤ cA (fB d) k len
    · rw [if_pos c, decide_eq_true c, Bool.true_and]
    · rw [if_neg c, decide_eq_false c, Bool.false_and]; rfl
theorem e_row {z : Nat} {X : pX} {d : dS} (hd : DuC X.1 d) (ho : dOk d) {least len a T : Nat} (hl : least < 100000) (hlen : len < 1000) (ha : a < 5000) (hT : T < 5000) : f_X0_everyRowHas (z + 1) (nI least) (nI len) (nI a) (nI T) (hp z X) = some (bI (rowB (fB d) least len a T), hp z X) := by
  have h := e_rowL (z := z) hd ho hl hlen hT (T - a) zN a (by omega) (by omega) (zN_lt (by omega))
  have g := e_restIn (z := z) hd ho (a := a) (N := len) (by omega)
  simp (disch := first | assumption | omega) only [f_X0_everyRowHas, m_gO2, m_pO2, m_gO3, m_pO3, m_gO4, m_pO4, m_rO0, m_rO1, m_rO5, m_rO6, m_rO7, m_iO, m_ldT, m_stT, m_ldS, m_ldM, m_ldL, m_lnS, m_lnM, m_gS0, m_pS0, m_gS1, m_pS1, m_gS2, m_pS2, m_gS3, m_pS3, m_gS4, m_pS4, m_gS5, m_pS5, m_gS6, m_pS6, m_rS7, m_rS8, m_iS, m_gM1, m_pM1, m_gM2, m_pM2, m_rM0, m_iM, m_gL1, m_pL1, m_rL0, m_iL, m_ldP, m_stP, m_ldR, m_stR, m_ldC, m_stC, m_ldK, m_stK, m_gx5, m_px5, m_rx0, m_rx1, m_rx2, m_rx3, m_rx4, m_ix, m_gD1, m_pD1, m_gD2, m_pD2, m_gD3, m_pD3, m_rD0, m_iD, m_ld2, m_st2, m_gH1, m_pH1, m_rH0, m_iH, m_gX1, m_pX1, m_gX2, m_pX2, m_gX3, m_pX3, m_rX0, m_rX4, m_rX5, m_rX6, m_rX7, m_iX, m_ld1273, m_st1273, m_ld1274, m_st1274, m_ld1275, m_st1275, m_ld1276, m_st1276, m_ld1277, m_st1277, m_ldH, zb2_s, zif_t, zopt_n, zopt_s, b_s, znm_e, g, h]
def dayL (f : Nat → Bool) (len a : Nat) : Nat → Nat → Nat → Nat → Bool
  | _, 0, _, _ => true
  | k, n + 1, run, lat =>
    let run' := match f k with | true => run + 1 | false => 0
    let lat' := if run' < len then lat else k + 2 - len
    if a + 23 ≤ k ∧ lat' < k - 22 then false else dayL f len a (k + 1) n run' lat'
def dayB (f : Nat → Bool) (len a T : Nat) : Bool := dayL f len a a (T + 23 - a) 0 0
theorem w23 {k : Nat} (h : k < 100000) : (nI k - nI 24 + nI 1).toInt = (k : Int) - 23 := by
  have e : nI k - nI 24 + nI 1 = nI (k + 1) - nI 24 := by
    rw [Int32.sub_eq_add_neg, Int32.add_assoc, Int32.add_comm (-nI 24), ← Int32.add_assoc, nI_add, ← Int32.sub_eq_add_neg]
  rw [e, pk_sub_toInt (by omega) (by omega)]
  omega
theorem rl_toInt {p : Nat} (h : p < 100000) : (rl p).toInt = (p : Int) - 1 := by
  unfold rl
  rw [pk_sub_toInt (by omega) (by omega)]
  omega
theorem lat_e {k len : Nat} (h : len ≤ k + 1) : nI k - nI len + nI 1 = rl (k + 2 - len) := by
  have e : nI k - nI len + nI 1 = nI (k + 1) - nI len := by
    rw [Int32.sub_eq_add_neg, Int32.add_assoc, Int32.add_comm (-nI len), ← Int32.add_assoc, nI_add, ← Int32.sub_eq_add_neg]
  rw [e, nI_sub h, show k + 2 - len = (k + 1 - len) + 1 by omega, rl_s]
theorem e_dayL {z : Nat} {X : pX} {d : dS} (hd : DuC X.1 d) (ho : dOk d) {len a T : Nat} (hlen : len < 1000) (ha : a < 5000) (hT : T < 5000) : ∀ (n fuel k run lat : Nat), k + n = T + 23 ∨ (n = 0 ∧ T + 23 ≤ k) → run ≤ k → lat ≤ k + 1 → k < 6000 → n < fuel → f_X0_everyDayHasLongRest_9 fuel (z + 1) (nI len) (nI a) (nI T) (nI run) (rl lat) (nI k) (hp z X) = some (bI (dayL (fB d) len a k n run lat), hp z X) := by
  intro n
  induction n with
  | zero =>
    intro fuel k run lat h1 hr hlat hk h2
    obtain ⟨fuel, rfl⟩ : ∃ f, fuel = f + 1 := ⟨fuel - 1, by omega⟩
    have e23 : nI T + nI 24 - nI 1 = nI (T + 23) := by rw [nI_add, nI_sub (by omega)]; congr 1
    simp (disch := first | assumption | omega) only [f_X0_everyDayHasLongRest_9, f_X0_everyDayHasLongRest_9_body, lit_0, lit_1, lit_2, lit_3, lit_4, lit_5, lit_6, lit_7, lit_8, lit_9, lit_10, lit_11, lit_12, lit_13, lit_14, lit_15, lit_16, lit_17, lit_18, lit_20, lit_24, lit_26, lit_30, lit_40, lit_45, lit_46, lit_47, lit_48, lit_60, lit_63, lit_64, lit_77, lit_100, lit_140, lit_168, lit_200, lit_300, lit_400, lit_900, lit_1000, lit_1168, lit_1997, lit_3333, lit_9999, lit_10000, e23, nI_leE]
    rw [if_pos (by omega)]; rfl
  | succ n ih =>
    intro fuel k run lat h1 hr hlat hk h2
    obtain ⟨fuel, rfl⟩ : ∃ f, fuel = f + 1 := ⟨fuel - 1, by omega⟩
    have e23 : nI T + nI 24 - nI 1 = nI (T + 23) := by rw [nI_add, nI_sub (by omega)]; congr 1
    have e24 : nI (T + 24) - nI 1 = nI (T + 23) := nI_pred' (T + 23)
    have g1 := e_restAt (z := z) hd ho (t := k) (by omega)
    have key : ∀ run' lat', run' ≤ k + 1 → lat' ≤ k + 2 → f_X0_everyDayHasLongRest_54 (f_X0_everyDayHasLongRest_9 fuel) (z + 1) (nI len) (nI a) (nI T) (nI run') (rl lat') (nI k) (hp z X) = some (bI (if a + 23 ≤ k ∧ lat' < k - 22 then false else dayL (fB d) len a (k + 1) n run' lat'), hp z X) := by
      intro run' lat' q1 q2
      have i1 := ih fuel (k + 1) run' lat' (by omega) (by omega) (by omega) (by omega) (by omega)
      have t1 := w23 (k := k) (by omega)
      have t2 : (nI a).toInt = (a : Int) := nI_toInt (by omega)
      have t3 := rl_toInt (p := lat') (by omega)
      simp (disch := first | assumption | omega) only [f_X0_everyDayHasLongRest_54, f_X0_everyDayHasLongRest_78, lit_0, lit_1, lit_2, lit_3, lit_4, lit_5, lit_6, lit_7, lit_8, lit_9, lit_10, lit_11, lit_12, lit_13, lit_14, lit_15, lit_16, lit_17, lit_18, lit_20, lit_24, lit_26, lit_30, lit_40, lit_45, lit_46, lit_47, lit_48, lit_60, lit_63, lit_64, lit_77, lit_100, lit_140, lit_168, lit_200, lit_300, lit_400, lit_900, lit_1000, lit_1168, lit_1997, lit_3333, lit_9999, lit_10000, nI_add, nI_mul, i1]
      by_cases c1 : k < a + 23
      · rw [if_pos (Int32.lt_iff_toInt_lt.mpr (by omega)), if_neg (by omega)]
      · rw [if_neg (fun q => by have := Int32.lt_iff_toInt_lt.mp q; omega)]
        by_cases c2 : lat' < k - 22
        · rw [if_neg (fun q => by have := Int32.le_iff_toInt_le.mp q; omega), if_pos ⟨by omega, c2⟩]; rfl
        · rw [if_pos (Int32.le_iff_toInt_le.mpr (by omega)), if_neg (fun q => c2 q.2)]
    have key2 : ∀ run', run' ≤ k + 1 → f_X0_everyDayHasLongRest_38 (f_X0_everyDayHasLongRest_9 fuel) (z + 1) (nI len) (nI a) (nI T) (rl lat) (nI k) (nI run') (hp z X) = some (bI (if a + 23 ≤ k ∧ (if run' < len then lat else k + 2 - len) < k - 22 then false else dayL (fB d) len a (k + 1) n run' (if run' < len then lat else k + 2 - len)), hp z X) := by
      intro run' q1
      by_cases c : run' < len
      · have := key run' lat q1 (by omega)
        simp (disch := first | assumption | omega) only [f_X0_everyDayHasLongRest_38, lit_0, lit_1, lit_2, lit_3, lit_4, lit_5, lit_6, lit_7, lit_8, lit_9, lit_10, lit_11, lit_12, lit_13, lit_14, lit_15, lit_16, lit_17, lit_18, lit_20, lit_24, lit_26, lit_30, lit_40, lit_45, lit_46, lit_47, lit_48, lit_60, lit_63, lit_64, lit_77, lit_100, lit_140, lit_168, lit_200, lit_300, lit_400, lit_900, lit_1000, lit_1168, lit_1997, lit_3333, lit_9999, lit_10000, nI_ltE]
        rw [if_pos c, if_pos c, this]
      · have := key run' (k + 2 - len) q1 (by omega)
        have e := lat_e (k := k) (len := len) (by omega)
        simp (disch := first | assumption | omega) only [f_X0_everyDayHasLongRest_38, lit_0, lit_1, lit_2, lit_3, lit_4, lit_5, lit_6, lit_7, lit_8, lit_9, lit_10, lit_11, lit_12, lit_13, lit_14, lit_15, lit_16, lit_17, lit_18, lit_20, lit_24, lit_26, lit_30, lit_40, lit_45, lit_46, lit_47, lit_48, lit_60, lit_63, lit_64, lit_77, lit_100, lit_140, lit_168, lit_200, lit_300, lit_400, lit_900, lit_1000, lit_1168, lit_1997, lit_3333, lit_9999, lit_10000, nI_ltE, e]
        rw [if_neg c, if_neg c, this]
    by_cases c : fB d k = true
    · have := key2 (run + 1) (by omega)
      simp (disch := first | assumption | omega) only [f_X0_everyDayHasLongRest_9, f_X0_everyDayHasLongRest_9_body, m_gO2, m_pO2, m_gO3, m_pO3, m_gO4, m_pO4, m_rO0, m_rO1, m_rO5, m_rO6, m_rO7, m_iO, m_ldT, m_stT, m_ldS, m_ldM, m_ldL, m_lnS, m_lnM, m_gS0, m_pS0, m_gS1, m_pS1, m_gS2, m_pS2, m_gS3, m_pS3, m_gS4, m_pS4, m_gS5, m_pS5, m_gS6, m_pS6, m_rS7, m_rS8, m_iS, m_gM1, m_pM1, m_gM2, m_pM2, m_rM0, m_iM, m_gL1, m_pL1, m_rL0, m_iL, m_ldP, m_stP, m_ldR, m_stR, m_ldC, m_stC, m_ldK, m_stK, m_gx5, m_px5, m_rx0, m_rx1, m_rx2, m_rx3, m_rx4, m_ix, m_gD1, m_pD1, m_gD2, m_pD2, m_gD3, m_pD3, m_rD0, m_iD, m_ld2, m_st2, m_gH1, m_pH1, m_rH0, m_iH, m_gX1, m_pX1, m_gX2, m_pX2, m_gX3, m_pX3, m_rX0, m_rX4, m_rX5, m_rX6, m_rX7, m_iX, m_ld1273, m_st1273, m_ld1274, m_st1274, m_ld1275, m_st1275, m_ld1276, m_st1276, m_ld1277, m_st1277, m_ldH, zb2_s, zif_t, zopt_n, zopt_s, b_s, znm_e, lit_0, lit_1, lit_2, lit_3, lit_4, lit_5, lit_6, lit_7, lit_8, lit_9, lit_10, lit_11, lit_12, lit_13, lit_14, lit_15, lit_16, lit_17, lit_18, lit_20, lit_24, lit_26, lit_30, lit_40, lit_45, lit_46, lit_47, lit_48, lit_60, lit_63, lit_64, lit_77, lit_100, lit_140, lit_168, lit_200, lit_300, lit_400, lit_900, lit_1000, lit_1168, lit_1997, lit_3333, lit_9999, lit_10000, reduceIte, Nat.reduceEqDiff, Nat.reduceLeDiff, Nat.reduceAdd, Nat.reduceMul, nI_eqE, nI_ltE, nI_leE, zbool_0, zbool_1, zbool_b, bI_0, bI_1, nI_add, nI_mul, e23, e24, g1, c, Bool.toNat_true, this]
      rw [if_neg (by omega)]
      simp only [dayL, c]
    · have c : fB d k = false := by simpa using c
      have := key2 0 (by omega)
      simp (disch := first | assumption | omega) only [f_X0_everyDayHasLongRest_9, f_X0_everyDayHasLongRest_9_body, m_gO2, m_pO2, m_gO3, m_pO3, m_gO4, m_pO4, m_rO0, m_rO1, m_rO5, m_rO6, m_rO7, m_iO, m_ldT, m_stT, m_ldS, m_ldM, m_ldL, m_lnS, m_lnM, m_gS0, m_pS0, m_gS1, m_pS1, m_gS2, m_pS2, m_gS3, m_pS3, m_gS4, m_pS4, m_gS5, m_pS5, m_gS6, m_pS6, m_rS7, m_rS8, m_iS, m_gM1, m_pM1, m_gM2, m_pM2, m_rM0, m_iM, m_gL1, m_pL1, m_rL0, m_iL, m_ldP, m_stP, m_ldR, m_stR, m_ldC, m_stC, m_ldK, m_stK, m_gx5, m_px5, m_rx0, m_rx1, m_rx2, m_rx3, m_rx4, m_ix, m_gD1, m_pD1, m_gD2, m_pD2, m_gD3, m_pD3, m_rD0, m_iD, m_ld2, m_st2, m_gH1, m_pH1, m_rH0, m_iH, m_gX1, m_pX1, m_gX2, m_pX2, m_gX3, m_pX3, m_rX0, m_rX4, m_rX5, m_rX6, m_rX7, m_iX, m_ld1273, m_st1273, m_ld1274, m_st1274, m_ld1275, m_st1275, m_ld1276, m_st1276, m_ld1277, m_st1277, m_ldH, zb2_s, zif_t, zopt_n, zopt_s, b_s, znm_e, lit_0, lit_1, lit_2, lit_3, lit_4, lit_5, lit_6, lit_7, lit_8, lit_9, lit_10, lit_11, lit_12, lit_13, lit_14, lit_15, lit_16, lit_17, lit_18, lit_20, lit_24, lit_26, lit_30, lit_40, lit_45, lit_46, lit_47, lit_48, lit_60, lit_63, lit_64, lit_77, lit_100, lit_140, lit_168, lit_200, lit_300, lit_400, lit_900, lit_1000, lit_1168, lit_1997, lit_3333, lit_9999, lit_10000, reduceIte, Nat.reduceEqDiff, Nat.reduceLeDiff, Nat.reduceAdd, Nat.reduceMul, nI_eqE, nI_ltE, nI_leE, zbool_0, zbool_1, zbool_b, bI_0, bI_1, nI_add, nI_mul, e23, e24, g1, c, Bool.toNat_false, this]
      rw [if_neg (by omega)]
      simp only [dayL, c]
theorem e_day {z : Nat} {X : pX} {d : dS} (hd : DuC X.1 d) (ho : dOk d) {len a T : Nat} (hlen : len < 1000) (ha : a < 5000) (hT : T < 5000) : f_X0_everyDayHasLongRest (z + 1) (nI len) (nI a) (nI T) (hp z X) = some (bI (dayB (fB d) len a T), hp z X) := by
  have h := e_dayL (z := z) hd ho hlen ha hT (T + 23 - a) zN a 0 0 (by omega) (by omega) (by omega) (by omega) (zN_lt (by omega))
  rw [rl_0] at h
  simp only [f_X0_everyDayHasLongRest, lit_0, lit_1, lit_2, lit_3, lit_4, lit_5, lit_6, lit_7, lit_8, lit_9, lit_10, lit_11, lit_12, lit_13, lit_14, lit_15, lit_16, lit_17, lit_18, lit_20, lit_24, lit_26, lit_30, lit_40, lit_45, lit_46, lit_47, lit_48, lit_60, lit_63, lit_64, lit_77, lit_100, lit_140, lit_168, lit_200, lit_300, lit_400, lit_900, lit_1000, lit_1168, lit_1997, lit_3333, lit_9999, lit_10000, h, dayB]
theorem nI_s1 (n : Nat) : nI (n + 1) + -nI 1 = nI n := nI_m1 n
/-- the longest rest that every day has, up to 24 -/
def lLR (f : Nat → Bool) (en : Nat) : Nat → Nat
  | 0 => 0
  | n + 1 => if dayB f (n + 1) 0 en = true then n + 1 else lLR f en n
theorem e_lLRL {z : Nat} {X : pX} {d : dS} (hd : DuC X.1 d) (ho : dOk d) : ∀ (n fuel : Nat), n ≤ 24 → n < fuel → f_X0_leastLongRest_3 fuel (z + 1) (nI n) (hp z X) = some (nI (lLR (fB d) d.2.2.1 n), hp z X) := by
  intro n
  have b2 := ho.2.1
  have h2 := hd.2.2.1
  induction n with
  | zero =>
    intro fuel h1 h3
    obtain ⟨fuel, rfl⟩ : ∃ f, fuel = f + 1 := ⟨fuel - 1, by omega⟩
    simp (disch := first | assumption | omega) only [f_X0_leastLongRest_3, f_X0_leastLongRest_3_body, m_gO2, m_pO2, m_gO3, m_pO3, m_gO4, m_pO4, m_rO0, m_rO1, m_rO5, m_rO6, m_rO7, m_iO, m_ldT, m_stT, m_ldS, m_ldM, m_ldL, m_lnS, m_lnM, m_gS0, m_pS0, m_gS1, m_pS1, m_gS2, m_pS2, m_gS3, m_pS3, m_gS4, m_pS4, m_gS5, m_pS5, m_gS6, m_pS6, m_rS7, m_rS8, m_iS, m_gM1, m_pM1, m_gM2, m_pM2, m_rM0, m_iM, m_gL1, m_pL1, m_rL0, m_iL, m_ldP, m_stP, m_ldR, m_stR, m_ldC, m_stC, m_ldK, m_stK, m_gx5, m_px5, m_rx0, m_rx1, m_rx2, m_rx3, m_rx4, m_ix, m_gD1, m_pD1, m_gD2, m_pD2, m_gD3, m_pD3, m_rD0, m_iD, m_ld2, m_st2, m_gH1, m_pH1, m_rH0, m_iH, m_gX1, m_pX1, m_gX2, m_pX2, m_gX3, m_pX3, m_rX0, m_rX4, m_rX5, m_rX6, m_rX7, m_iX, m_ld1273, m_st1273, m_ld1274, m_st1274, m_ld1275, m_st1275, m_ld1276, m_st1276, m_ld1277, m_st1277, m_ldH, zb2_s, zif_t, zopt_n, zopt_s, b_s, znm_e, lit_0, lit_1, lit_2, lit_3, lit_4, lit_5, lit_6, lit_7, lit_8, lit_9, lit_10, lit_11, lit_12, lit_13, lit_14, lit_15, lit_16, lit_17, lit_18, lit_20, lit_24, lit_26, lit_30, lit_40, lit_45, lit_46, lit_47, lit_48, lit_60, lit_63, lit_64, lit_77, lit_100, lit_140, lit_168, lit_200, lit_300, lit_400, lit_900, lit_1000, lit_1168, lit_1997, lit_3333, lit_9999, lit_10000, reduceIte, Nat.reduceEqDiff, Nat.reduceLeDiff, Nat.reduceAdd, Nat.reduceMul, nI_eqE, nI_ltE, nI_leE, zbool_0, zbool_1, zbool_b, bI_0, bI_1, Nat.le_refl, if_true, lLR]
  | succ n ih =>
    intro fuel h1 h3
    obtain ⟨fuel, rfl⟩ : ∃ f, fuel = f + 1 := ⟨fuel - 1, by omega⟩
    have i1 := ih fuel (by omega) (by omega)
    have g1 := e_day (z := z) hd ho (len := n + 1) (a := 0) (T := d.2.2.1) (by omega) (by omega) (by omega)
    simp (disch := first | assumption | omega) only [f_X0_leastLongRest_3, f_X0_leastLongRest_3_body, m_gO2, m_pO2, m_gO3, m_pO3, m_gO4, m_pO4, m_rO0, m_rO1, m_rO5, m_rO6, m_rO7, m_iO, m_ldT, m_stT, m_ldS, m_ldM, m_ldL, m_lnS, m_lnM, m_gS0, m_pS0, m_gS1, m_pS1, m_gS2, m_pS2, m_gS3, m_pS3, m_gS4, m_pS4, m_gS5, m_pS5, m_gS6, m_pS6, m_rS7, m_rS8, m_iS, m_gM1, m_pM1, m_gM2, m_pM2, m_rM0, m_iM, m_gL1, m_pL1, m_rL0, m_iL, m_ldP, m_stP, m_ldR, m_stR, m_ldC, m_stC, m_ldK, m_stK, m_gx5, m_px5, m_rx0, m_rx1, m_rx2, m_rx3, m_rx4, m_ix, m_gD1, m_pD1, m_gD2, m_pD2, m_gD3, m_pD3, m_rD0, m_iD, m_ld2, m_st2, m_gH1, m_pH1, m_rH0, m_iH, m_gX1, m_pX1, m_gX2, m_pX2, m_gX3, m_pX3, m_rX0, m_rX4, m_rX5, m_rX6, m_rX7, m_iX, m_ld1273, m_st1273, m_ld1274, m_st1274, m_ld1275, m_st1275, m_ld1276, m_st1276, m_ld1277, m_st1277, m_ldH, zb2_s, zif_t, zopt_n, zopt_s, b_s, znm_e, lit_0, lit_1, lit_2, lit_3, lit_4, lit_5, lit_6, lit_7, lit_8, lit_9, lit_10, lit_11, lit_12, lit_13, lit_14, lit_15, lit_16, lit_17, lit_18, lit_20, lit_24, lit_26, lit_30, lit_40, lit_45, lit_46, lit_47, lit_48, lit_60, lit_63, lit_64, lit_77, lit_100, lit_140, lit_168, lit_200, lit_300, lit_400, lit_900, lit_1000, lit_1168, lit_1997, lit_3333, lit_9999, lit_10000, reduceIte, Nat.reduceEqDiff, Nat.reduceLeDiff, Nat.reduceAdd, Nat.reduceMul, nI_eqE, nI_ltE, nI_leE, zbool_0, zbool_1, zbool_b, bI_0, bI_1, h2, g1, nI_m1, i1]
    by_cases c : dayB (fB d) (n + 1) 0 d.2.2.1 = true
    · rw [if_neg (by simp [c])]; simp only [lLR, c, if_true]
    · rw [if_pos (by simpa using c)]; simp only [lLR, c]; rfl
theorem e_lLR {z : Nat} {X : pX} {d : dS} (hd : DuC X.1 d) (ho : dOk d) : f_X0_leastLongRest (z + 1) (hp z X) = some (nI (lLR (fB d) d.2.2.1 24), hp z X) := by
  have h := e_lLRL (z := z) hd ho 24 zN (Nat.le_refl _) (zN_lt (by omega))
  simp only [f_X0_leastLongRest, lit_0, lit_1, lit_2, lit_3, lit_4, lit_5, lit_6, lit_7, lit_8, lit_9, lit_10, lit_11, lit_12, lit_13, lit_14, lit_15, lit_16, lit_17, lit_18, lit_20, lit_24, lit_26, lit_30, lit_40, lit_45, lit_46, lit_47, lit_48, lit_60, lit_63, lit_64, lit_77, lit_100, lit_140, lit_168, lit_200, lit_300, lit_400, lit_900, lit_1000, lit_1168, lit_1997, lit_3333, lit_9999, lit_10000, h]
def fhL (f : Nat → Bool) : Nat → Nat → Nat → Nat → Nat
  | _, 0, _, fst => fst
  | k, n + 1, least, fst => if cA f k 24 < least then fhL f (k + 1) n (cA f k 24) k else fhL f (k + 1) n least fst
theorem e_fhL {z : Nat} {X : pX} {d : dS} (hd : DuC X.1 d) (ho : dOk d) : ∀ (n fuel k least fst : Nat), k + n = d.2.2.1 → least ≤ 24 → n < fuel → f_X0_firstHourOfLeastRest_15 fuel (z + 1) (nI (cA (fB d) k 24)) (nI least) (nI fst) (nI k) (hp z X) = some (nI (fhL (fB d) k n least fst), hp z X) := by
  intro n
  have b2 := ho.2.1
  have h2 := hd.2.2.1
  induction n with
  | zero =>
    intro fuel k least fst h1 hl h3
    obtain ⟨fuel, rfl⟩ : ∃ f, fuel = f + 1 := ⟨fuel - 1, by omega⟩
    have h1 : k = d.2.2.1 := h1
    simp (disch := first | assumption | omega) only [f_X0_firstHourOfLeastRest_15, f_X0_firstHourOfLeastRest_15_body, m_gO2, m_pO2, m_gO3, m_pO3, m_gO4, m_pO4, m_rO0, m_rO1, m_rO5, m_rO6, m_rO7, m_iO, m_ldT, m_stT, m_ldS, m_ldM, m_ldL, m_lnS, m_lnM, m_gS0, m_pS0, m_gS1, m_pS1, m_gS2, m_pS2, m_gS3, m_pS3, m_gS4, m_pS4, m_gS5, m_pS5, m_gS6, m_pS6, m_rS7, m_rS8, m_iS, m_gM1, m_pM1, m_gM2, m_pM2, m_rM0, m_iM, m_gL1, m_pL1, m_rL0, m_iL, m_ldP, m_stP, m_ldR, m_stR, m_ldC, m_stC, m_ldK, m_stK, m_gx5, m_px5, m_rx0, m_rx1, m_rx2, m_rx3, m_rx4, m_ix, m_gD1, m_pD1, m_gD2, m_pD2, m_gD3, m_pD3, m_rD0, m_iD, m_ld2, m_st2, m_gH1, m_pH1, m_rH0, m_iH, m_gX1, m_pX1, m_gX2, m_pX2, m_gX3, m_pX3, m_rX0, m_rX4, m_rX5, m_rX6, m_rX7, m_iX, m_ld1273, m_st1273, m_ld1274, m_st1274, m_ld1275, m_st1275, m_ld1276, m_st1276, m_ld1277, m_st1277, m_ldH, zb2_s, zif_t, zopt_n, zopt_s, b_s, znm_e, lit_0, lit_1, lit_2, lit_3, lit_4, lit_5, lit_6, lit_7, lit_8, lit_9, lit_10, lit_11, lit_12, lit_13, lit_14, lit_15, lit_16, lit_17, lit_18, lit_20, lit_24, lit_26, lit_30, lit_40, lit_45, lit_46, lit_47, lit_48, lit_60, lit_63, lit_64, lit_77, lit_100, lit_140, lit_168, lit_200, lit_300, lit_400, lit_900, lit_1000, lit_1168, lit_1997, lit_3333, lit_9999, lit_10000, reduceIte, Nat.reduceEqDiff, Nat.reduceLeDiff, Nat.reduceAdd, Nat.reduceMul, nI_eqE, nI_ltE, nI_leE, zbool_0, zbool_1, zbool_b, bI_0, bI_1, h2]
    rw [if_pos (by omega)]; rfl
  | succ n ih =>
    intro fuel k least fst h1 hl h3
    obtain ⟨fuel, rfl⟩ : ∃ f, fuel = f + 1 := ⟨fuel - 1, by omega⟩
    have hc := cA_le (fB d) 24 k
    have i1 := fun l t hl => ih fuel (k + 1) l t (by omega) hl (by omega)
    have j1 := i1 least fst hl
    have j2 := i1 (cA (fB d) k 24) k hc
    have g1 := e_restAt (z := z) hd ho (t := k) (by omega)
    have g2 := e_restAt (z := z) hd ho (t := k + 24) (by omega)
    have g3 := add_sub3 (cA_shift (fB d) k 24)
    simp (disch := first | assumption | omega) only [f_X0_firstHourOfLeastRest_15, f_X0_firstHourOfLeastRest_15_body, f_X0_firstHourOfLeastRest_34, m_gO2, m_pO2, m_gO3, m_pO3, m_gO4, m_pO4, m_rO0, m_rO1, m_rO5, m_rO6, m_rO7, m_iO, m_ldT, m_stT, m_ldS, m_ldM, m_ldL, m_lnS, m_lnM, m_gS0, m_pS0, m_gS1, m_pS1, m_gS2, m_pS2, m_gS3, m_pS3, m_gS4, m_pS4, m_gS5, m_pS5, m_gS6, m_pS6, m_rS7, m_rS8, m_iS, m_gM1, m_pM1, m_gM2, m_pM2, m_rM0, m_iM, m_gL1, m_pL1, m_rL0, m_iL, m_ldP, m_stP, m_ldR, m_stR, m_ldC, m_stC, m_ldK, m_stK, m_gx5, m_px5, m_rx0, m_rx1, m_rx2, m_rx3, m_rx4, m_ix, m_gD1, m_pD1, m_gD2, m_pD2, m_gD3, m_pD3, m_rD0, m_iD, m_ld2, m_st2, m_gH1, m_pH1, m_rH0, m_iH, m_gX1, m_pX1, m_gX2, m_pX2, m_gX3, m_pX3, m_rX0, m_rX4, m_rX5, m_rX6, m_rX7, m_iX, m_ld1273, m_st1273, m_ld1274, m_st1274, m_ld1275, m_st1275, m_ld1276, m_st1276, m_ld1277, m_st1277, m_ldH, zb2_s, zif_t, zopt_n, zopt_s, b_s, znm_e, lit_0, lit_1, lit_2, lit_3, lit_4, lit_5, lit_6, lit_7, lit_8, lit_9, lit_10, lit_11, lit_12, lit_13, lit_14, lit_15, lit_16, lit_17, lit_18, lit_20, lit_24, lit_26, lit_30, lit_40, lit_45, lit_46, lit_47, lit_48, lit_60, lit_63, lit_64, lit_77, lit_100, lit_140, lit_168, lit_200, lit_300, lit_400, lit_900, lit_1000, lit_1168, lit_1997, lit_3333, lit_9999, lit_10000, reduceIte, Nat.reduceEqDiff, Nat.reduceLeDiff, Nat.reduceAdd, Nat.reduceMul, nI_eqE, nI_ltE, nI_leE, zbool_0, zbool_1, zbool_b, bI_0, bI_1, nI_add, nI_mul, h2, g1, g2, g3, j1, j2]
    rw [if_neg (by omega)]
    by_cases c : cA (fB d) k 24 < least
    · rw [if_neg (by omega)]; simp only [fhL, c, if_true]
    · rw [if_pos (by omega)]; simp only [fhL, c, if_false]
theorem e_fh {z : Nat} {X : pX} {d : dS} (hd : DuC X.1 d) (ho : dOk d) : f_X0_firstHourOfLeastRest (z + 1) (hp z X) = some (nI (fhL (fB d) 0 d.2.2.1 (cA (fB d) 0 24) 0), hp z X) := by
  have g := e_restIn (z := z) hd ho (a := 0) (N := 24) (by omega)
  have h := e_fhL (z := z) hd ho d.2.2.1 zN 0 (cA (fB d) 0 24) 0 (by omega) (cA_le _ _ _) (zN_lt (by have := ho.2.1; omega))
  simp (disch := first | assumption | omega) only [f_X0_firstHourOfLeastRest, m_gO2, m_pO2, m_gO3, m_pO3, m_gO4, m_pO4, m_rO0, m_rO1, m_rO5, m_rO6, m_rO7, m_iO, m_ldT, m_stT, m_ldS, m_ldM, m_ldL, m_lnS, m_lnM, m_gS0, m_pS0, m_gS1, m_pS1, m_gS2, m_pS2, m_gS3, m_pS3, m_gS4, m_pS4, m_gS5, m_pS5, m_gS6, m_pS6, m_rS7, m_rS8, m_iS, m_gM1, m_pM1, m_gM2, m_pM2, m_rM0, m_iM, m_gL1, m_pL1, m_rL0, m_iL, m_ldP, m_stP, m_ldR, m_stR, m_ldC, m_stC, m_ldK, m_stK, m_gx5, m_px5, m_rx0, m_rx1, m_rx2, m_rx3, m_rx4, m_ix, m_gD1, m_pD1, m_gD2, m_pD2, m_gD3, m_pD3, m_rD0, m_iD, m_ld2, m_st2, m_gH1, m_pH1, m_rH0, m_iH, m_gX1, m_pX1, m_gX2, m_pX2, m_gX3, m_pX3, m_rX0, m_rX4, m_rX5, m_rX6, m_rX7, m_iX, m_ld1273, m_st1273, m_ld1274, m_st1274, m_ld1275, m_st1275, m_ld1276, m_st1276, m_ld1277, m_st1277, m_ldH, zb2_s, zif_t, zopt_n, zopt_s, b_s, znm_e, lit_0, lit_1, lit_2, lit_3, lit_4, lit_5, lit_6, lit_7, lit_8, lit_9, lit_10, lit_11, lit_12, lit_13, lit_14, lit_15, lit_16, lit_17, lit_18, lit_20, lit_24, lit_26, lit_30, lit_40, lit_45, lit_46, lit_47, lit_48, lit_60, lit_63, lit_64, lit_77, lit_100, lit_140, lit_168, lit_200, lit_300, lit_400, lit_900, lit_1000, lit_1168, lit_1997, lit_3333, lit_9999, lit_10000, g, h]
theorem e_beginOf {z B j : Nat} (hb : isB B) (hj : j < 48) {u : Nat → Nat} (h2 : u 2 ≤ 1168) {X : pX} {d : dS} (hs : SaC X.1 B j u) (hd : DuC X.1 d) (ho : dOk d) : f_X0_beginOf (z + 1) (z + (B + (5 + 3 * j))) (hp z X) = some (nI (match u 2 with | 0 => 0 | t + 1 => if d.1 t = 7 then t else t + 1), hp z X) := by
  have e2 := hs.1 2 (by decide)
  cases c : u 2 with
  | zero =>
    rw [c] at e2
    simp (disch := first | assumption | omega) only [f_X0_beginOf_34, f_X0_beginOf_33, f_X0_beginOf, m_gO2, m_pO2, m_gO3, m_pO3, m_gO4, m_pO4, m_rO0, m_rO1, m_rO5, m_rO6, m_rO7, m_iO, m_ldT, m_stT, m_ldS, m_ldM, m_ldL, m_lnS, m_lnM, m_gS0, m_pS0, m_gS1, m_pS1, m_gS2, m_pS2, m_gS3, m_pS3, m_gS4, m_pS4, m_gS5, m_pS5, m_gS6, m_pS6, m_rS7, m_rS8, m_iS, m_gM1, m_pM1, m_gM2, m_pM2, m_rM0, m_iM, m_gL1, m_pL1, m_rL0, m_iL, m_ldP, m_stP, m_ldR, m_stR, m_ldC, m_stC, m_ldK, m_stK, m_gx5, m_px5, m_rx0, m_rx1, m_rx2, m_rx3, m_rx4, m_ix, m_gD1, m_pD1, m_gD2, m_pD2, m_gD3, m_pD3, m_rD0, m_iD, m_ld2, m_st2, m_gH1, m_pH1, m_rH0, m_iH, m_gX1, m_pX1, m_gX2, m_pX2, m_gX3, m_pX3, m_rX0, m_rX4, m_rX5, m_rX6, m_rX7, m_iX, m_ld1273, m_st1273, m_ld1274, m_st1274, m_ld1275, m_st1275, m_ld1276, m_st1276, m_ld1277, m_st1277, m_ldH, zb2_s, zif_t, zopt_n, zopt_s, b_s, znm_e, lit_0, lit_1, lit_2, lit_3, lit_4, lit_5, lit_6, lit_7, lit_8, lit_9, lit_10, lit_11, lit_12, lit_13, lit_14, lit_15, lit_16, lit_17, lit_18, lit_20, lit_24, lit_26, lit_30, lit_40, lit_45, lit_46, lit_47, lit_48, lit_60, lit_63, lit_64, lit_77, lit_100, lit_140, lit_168, lit_200, lit_300, lit_400, lit_900, lit_1000, lit_1168, lit_1997, lit_3333, lit_9999, lit_10000, e2]
    rw [if_pos (by decide), if_pos trivial]
  | succ t =>
    rw [c] at e2
    have et := hd.1 t (by omega)
    have bt := ho.1 t
    simp (disch := first | assumption | omega) only [f_X0_beginOf_34, f_X0_beginOf_33, f_X0_beginOf, m_gO2, m_pO2, m_gO3, m_pO3, m_gO4, m_pO4, m_rO0, m_rO1, m_rO5, m_rO6, m_rO7, m_iO, m_ldT, m_stT, m_ldS, m_ldM, m_ldL, m_lnS, m_lnM, m_gS0, m_pS0, m_gS1, m_pS1, m_gS2, m_pS2, m_gS3, m_pS3, m_gS4, m_pS4, m_gS5, m_pS5, m_gS6, m_pS6, m_rS7, m_rS8, m_iS, m_gM1, m_pM1, m_gM2, m_pM2, m_rM0, m_iM, m_gL1, m_pL1, m_rL0, m_iL, m_ldP, m_stP, m_ldR, m_stR, m_ldC, m_stC, m_ldK, m_stK, m_gx5, m_px5, m_rx0, m_rx1, m_rx2, m_rx3, m_rx4, m_ix, m_gD1, m_pD1, m_gD2, m_pD2, m_gD3, m_pD3, m_rD0, m_iD, m_ld2, m_st2, m_gH1, m_pH1, m_rH0, m_iH, m_gX1, m_pX1, m_gX2, m_pX2, m_gX3, m_pX3, m_rX0, m_rX4, m_rX5, m_rX6, m_rX7, m_iX, m_ld1273, m_st1273, m_ld1274, m_st1274, m_ld1275, m_st1275, m_ld1276, m_st1276, m_ld1277, m_st1277, m_ldH, zb2_s, zif_t, zopt_n, zopt_s, b_s, znm_e, lit_0, lit_1, lit_2, lit_3, lit_4, lit_5, lit_6, lit_7, lit_8, lit_9, lit_10, lit_11, lit_12, lit_13, lit_14, lit_15, lit_16, lit_17, lit_18, lit_20, lit_24, lit_26, lit_30, lit_40, lit_45, lit_46, lit_47, lit_48, lit_60, lit_63, lit_64, lit_77, lit_100, lit_140, lit_168, lit_200, lit_300, lit_400, lit_900, lit_1000, lit_1168, lit_1997, lit_3333, lit_9999, lit_10000, e2, nI_pred', nI_ltE, nI_leE, nI_eqE, et]
    rw [if_neg (by omega), if_neg (by omega)]
    by_cases c1 : d.1 t = 7
    · rw [if_pos c1, if_neg (by decide), if_pos c1]
    · rw [if_neg c1, if_pos trivial, if_neg c1]
theorem zmax_0 {p n : Nat} (hp : p < 100000) (hn : n < 1000) : zmax (nI 0) (rl p - nI n + nI 1) = nI (p - n) := by
  have e : rl p - nI n + nI 1 = nI p - nI n := by
    unfold rl
    rw [Int32.sub_eq_add_neg, Int32.sub_eq_add_neg, Int32.add_assoc, Int32.add_assoc, Int32.add_comm (-nI n), ← Int32.add_assoc (-nI 1), Int32.add_left_neg, Int32.zero_add, ← Int32.sub_eq_add_neg]
  have t := pk_sub_toInt (a := p) (b := n) (by omega) (by omega)
  have z0 : (nI 0).toInt = 0 := by decide
  rw [e]
  unfold zmax
  by_cases c : n < p
  · rw [if_pos (Int32.lt_iff_toInt_lt.mpr (by rw [t]; omega)), nI_sub (by omega)]
  · rw [if_neg (fun q => by have q := Int32.lt_iff_toInt_lt.mp q; rw [t] at q; omega), show p - n = 0 by omega]
/-- the rests hold in the rows that begin from p - 1 - 23 (p - 1 - 167) on, ahead of T -/
def rstB (d : dS) (s : Nat → Nat) (p T : Nat) : Bool := decide (d.2.2.2 = 0) && (rowB (fB d) (s 4) 24 (p - 24) T && (dayB (fB d) (s 5) (p - 24) T && rowB (fB d) (s 6) 168 (p - 168) T))
theorem e_restsHold {z : Nat} {X : pX} {B : Nat} (hb : isB B) {s : Nat → Nat} (hH : HdC X.1 B s) (h4 : s 4 < 1000) (h5 : s 5 < 1000) (h6 : s 6 < 1000) {d : dS} (hd : DuC X.1 d) (ho : dOk d) {p T : Nat} (hp' : p < 2000) (hT : T < 5000) : f_X5_restsHold (z + B) (z + 1) (rl p) (nI T) (hp z X) = some (bI (rstB d s p T), hp z X) := by
  have e3 := hd.2.2.2
  have b3 := ho.2.2.1
  have x4 : X.1 (B + 1) 0 = nI (s 4) := hH.2.2.2 0 (by omega)
  have x5 : X.1 (B + 1) 1 = nI (s 5) := hH.2.2.2 1 (by omega)
  have x6 : X.1 (B + 1) 2 = nI (s 6) := hH.2.2.2 2 (by omega)
  have z1 := zmax_0 (p := p) (n := 24) (by omega) (by omega)
  have z2 := zmax_0 (p := p) (n := 168) (by omega) (by omega)
  have g1 := e_row (z := z) hd ho (least := s 4) (len := 24) (a := p - 24) (T := T) (by omega) (by omega) (by omega) hT
  have g2 := e_day (z := z) hd ho (len := s 5) (a := p - 24) (T := T) (by omega) (by omega) hT
  have g3 := e_row (z := z) hd ho (least := s 6) (len := 168) (a := p - 168) (T := T) (by omega) (by omega) (by omega) hT
  unfold rstB
  by_cases c : d.2.2.2 = 0
  · rw [decide_eq_true c, Bool.true_and]
    simp (disch := first | assumption | omega) only [f_X5_restsHold_89, f_X5_restsHold, m_gO2, m_pO2, m_gO3, m_pO3, m_gO4, m_pO4, m_rO0, m_rO1, m_rO5, m_rO6, m_rO7, m_iO, m_ldT, m_stT, m_ldS, m_ldM, m_ldL, m_lnS, m_lnM, m_gS0, m_pS0, m_gS1, m_pS1, m_gS2, m_pS2, m_gS3, m_pS3, m_gS4, m_pS4, m_gS5, m_pS5, m_gS6, m_pS6, m_rS7, m_rS8, m_iS, m_gM1, m_pM1, m_gM2, m_pM2, m_rM0, m_iM, m_gL1, m_pL1, m_rL0, m_iL, m_ldP, m_stP, m_ldR, m_stR, m_ldC, m_stC, m_ldK, m_stK, m_gx5, m_px5, m_rx0, m_rx1, m_rx2, m_rx3, m_rx4, m_ix, m_gD1, m_pD1, m_gD2, m_pD2, m_gD3, m_pD3, m_rD0, m_iD, m_ld2, m_st2, m_gH1, m_pH1, m_rH0, m_iH, m_gX1, m_pX1, m_gX2, m_pX2, m_gX3, m_pX3, m_rX0, m_rX4, m_rX5, m_rX6, m_rX7, m_iX, m_ld1273, m_st1273, m_ld1274, m_st1274, m_ld1275, m_st1275, m_ld1276, m_st1276, m_ld1277, m_st1277, m_ldH, zb2_s, zif_t, zopt_n, zopt_s, b_s, znm_e, lit_0, lit_1, lit_2, lit_3, lit_4, lit_5, lit_6, lit_7, lit_8, lit_9, lit_10, lit_11, lit_12, lit_13, lit_14, lit_15, lit_16, lit_17, lit_18, lit_20, lit_24, lit_26, lit_30, lit_40, lit_45, lit_46, lit_47, lit_48, lit_60, lit_63, lit_64, lit_77, lit_100, lit_140, lit_168, lit_200, lit_300, lit_400, lit_900, lit_1000, lit_1168, lit_1997, lit_3333, lit_9999, lit_10000, reduceIte, Nat.reduceEqDiff, Nat.reduceLeDiff, Nat.reduceAdd, Nat.reduceMul, nI_eqE, nI_ltE, nI_leE, zbool_0, zbool_1, zbool_b, bI_0, bI_1, e3, x4, x5, x6, z1, z2, g1, g2, g3]
    rw [if_pos c]
    cases rowB (fB d) (s 4) 24 (p - 24) T
    · rw [if_pos rfl]; rfl
    · rw [if_neg (by decide)]
      cases dayB (fB d) (s 5) (p - 24) T
      · rw [if_pos rfl]; rfl
      · rw [if_neg (by decide)]
        cases rowB (fB d) (s 6) 168 (p - 168) T
        · rw [if_pos rfl]; rfl
        · rw [if_neg (by decide)]; rfl
  · rw [decide_eq_false c, Bool.false_and]
    simp (disch := first | assumption | omega) only [f_X5_restsHold_89, f_X5_restsHold, m_gO2, m_pO2, m_gO3, m_pO3, m_gO4, m_pO4, m_rO0, m_rO1, m_rO5, m_rO6, m_rO7, m_iO, m_ldT, m_stT, m_ldS, m_ldM, m_ldL, m_lnS, m_lnM, m_gS0, m_pS0, m_gS1, m_pS1, m_gS2, m_pS2, m_gS3, m_pS3, m_gS4, m_pS4, m_gS5, m_pS5, m_gS6, m_pS6, m_rS7, m_rS8, m_iS, m_gM1, m_pM1, m_gM2, m_pM2, m_rM0, m_iM, m_gL1, m_pL1, m_rL0, m_iL, m_ldP, m_stP, m_ldR, m_stR, m_ldC, m_stC, m_ldK, m_stK, m_gx5, m_px5, m_rx0, m_rx1, m_rx2, m_rx3, m_rx4, m_ix, m_gD1, m_pD1, m_gD2, m_pD2, m_gD3, m_pD3, m_rD0, m_iD, m_ld2, m_st2, m_gH1, m_pH1, m_rH0, m_iH, m_gX1, m_pX1, m_gX2, m_pX2, m_gX3, m_pX3, m_rX0, m_rX4, m_rX5, m_rX6, m_rX7, m_iX, m_ld1273, m_st1273, m_ld1274, m_st1274, m_ld1275, m_st1275, m_ld1276, m_st1276, m_ld1277, m_st1277, m_ldH, zb2_s, zif_t, zopt_n, zopt_s, b_s, znm_e, lit_0, lit_1, lit_2, lit_3, lit_4, lit_5, lit_6, lit_7, lit_8, lit_9, lit_10, lit_11, lit_12, lit_13, lit_14, lit_15, lit_16, lit_17, lit_18, lit_20, lit_24, lit_26, lit_30, lit_40, lit_45, lit_46, lit_47, lit_48, lit_60, lit_63, lit_64, lit_77, lit_100, lit_140, lit_168, lit_200, lit_300, lit_400, lit_900, lit_1000, lit_1168, lit_1997, lit_3333, lit_9999, lit_10000, reduceIte, Nat.reduceEqDiff, Nat.reduceLeDiff, Nat.reduceAdd, Nat.reduceMul, nI_eqE, nI_ltE, nI_leE, zbool_0, zbool_1, zbool_b, bI_0, bI_1, e3]
    rw [if_neg c]; rfl
