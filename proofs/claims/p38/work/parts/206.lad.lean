/-! ladders and members of the class -/
/-- a ladder holds a row of members -/
def LadC (V : pV) (B q : Nat) (ll : List Nat) : Prop := V (B + (173 + 2 * q)) 1 = nI ll.length ∧ ∀ (k x : Nat), ll[k]? = some x → V (B + (174 + 2 * q)) k = nI x
theorem getE_lt {α : Type} {l : List α} {k : Nat} {x : α} (h : l[k]? = some x) : k < l.length := (List.getElem?_eq_some_iff.mp h).1
theorem e_lRank {z : Nat} {X : pX} {B j : Nat} (hb : isB B) (hj : j < 4) {ll : List Nat} (hs : LadC X.1 B j ll) (hl : ll.length ≤ 12) {k : Nat} (hk : k < 2 ^ 31) : f_X2_memberOfRank (z + (B + (173 + 2 * j))) (nI k) (hp z X) = some (oI ll[k]?, hp z X) := by
  have h1 := hs.1
  have h0 : ¬ nI k < nI 0 := nI_pos hk
  simp (disch := first | assumption | omega) only [f_X2_memberOfRank_27, f_X2_memberOfRank, m_gO2, m_pO2, m_gO3, m_pO3, m_gO4, m_pO4, m_rO0, m_rO1, m_rO5, m_rO6, m_rO7, m_iO, m_ldT, m_stT, m_ldS, m_ldM, m_ldL, m_lnS, m_lnM, m_gS0, m_pS0, m_gS1, m_pS1, m_gS2, m_pS2, m_gS3, m_pS3, m_gS4, m_pS4, m_gS5, m_pS5, m_gS6, m_pS6, m_rS7, m_rS8, m_iS, m_gM1, m_pM1, m_gM2, m_pM2, m_rM0, m_iM, m_gL1, m_pL1, m_rL0, m_iL, m_ldP, m_stP, m_ldR, m_stR, m_ldC, m_stC, m_ldK, m_stK, m_gx5, m_px5, m_rx0, m_rx1, m_rx2, m_rx3, m_rx4, m_ix, m_gD1, m_pD1, m_gD2, m_pD2, m_gD3, m_pD3, m_rD0, m_iD, m_ld2, m_st2, m_gH1, m_pH1, m_rH0, m_iH, m_gX1, m_pX1, m_gX2, m_pX2, m_gX3, m_pX3, m_rX0, m_rX4, m_rX5, m_rX6, m_rX7, m_iX, m_ld1273, m_st1273, m_ld1274, m_st1274, m_ld1275, m_st1275, m_ld1276, m_st1276, m_ld1277, m_st1277, m_ldH, zb2_s, zif_t, zopt_n, zopt_s, b_s, znm_e, lit_0, lit_1, lit_2, lit_3, lit_4, lit_5, lit_6, lit_7, lit_8, lit_9, lit_10, lit_11, lit_12, lit_13, lit_14, lit_15, lit_16, lit_17, lit_18, lit_20, lit_24, lit_26, lit_30, lit_40, lit_45, lit_46, lit_47, lit_48, lit_60, lit_63, lit_64, lit_77, lit_100, lit_140, lit_168, lit_200, lit_300, lit_400, lit_900, lit_1000, lit_1168, lit_1997, lit_3333, lit_9999, lit_10000, reduceIte, Nat.reduceEqDiff, Nat.reduceLeDiff, Nat.reduceAdd, Nat.reduceMul, nI_eqE, nI_ltE, nI_leE, zbool_0, zbool_1, zbool_b, bI_0, bI_1, h1]
  by_cases c : ll.length ≤ k
  · rw [if_neg (by omega), if_pos c, List.getElem?_eq_none c]; rfl
  · have hlt : k < ll.length := by omega
    have hx : ll[k]? = some ll[k] := List.getElem?_eq_getElem hlt
    have hv := hs.2 k _ hx
    rw [if_neg (by omega), if_neg c, if_neg (by omega)]
    simp only [hv, hx, oI]
theorem e_lHasL {z : Nat} {X : pX} {B j : Nat} (hb : isB B) (hj : j < 4) {ll : List Nat} (hs : LadC X.1 B j ll) (hl : ll.length ≤ 12) {m : Nat} (hm : m < 12) (hq : ∀ x, x ∈ ll → x < 12) : ∀ (n fuel k : Nat), k + n = ll.length → n < fuel → f_X2_has_2 fuel (z + (B + (173 + 2 * j))) (nI m) (nI k) (hp z X) = some (bI (decide (m ∈ ll.drop k)), hp z X) := by
  intro n
  induction n with
  | zero =>
    intro fuel k h1 h2
    obtain ⟨fuel, rfl⟩ : ∃ f, fuel = f + 1 := ⟨fuel - 1, by omega⟩
    have h3 := hs.1
    simp (disch := first | assumption | omega) only [f_X2_has_2, f_X2_has_2_body, m_gO2, m_pO2, m_gO3, m_pO3, m_gO4, m_pO4, m_rO0, m_rO1, m_rO5, m_rO6, m_rO7, m_iO, m_ldT, m_stT, m_ldS, m_ldM, m_ldL, m_lnS, m_lnM, m_gS0, m_pS0, m_gS1, m_pS1, m_gS2, m_pS2, m_gS3, m_pS3, m_gS4, m_pS4, m_gS5, m_pS5, m_gS6, m_pS6, m_rS7, m_rS8, m_iS, m_gM1, m_pM1, m_gM2, m_pM2, m_rM0, m_iM, m_gL1, m_pL1, m_rL0, m_iL, m_ldP, m_stP, m_ldR, m_stR, m_ldC, m_stC, m_ldK, m_stK, m_gx5, m_px5, m_rx0, m_rx1, m_rx2, m_rx3, m_rx4, m_ix, m_gD1, m_pD1, m_gD2, m_pD2, m_gD3, m_pD3, m_rD0, m_iD, m_ld2, m_st2, m_gH1, m_pH1, m_rH0, m_iH, m_gX1, m_pX1, m_gX2, m_pX2, m_gX3, m_pX3, m_rX0, m_rX4, m_rX5, m_rX6, m_rX7, m_iX, m_ld1273, m_st1273, m_ld1274, m_st1274, m_ld1275, m_st1275, m_ld1276, m_st1276, m_ld1277, m_st1277, m_ldH, zb2_s, zif_t, zopt_n, zopt_s, b_s, znm_e, lit_0, lit_1, lit_2, lit_3, lit_4, lit_5, lit_6, lit_7, lit_8, lit_9, lit_10, lit_11, lit_12, lit_13, lit_14, lit_15, lit_16, lit_17, lit_18, lit_20, lit_24, lit_26, lit_30, lit_40, lit_45, lit_46, lit_47, lit_48, lit_60, lit_63, lit_64, lit_77, lit_100, lit_140, lit_168, lit_200, lit_300, lit_400, lit_900, lit_1000, lit_1168, lit_1997, lit_3333, lit_9999, lit_10000, reduceIte, Nat.reduceEqDiff, Nat.reduceLeDiff, Nat.reduceAdd, Nat.reduceMul, nI_eqE, nI_ltE, nI_leE, zbool_0, zbool_1, zbool_b, bI_0, bI_1, h3]
    rw [if_pos (by omega), List.drop_eq_nil_of_le (by omega)]
    rfl
  | succ n ih =>
    intro fuel k h1 h2
    obtain ⟨fuel, rfl⟩ : ∃ f, fuel = f + 1 := ⟨fuel - 1, by omega⟩
    have h3 := hs.1
    have hlt : k < ll.length := by omega
    have hx : ll[k]? = some ll[k] := List.getElem?_eq_getElem hlt
    have hb2 := hq _ (List.getElem_mem hlt)
    have hr := e_lRank (z := z) hb hj hs hl (k := k) (by omega)
    have i1 := ih fuel (k + 1) (by omega) (by omega)
    simp (disch := first | assumption | omega) only [f_X2_has_2, f_X2_has_2_body, m_gO2, m_pO2, m_gO3, m_pO3, m_gO4, m_pO4, m_rO0, m_rO1, m_rO5, m_rO6, m_rO7, m_iO, m_ldT, m_stT, m_ldS, m_ldM, m_ldL, m_lnS, m_lnM, m_gS0, m_pS0, m_gS1, m_pS1, m_gS2, m_pS2, m_gS3, m_pS3, m_gS4, m_pS4, m_gS5, m_pS5, m_gS6, m_pS6, m_rS7, m_rS8, m_iS, m_gM1, m_pM1, m_gM2, m_pM2, m_rM0, m_iM, m_gL1, m_pL1, m_rL0, m_iL, m_ldP, m_stP, m_ldR, m_stR, m_ldC, m_stC, m_ldK, m_stK, m_gx5, m_px5, m_rx0, m_rx1, m_rx2, m_rx3, m_rx4, m_ix, m_gD1, m_pD1, m_gD2, m_pD2, m_gD3, m_pD3, m_rD0, m_iD, m_ld2, m_st2, m_gH1, m_pH1, m_rH0, m_iH, m_gX1, m_pX1, m_gX2, m_pX2, m_gX3, m_pX3, m_rX0, m_rX4, m_rX5, m_rX6, m_rX7, m_iX, m_ld1273, m_st1273, m_ld1274, m_st1274, m_ld1275, m_st1275, m_ld1276, m_st1276, m_ld1277, m_st1277, m_ldH, zb2_s, zif_t, zopt_n, zopt_s, b_s, znm_e, lit_0, lit_1, lit_2, lit_3, lit_4, lit_5, lit_6, lit_7, lit_8, lit_9, lit_10, lit_11, lit_12, lit_13, lit_14, lit_15, lit_16, lit_17, lit_18, lit_20, lit_24, lit_26, lit_30, lit_40, lit_45, lit_46, lit_47, lit_48, lit_60, lit_63, lit_64, lit_77, lit_100, lit_140, lit_168, lit_200, lit_300, lit_400, lit_900, lit_1000, lit_1168, lit_1997, lit_3333, lit_9999, lit_10000, reduceIte, Nat.reduceEqDiff, Nat.reduceLeDiff, Nat.reduceAdd, Nat.reduceMul, nI_eqE, nI_ltE, nI_leE, zbool_0, zbool_1, zbool_b, bI_0, bI_1, h3, hr, hx, oI, nI_add, nI_mul]
    rw [if_neg (by omega), List.drop_eq_getElem_cons hlt]
    by_cases c : ll[k] = m
    · rw [if_pos c, bI_t (by simp [c])]
    · have e : (m ∈ ll[k] :: List.drop (k + 1) ll) = (m ∈ List.drop (k + 1) ll) := propext ⟨fun h => (List.mem_cons.mp h).resolve_left (fun q => c q.symm), List.mem_cons_of_mem _⟩
      rw [if_neg c, i1]
      simp only [e]
theorem e_lHas {z : Nat} {X : pX} {B j : Nat} (hb : isB B) (hj : j < 4) {ll : List Nat} (hs : LadC X.1 B j ll) (hl : ll.length ≤ 12) {m : Nat} (hm : m < 12) (hq : ∀ x, x ∈ ll → x < 12) : f_X2_has (z + (B + (173 + 2 * j))) (nI m) (hp z X) = some (bI (decide (m ∈ ll)), hp z X) := by
  have h := e_lHasL (z := z) hb hj hs hl hm hq ll.length zN 0 (by omega) (zN_lt (by omega))
  simp only [f_X2_has, lit_0, lit_1, lit_2, lit_3, lit_4, lit_5, lit_6, lit_7, lit_8, lit_9, lit_10, lit_11, lit_12, lit_13, lit_14, lit_15, lit_16, lit_17, lit_18, lit_20, lit_24, lit_26, lit_30, lit_40, lit_45, lit_46, lit_47, lit_48, lit_60, lit_63, lit_64, lit_77, lit_100, lit_140, lit_168, lit_200, lit_300, lit_400, lit_900, lit_1000, lit_1168, lit_1997, lit_3333, lit_9999, lit_10000, h, List.drop_zero]
/-- once the member is found, the rest moves down by one -/
theorem e_takeOffA {z B j m n : Nat} (hb : isB B) (hj : j < 4) (hn : n ≤ 12) : ∀ (t pre : List Nat) (fuel i : Nat) (X : pX), pre.length + 1 = i → i + t.length = n → t.length < fuel → X.1 (B + (173 + 2 * j)) 1 = nI n → (∀ (k x : Nat), pre[k]? = some x → X.1 (B + (174 + 2 * j)) k = nI x) → (∀ (k x : Nat), t[k]? = some x → X.1 (B + (174 + 2 * j)) (i + k) = nI x) →
    ∃ V', f_X2_takeOff_4 fuel (z + (B + (173 + 2 * j))) (nI m) (nI 1) (nI i) (hp z X) = some (nI (pre ++ t).length, hp z (V', X.2)) ∧ (∀ o, o ≠ B + (173 + 2 * j) → o ≠ B + (174 + 2 * j) → V' o = X.1 o) ∧ LadC V' B j (pre ++ t) := by
  intro t
  induction t with
  | nil =>
    intro pre fuel i X h1 h2 h3 h5 h6 h7
    have h2 : i = n := h2
    obtain ⟨fuel, rfl⟩ : ∃ f, fuel = f + 1 := ⟨fuel - 1, by have : ([] : List Nat).length = 0 := rfl; omega⟩
    have e0 : nI n - nI 1 = nI pre.length := by rw [nI_sub (by omega)]; exact congrArg nI (by omega)
    refine ⟨_, by
      simp (disch := first | assumption | omega) only [f_X2_takeOff_4, f_X2_takeOff_4_body, f_X2_takeOff_61, m_gO2, m_pO2, m_gO3, m_pO3, m_gO4, m_pO4, m_rO0, m_rO1, m_rO5, m_rO6, m_rO7, m_iO, m_ldT, m_stT, m_ldS, m_ldM, m_ldL, m_lnS, m_lnM, m_gS0, m_pS0, m_gS1, m_pS1, m_gS2, m_pS2, m_gS3, m_pS3, m_gS4, m_pS4, m_gS5, m_pS5, m_gS6, m_pS6, m_rS7, m_rS8, m_iS, m_gM1, m_pM1, m_gM2, m_pM2, m_rM0, m_iM, m_gL1, m_pL1, m_rL0, m_iL, m_ldP, m_stP, m_ldR, m_stR, m_ldC, m_stC, m_ldK, m_stK, m_gx5, m_px5, m_rx0, m_rx1, m_rx2, m_rx3, m_rx4, m_ix, m_gD1, m_pD1, m_gD2, m_pD2, m_gD3, m_pD3, m_rD0, m_iD, m_ld2, m_st2, m_gH1, m_pH1, m_rH0, m_iH, m_gX1, m_pX1, m_gX2, m_pX2, m_gX3, m_pX3, m_rX0, m_rX4, m_rX5, m_rX6, m_rX7, m_iX, m_ld1273, m_st1273, m_ld1274, m_st1274, m_ld1275, m_st1275, m_ld1276, m_st1276, m_ld1277, m_st1277, m_ldH, zb2_s, zif_t, zopt_n, zopt_s, b_s, znm_e, lit_0, lit_1, lit_2, lit_3, lit_4, lit_5, lit_6, lit_7, lit_8, lit_9, lit_10, lit_11, lit_12, lit_13, lit_14, lit_15, lit_16, lit_17, lit_18, lit_20, lit_24, lit_26, lit_30, lit_40, lit_45, lit_46, lit_47, lit_48, lit_60, lit_63, lit_64, lit_77, lit_100, lit_140, lit_168, lit_200, lit_300, lit_400, lit_900, lit_1000, lit_1168, lit_1997, lit_3333, lit_9999, lit_10000, reduceIte, Nat.reduceEqDiff, Nat.reduceLeDiff, Nat.reduceAdd, Nat.reduceMul, nI_eqE, nI_ltE, nI_leE, zbool_0, zbool_1, zbool_b, bI_0, bI_1, h5]
      rw [if_pos (by omega)]
      simp (disch := first | assumption | omega) only [m_gO2, m_pO2, m_gO3, m_pO3, m_gO4, m_pO4, m_rO0, m_rO1, m_rO5, m_rO6, m_rO7, m_iO, m_ldT, m_stT, m_ldS, m_ldM, m_ldL, m_lnS, m_lnM, m_gS0, m_pS0, m_gS1, m_pS1, m_gS2, m_pS2, m_gS3, m_pS3, m_gS4, m_pS4, m_gS5, m_pS5, m_gS6, m_pS6, m_rS7, m_rS8, m_iS, m_gM1, m_pM1, m_gM2, m_pM2, m_rM0, m_iM, m_gL1, m_pL1, m_rL0, m_iL, m_ldP, m_stP, m_ldR, m_stR, m_ldC, m_stC, m_ldK, m_stK, m_gx5, m_px5, m_rx0, m_rx1, m_rx2, m_rx3, m_rx4, m_ix, m_gD1, m_pD1, m_gD2, m_pD2, m_gD3, m_pD3, m_rD0, m_iD, m_ld2, m_st2, m_gH1, m_pH1, m_rH0, m_iH, m_gX1, m_pX1, m_gX2, m_pX2, m_gX3, m_pX3, m_rX0, m_rX4, m_rX5, m_rX6, m_rX7, m_iX, m_ld1273, m_st1273, m_ld1274, m_st1274, m_ld1275, m_st1275, m_ld1276, m_st1276, m_ld1277, m_st1277, m_ldH, zb2_s, zif_t, zopt_n, zopt_s, b_s, znm_e, lit_0, lit_1, lit_2, lit_3, lit_4, lit_5, lit_6, lit_7, lit_8, lit_9, lit_10, lit_11, lit_12, lit_13, lit_14, lit_15, lit_16, lit_17, lit_18, lit_20, lit_24, lit_26, lit_30, lit_40, lit_45, lit_46, lit_47, lit_48, lit_60, lit_63, lit_64, lit_77, lit_100, lit_140, lit_168, lit_200, lit_300, lit_400, lit_900, lit_1000, lit_1168, lit_1997, lit_3333, lit_9999, lit_10000, reduceIte, Nat.reduceEqDiff, Nat.reduceLeDiff, Nat.reduceAdd, Nat.reduceMul, nI_eqE, nI_ltE, nI_leE, zbool_0, zbool_1, zbool_b, bI_0, bI_1, h5, e0, List.append_nil, sV_s, pk_us]
      rfl, ?_, ?_⟩
    · intro o o1 o2
      exact sV_n o1
    · rw [List.append_nil]
      refine ⟨?_, ?_⟩
      · rw [sV_s, pk_us]
      · intro k x hx
        rw [sV_n (by omega)]
        exact h6 k x hx
  | cons y t ih =>
    intro pre fuel i X h1 h2 h3 h5 h6 h7
    have h2 : i + (t.length + 1) = n := h2
    have h3 : t.length + 1 < fuel := h3
    obtain ⟨fuel, rfl⟩ : ∃ f, fuel = f + 1 := ⟨fuel - 1, by omega⟩
    have hy := h7 0 y rfl
    rw [Nat.add_zero] at hy
    have e0 : nI i - nI 1 = nI pre.length := by rw [nI_sub (by omega)]; exact congrArg nI (by omega)
    simp (disch := first | assumption | omega) only [f_X2_takeOff_4, f_X2_takeOff_4_body, f_X2_takeOff_55, m_gO2, m_pO2, m_gO3, m_pO3, m_gO4, m_pO4, m_rO0, m_rO1, m_rO5, m_rO6, m_rO7, m_iO, m_ldT, m_stT, m_ldS, m_ldM, m_ldL, m_lnS, m_lnM, m_gS0, m_pS0, m_gS1, m_pS1, m_gS2, m_pS2, m_gS3, m_pS3, m_gS4, m_pS4, m_gS5, m_pS5, m_gS6, m_pS6, m_rS7, m_rS8, m_iS, m_gM1, m_pM1, m_gM2, m_pM2, m_rM0, m_iM, m_gL1, m_pL1, m_rL0, m_iL, m_ldP, m_stP, m_ldR, m_stR, m_ldC, m_stC, m_ldK, m_stK, m_gx5, m_px5, m_rx0, m_rx1, m_rx2, m_rx3, m_rx4, m_ix, m_gD1, m_pD1, m_gD2, m_pD2, m_gD3, m_pD3, m_rD0, m_iD, m_ld2, m_st2, m_gH1, m_pH1, m_rH0, m_iH, m_gX1, m_pX1, m_gX2, m_pX2, m_gX3, m_pX3, m_rX0, m_rX4, m_rX5, m_rX6, m_rX7, m_iX, m_ld1273, m_st1273, m_ld1274, m_st1274, m_ld1275, m_st1275, m_ld1276, m_st1276, m_ld1277, m_st1277, m_ldH, zb2_s, zif_t, zopt_n, zopt_s, b_s, znm_e, lit_0, lit_1, lit_2, lit_3, lit_4, lit_5, lit_6, lit_7, lit_8, lit_9, lit_10, lit_11, lit_12, lit_13, lit_14, lit_15, lit_16, lit_17, lit_18, lit_20, lit_24, lit_26, lit_30, lit_40, lit_45, lit_46, lit_47, lit_48, lit_60, lit_63, lit_64, lit_77, lit_100, lit_140, lit_168, lit_200, lit_300, lit_400, lit_900, lit_1000, lit_1168, lit_1997, lit_3333, lit_9999, lit_10000, reduceIte, Nat.reduceEqDiff, Nat.reduceLeDiff, Nat.reduceAdd, Nat.reduceMul, nI_eqE, nI_ltE, nI_leE, zbool_0, zbool_1, zbool_b, bI_0, bI_1, h5]
    rw [if_neg (by omega), if_neg (by omega), if_neg (by omega)]
    simp (disch := first | assumption | omega) only [m_gO2, m_pO2, m_gO3, m_pO3, m_gO4, m_pO4, m_rO0, m_rO1, m_rO5, m_rO6, m_rO7, m_iO, m_ldT, m_stT, m_ldS, m_ldM, m_ldL, m_lnS, m_lnM, m_gS0, m_pS0, m_gS1, m_pS1, m_gS2, m_pS2, m_gS3, m_pS3, m_gS4, m_pS4, m_gS5, m_pS5, m_gS6, m_pS6, m_rS7, m_rS8, m_iS, m_gM1, m_pM1, m_gM2, m_pM2, m_rM0, m_iM, m_gL1, m_pL1, m_rL0, m_iL, m_ldP, m_stP, m_ldR, m_stR, m_ldC, m_stC, m_ldK, m_stK, m_gx5, m_px5, m_rx0, m_rx1, m_rx2, m_rx3, m_rx4, m_ix, m_gD1, m_pD1, m_gD2, m_pD2, m_gD3, m_pD3, m_rD0, m_iD, m_ld2, m_st2, m_gH1, m_pH1, m_rH0, m_iH, m_gX1, m_pX1, m_gX2, m_pX2, m_gX3, m_pX3, m_rX0, m_rX4, m_rX5, m_rX6, m_rX7, m_iX, m_ld1273, m_st1273, m_ld1274, m_st1274, m_ld1275, m_st1275, m_ld1276, m_st1276, m_ld1277, m_st1277, m_ldH, zb2_s, zif_t, zopt_n, zopt_s, b_s, znm_e, lit_0, lit_1, lit_2, lit_3, lit_4, lit_5, lit_6, lit_7, lit_8, lit_9, lit_10, lit_11, lit_12, lit_13, lit_14, lit_15, lit_16, lit_17, lit_18, lit_20, lit_24, lit_26, lit_30, lit_40, lit_45, lit_46, lit_47, lit_48, lit_60, lit_63, lit_64, lit_77, lit_100, lit_140, lit_168, lit_200, lit_300, lit_400, lit_900, lit_1000, lit_1168, lit_1997, lit_3333, lit_9999, lit_10000, reduceIte, Nat.reduceEqDiff, Nat.reduceLeDiff, Nat.reduceAdd, Nat.reduceMul, nI_eqE, nI_ltE, nI_leE, zbool_0, zbool_1, zbool_b, bI_0, bI_1, h5, hy, e0]
    obtain ⟨V', e1, e2, e3⟩ := ih (pre ++ [y]) fuel (i + 1) (sV X.1 (B + (174 + 2 * j)) (upd (X.1 (B + (174 + 2 * j))) pre.length (nI y)), X.2) (by simp; omega) (by omega) (by omega) (by show sV _ _ _ _ 1 = _; rw [sV_n (by omega)]; exact h5) (fun k x hx => by
        show sV _ _ _ _ k = _
        rw [sV_s]
        by_cases hk : k = pre.length
        · subst hk
          rw [pk_us]
          simp at hx
          rw [hx]
        · rw [pk_un hk]
          rw [List.getElem?_append_left (by have := getE_lt hx; simp at this; omega)] at hx
          exact h6 k x hx) (fun k x hx => by
        show sV _ _ _ _ (i + 1 + k) = _
        rw [sV_s, pk_un (by omega), show i + 1 + k = i + (k + 1) by omega]
        exact h7 (k + 1) x hx)
    have e4 : (pre ++ [y]) ++ t = pre ++ y :: t := by simp
    rw [e4] at e1 e3
    refine ⟨V', ?_, fun o o1 o2 => by rw [e2 o o1 o2]; exact sV_n o2, e3⟩
    rw [nI_add]
    exact e1
/-- before it is found, nothing moves -/
theorem e_takeOffL {z : Nat} {X : pX} {B j m n : Nat} (hb : isB B) (hj : j < 4) (hm : m < 12) (hn : n ≤ 12) (h5 : X.1 (B + (173 + 2 * j)) 1 = nI n) : ∀ (t pre : List Nat) (fuel i : Nat), pre.length = i → i + t.length = n → t.length < fuel → (∀ x, x ∈ t → x < 12) → t.Nodup → (∀ (k x : Nat), (pre ++ t)[k]? = some x → X.1 (B + (174 + 2 * j)) k = nI x) →
    ∃ V', f_X2_takeOff_4 fuel (z + (B + (173 + 2 * j))) (nI m) (nI 0) (nI i) (hp z X) = some (nI (pre ++ t.filter (fun x => !decide (x = m))).length, hp z (V', X.2)) ∧ (∀ o, o ≠ B + (173 + 2 * j) → o ≠ B + (174 + 2 * j) → V' o = X.1 o) ∧ LadC V' B j (pre ++ t.filter (fun x => !decide (x = m))) := by
  intro t
  induction t with
  | nil =>
    intro pre fuel i h1 h2 h3 h4 hd h6
    have h2 : i = n := h2
    obtain ⟨fuel, rfl⟩ : ∃ f, fuel = f + 1 := ⟨fuel - 1, by have : ([] : List Nat).length = 0 := rfl; omega⟩
    refine ⟨X.1, ?_, fun o _ _ => rfl, ?_⟩
    · have e1 : pre.length = n := by omega
      simp (disch := first | assumption | omega) only [f_X2_takeOff_4, f_X2_takeOff_4_body, f_X2_takeOff_61, m_gO2, m_pO2, m_gO3, m_pO3, m_gO4, m_pO4, m_rO0, m_rO1, m_rO5, m_rO6, m_rO7, m_iO, m_ldT, m_stT, m_ldS, m_ldM, m_ldL, m_lnS, m_lnM, m_gS0, m_pS0, m_gS1, m_pS1, m_gS2, m_pS2, m_gS3, m_pS3, m_gS4, m_pS4, m_gS5, m_pS5, m_gS6, m_pS6, m_rS7, m_rS8, m_iS, m_gM1, m_pM1, m_gM2, m_pM2, m_rM0, m_iM, m_gL1, m_pL1, m_rL0, m_iL, m_ldP, m_stP, m_ldR, m_stR, m_ldC, m_stC, m_ldK, m_stK, m_gx5, m_px5, m_rx0, m_rx1, m_rx2, m_rx3, m_rx4, m_ix, m_gD1, m_pD1, m_gD2, m_pD2, m_gD3, m_pD3, m_rD0, m_iD, m_ld2, m_st2, m_gH1, m_pH1, m_rH0, m_iH, m_gX1, m_pX1, m_gX2, m_pX2, m_gX3, m_pX3, m_rX0, m_rX4, m_rX5, m_rX6, m_rX7, m_iX, m_ld1273, m_st1273, m_ld1274, m_st1274, m_ld1275, m_st1275, m_ld1276, m_st1276, m_ld1277, m_st1277, m_ldH, zb2_s, zif_t, zopt_n, zopt_s, b_s, znm_e, lit_0, lit_1, lit_2, lit_3, lit_4, lit_5, lit_6, lit_7, lit_8, lit_9, lit_10, lit_11, lit_12, lit_13, lit_14, lit_15, lit_16, lit_17, lit_18, lit_20, lit_24, lit_26, lit_30, lit_40, lit_45, lit_46, lit_47, lit_48, lit_60, lit_63, lit_64, lit_77, lit_100, lit_140, lit_168, lit_200, lit_300, lit_400, lit_900, lit_1000, lit_1168, lit_1997, lit_3333, lit_9999, lit_10000, reduceIte, Nat.reduceEqDiff, Nat.reduceLeDiff, Nat.reduceAdd, Nat.reduceMul, nI_eqE, nI_ltE, nI_leE, zbool_0, zbool_1, zbool_b, bI_0, bI_1, h5]
      have e2 : (pre ++ List.filter (fun x => !decide (x = m)) []).length = n := by rw [List.filter_nil, List.append_nil]; exact e1
      rw [if_pos (by omega)]
      exact congrArg (fun k => some (nI k, hp z X)) e2.symm
    · simp only [List.filter_nil, List.append_nil] at h6 ⊢
      exact ⟨by rw [h5]; exact congrArg nI (by omega), h6⟩
  | cons y t ih =>
    intro pre fuel i h1 h2 h3 h4 hd h6
    have h2 : i + (t.length + 1) = n := h2
    have h3 : t.length + 1 < fuel := h3
    have hy : X.1 (B + (174 + 2 * j)) i = nI y := h6 i y (by subst h1; rw [List.getElem?_append_right (Nat.le_refl _), Nat.sub_self]; rfl)
    obtain ⟨fuel, rfl⟩ : ∃ f, fuel = f + 1 := ⟨fuel - 1, by omega⟩
    have by_ := h4 y List.mem_cons_self
    simp (disch := first | assumption | omega) only [f_X2_takeOff_4, f_X2_takeOff_4_body, f_X2_takeOff_43, f_X2_takeOff_55, m_gO2, m_pO2, m_gO3, m_pO3, m_gO4, m_pO4, m_rO0, m_rO1, m_rO5, m_rO6, m_rO7, m_iO, m_ldT, m_stT, m_ldS, m_ldM, m_ldL, m_lnS, m_lnM, m_gS0, m_pS0, m_gS1, m_pS1, m_gS2, m_pS2, m_gS3, m_pS3, m_gS4, m_pS4, m_gS5, m_pS5, m_gS6, m_pS6, m_rS7, m_rS8, m_iS, m_gM1, m_pM1, m_gM2, m_pM2, m_rM0, m_iM, m_gL1, m_pL1, m_rL0, m_iL, m_ldP, m_stP, m_ldR, m_stR, m_ldC, m_stC, m_ldK, m_stK, m_gx5, m_px5, m_rx0, m_rx1, m_rx2, m_rx3, m_rx4, m_ix, m_gD1, m_pD1, m_gD2, m_pD2, m_gD3, m_pD3, m_rD0, m_iD, m_ld2, m_st2, m_gH1, m_pH1, m_rH0, m_iH, m_gX1, m_pX1, m_gX2, m_pX2, m_gX3, m_pX3, m_rX0, m_rX4, m_rX5, m_rX6, m_rX7, m_iX, m_ld1273, m_st1273, m_ld1274, m_st1274, m_ld1275, m_st1275, m_ld1276, m_st1276, m_ld1277, m_st1277, m_ldH, zb2_s, zif_t, zopt_n, zopt_s, b_s, znm_e, lit_0, lit_1, lit_2, lit_3, lit_4, lit_5, lit_6, lit_7, lit_8, lit_9, lit_10, lit_11, lit_12, lit_13, lit_14, lit_15, lit_16, lit_17, lit_18, lit_20, lit_24, lit_26, lit_30, lit_40, lit_45, lit_46, lit_47, lit_48, lit_60, lit_63, lit_64, lit_77, lit_100, lit_140, lit_168, lit_200, lit_300, lit_400, lit_900, lit_1000, lit_1168, lit_1997, lit_3333, lit_9999, lit_10000, reduceIte, Nat.reduceEqDiff, Nat.reduceLeDiff, Nat.reduceAdd, Nat.reduceMul, nI_eqE, nI_ltE, nI_leE, zbool_0, zbool_1, zbool_b, bI_0, bI_1, h5, hy]
    rw [if_neg (by omega), if_neg (by omega)]
    by_cases c : y = m
    · have hn2 := List.nodup_cons.mp hd
      have ef : List.filter (fun x => !decide (x = m)) (y :: t) = t := by
        subst c
        have e9 : List.filter (fun x => !decide (x = y)) (y :: t) = List.filter (fun x => !decide (x = y)) t := by simp [List.filter_cons]
        rw [e9, List.filter_eq_self]
        intro x hx
        have : x ≠ y := fun e => hn2.1 (e ▸ hx)
        simp [this]
      rw [if_pos c, ef]
      obtain ⟨V', e1, e2, e3⟩ := e_takeOffA (z := z) (m := m) hb hj hn t pre fuel (i + 1) X (by omega) (by omega) (by omega) h5 (fun k x hx => h6 k x (by rw [List.getElem?_append_left (getE_lt hx)]; exact hx)) (fun k x hx => h6 (i + 1 + k) x (by subst h1; rw [List.getElem?_append_right (by omega), show pre.length + 1 + k - pre.length = k + 1 by omega]; exact hx))
      refine ⟨V', ?_, e2, e3⟩
      rw [nI_add]
      exact e1
    · rw [if_neg c]
      obtain ⟨V', e1, e2, e3⟩ := ih (pre ++ [y]) fuel (i + 1) (by simp; omega) (by omega) (by omega) (fun x hx => h4 x (List.mem_cons_of_mem _ hx)) (List.nodup_cons.mp hd).2 (fun k x hx => h6 k x (by rw [List.append_assoc] at hx; exact hx))
      have e0 : pre ++ List.filter (fun x => !decide (x = m)) (y :: t) = (pre ++ [y]) ++ List.filter (fun x => !decide (x = m)) t := by simp [List.filter_cons, c]
      refine ⟨V', ?_, e2, by rw [e0]; exact e3⟩
      rw [e0, nI_add]
      exact e1
theorem e_takeOff {z : Nat} {X : pX} {B j : Nat} (hb : isB B) (hj : j < 4) {ll : List Nat} (hs : LadC X.1 B j ll) (hl : ll.length ≤ 12) {m : Nat} (hm : m < 12) (hq : ∀ x, x ∈ ll → x < 12) (hd : ll.Nodup) : ∃ V', f_X2_takeOff (z + (B + (173 + 2 * j))) (nI m) (hp z X) = some (nI (ll.filter (fun x => !decide (x = m))).length, hp z (V', X.2)) ∧ (∀ o, o ≠ B + (173 + 2 * j) → o ≠ B + (174 + 2 * j) → V' o = X.1 o) ∧ LadC V' B j (ll.filter (fun x => !decide (x = m))) := by
  obtain ⟨V', e1, e2, e3⟩ := e_takeOffL (z := z) (X := X) hb hj hm hl hs.1 ll [] zN 0 rfl (by omega) (zN_lt (by omega)) hq hd (fun k x hx => hs.2 k x hx)
  refine ⟨V', ?_, e2, by simpa using e3⟩
  simp only [f_X2_takeOff, lit_0, lit_1, lit_2, lit_3, lit_4, lit_5, lit_6, lit_7, lit_8, lit_9, lit_10, lit_11, lit_12, lit_13, lit_14, lit_15, lit_16, lit_17, lit_18, lit_20, lit_24, lit_26, lit_30, lit_40, lit_45, lit_46, lit_47, lit_48, lit_60, lit_63, lit_64, lit_77, lit_100, lit_140, lit_168, lit_200, lit_300, lit_400, lit_900, lit_1000, lit_1168, lit_1997, lit_3333, lit_9999, lit_10000]
  simpa using e1
theorem e_putLast {z : Nat} {X : pX} {B j : Nat} (hb : isB B) (hj : j < 4) {ll : List Nat} (hs : LadC X.1 B j ll) (hl : ll.length ≤ 12) {m : Nat} (hm : m < 12) (hq : ∀ x, x ∈ ll → x < 12) (hd : ll.Nodup) (hr : (ll.filter (fun x => !decide (x = m))).length < 12) : ∃ V', f_X2_putLast (z + (B + (173 + 2 * j))) (nI m) (hp z X) = some (nI ((ll.filter (fun x => !decide (x = m))).length + 1), hp z (V', X.2)) ∧ (∀ o, o ≠ B + (173 + 2 * j) → o ≠ B + (174 + 2 * j) → V' o = X.1 o) ∧ LadC V' B j (ll.filter (fun x => !decide (x = m)) ++ [m]) := by
  obtain ⟨V1, e1, e2, e3⟩ := e_takeOff (z := z) hb hj hs hl hm hq hd
  generalize ll.filter (fun x => !decide (x = m)) = l2 at e1 e3 hr ⊢
  have h3 := e3.1
  refine ⟨_, by
    simp (disch := first | assumption | omega) only [f_X2_putLast, m_gO2, m_pO2, m_gO3, m_pO3, m_gO4, m_pO4, m_rO0, m_rO1, m_rO5, m_rO6, m_rO7, m_iO, m_ldT, m_stT, m_ldS, m_ldM, m_ldL, m_lnS, m_lnM, m_gS0, m_pS0, m_gS1, m_pS1, m_gS2, m_pS2, m_gS3, m_pS3, m_gS4, m_pS4, m_gS5, m_pS5, m_gS6, m_pS6, m_rS7, m_rS8, m_iS, m_gM1, m_pM1, m_gM2, m_pM2, m_rM0, m_iM, m_gL1, m_pL1, m_rL0, m_iL, m_ldP, m_stP, m_ldR, m_stR, m_ldC, m_stC, m_ldK, m_stK, m_gx5, m_px5, m_rx0, m_rx1, m_rx2, m_rx3, m_rx4, m_ix, m_gD1, m_pD1, m_gD2, m_pD2, m_gD3, m_pD3, m_rD0, m_iD, m_ld2, m_st2, m_gH1, m_pH1, m_rH0, m_iH, m_gX1, m_pX1, m_gX2, m_pX2, m_gX3, m_pX3, m_rX0, m_rX4, m_rX5, m_rX6, m_rX7, m_iX, m_ld1273, m_st1273, m_ld1274, m_st1274, m_ld1275, m_st1275, m_ld1276, m_st1276, m_ld1277, m_st1277, m_ldH, zb2_s, zif_t, zopt_n, zopt_s, b_s, znm_e, lit_0, lit_1, lit_2, lit_3, lit_4, lit_5, lit_6, lit_7, lit_8, lit_9, lit_10, lit_11, lit_12, lit_13, lit_14, lit_15, lit_16, lit_17, lit_18, lit_20, lit_24, lit_26, lit_30, lit_40, lit_45, lit_46, lit_47, lit_48, lit_60, lit_63, lit_64, lit_77, lit_100, lit_140, lit_168, lit_200, lit_300, lit_400, lit_900, lit_1000, lit_1168, lit_1997, lit_3333, lit_9999, lit_10000, reduceIte, Nat.reduceEqDiff, Nat.reduceLeDiff, Nat.reduceAdd, Nat.reduceMul, nI_eqE, nI_ltE, nI_leE, zbool_0, zbool_1, zbool_b, bI_0, bI_1, e1, h3, e_wi_n]
    simp (disch := first | assumption | omega) only [m_gO2, m_pO2, m_gO3, m_pO3, m_gO4, m_pO4, m_rO0, m_rO1, m_rO5, m_rO6, m_rO7, m_iO, m_ldT, m_stT, m_ldS, m_ldM, m_ldL, m_lnS, m_lnM, m_gS0, m_pS0, m_gS1, m_pS1, m_gS2, m_pS2, m_gS3, m_pS3, m_gS4, m_pS4, m_gS5, m_pS5, m_gS6, m_pS6, m_rS7, m_rS8, m_iS, m_gM1, m_pM1, m_gM2, m_pM2, m_rM0, m_iM, m_gL1, m_pL1, m_rL0, m_iL, m_ldP, m_stP, m_ldR, m_stR, m_ldC, m_stC, m_ldK, m_stK, m_gx5, m_px5, m_rx0, m_rx1, m_rx2, m_rx3, m_rx4, m_ix, m_gD1, m_pD1, m_gD2, m_pD2, m_gD3, m_pD3, m_rD0, m_iD, m_ld2, m_st2, m_gH1, m_pH1, m_rH0, m_iH, m_gX1, m_pX1, m_gX2, m_pX2, m_gX3, m_pX3, m_rX0, m_rX4, m_rX5, m_rX6, m_rX7, m_iX, m_ld1273, m_st1273, m_ld1274, m_st1274, m_ld1275, m_st1275, m_ld1276, m_st1276, m_ld1277, m_st1277, m_ldH, zb2_s, zif_t, zopt_n, zopt_s, b_s, znm_e, lit_0, lit_1, lit_2, lit_3, lit_4, lit_5, lit_6, lit_7, lit_8, lit_9, lit_10, lit_11, lit_12, lit_13, lit_14, lit_15, lit_16, lit_17, lit_18, lit_20, lit_24, lit_26, lit_30, lit_40, lit_45, lit_46, lit_47, lit_48, lit_60, lit_63, lit_64, lit_77, lit_100, lit_140, lit_168, lit_200, lit_300, lit_400, lit_900, lit_1000, lit_1168, lit_1997, lit_3333, lit_9999, lit_10000, reduceIte, Nat.reduceEqDiff, Nat.reduceLeDiff, Nat.reduceAdd, Nat.reduceMul, nI_eqE, nI_ltE, nI_leE, zbool_0, zbool_1, zbool_b, bI_0, bI_1, sV_s, sV_n, h3, nI_add, nI_mul, pk_us]
    rfl, ?_, ?_, ?_⟩
  · intro o o1 o2
    rw [sV_n o1, sV_n o2]
    exact e2 o o1 o2
  · rw [sV_s, pk_us]; simp
  · intro k x hx
    rw [sV_n (by omega), sV_s]
    by_cases hk : k = l2.length
    · subst hk
      rw [pk_us]
      simp at hx
      rw [hx]
    · rw [pk_un hk]
      rw [List.getElem?_append_left (by have := getE_lt hx; simp at this; omega)] at hx
      exact e3.2 k x hx
/-! members -/
theorem e_certOf {z : Nat} {X : pX} {B j : Nat} (hb : isB B) (hj : j < 12) {r : Nat} (hr : r < 4) : f_X3_certificateOf (z + (B + (149 + 2 * j))) (nI r) (hp z X) = some (X.1 (B + (150 + 2 * j)) r, hp z X) := by
  simp (disch := first | assumption | omega) only [f_X3_certificateOf, m_gO2, m_pO2, m_gO3, m_pO3, m_gO4, m_pO4, m_rO0, m_rO1, m_rO5, m_rO6, m_rO7, m_iO, m_ldT, m_stT, m_ldS, m_ldM, m_ldL, m_lnS, m_lnM, m_gS0, m_pS0, m_gS1, m_pS1, m_gS2, m_pS2, m_gS3, m_pS3, m_gS4, m_pS4, m_gS5, m_pS5, m_gS6, m_pS6, m_rS7, m_rS8, m_iS, m_gM1, m_pM1, m_gM2, m_pM2, m_rM0, m_iM, m_gL1, m_pL1, m_rL0, m_iL, m_ldP, m_stP, m_ldR, m_stR, m_ldC, m_stC, m_ldK, m_stK, m_gx5, m_px5, m_rx0, m_rx1, m_rx2, m_rx3, m_rx4, m_ix, m_gD1, m_pD1, m_gD2, m_pD2, m_gD3, m_pD3, m_rD0, m_iD, m_ld2, m_st2, m_gH1, m_pH1, m_rH0, m_iH, m_gX1, m_pX1, m_gX2, m_pX2, m_gX3, m_pX3, m_rX0, m_rX4, m_rX5, m_rX6, m_rX7, m_iX, m_ld1273, m_st1273, m_ld1274, m_st1274, m_ld1275, m_st1275, m_ld1276, m_st1276, m_ld1277, m_st1277, m_ldH, zb2_s, zif_t, zopt_n, zopt_s, b_s, znm_e, lit_0, lit_1, lit_2, lit_3, lit_4, lit_5, lit_6, lit_7, lit_8, lit_9, lit_10, lit_11, lit_12, lit_13, lit_14, lit_15, lit_16, lit_17, lit_18, lit_20, lit_24, lit_26, lit_30, lit_40, lit_45, lit_46, lit_47, lit_48, lit_60, lit_63, lit_64, lit_77, lit_100, lit_140, lit_168, lit_200, lit_300, lit_400, lit_900, lit_1000, lit_1168, lit_1997, lit_3333, lit_9999, lit_10000, reduceIte, Nat.reduceEqDiff, Nat.reduceLeDiff, Nat.reduceAdd, Nat.reduceMul, nI_eqE, nI_ltE, nI_leE, zbool_0, zbool_1, zbool_b, bI_0, bI_1, e_isRole_n, if_false]
theorem e_replCert {z : Nat} {X : pX} {B j : Nat} (hb : isB B) (hj : j < 12) {r : Nat} (hr : r < 4) (v : Int32) : f_X3_replaceCertificate (z + (B + (149 + 2 * j))) (nI r) v (hp z X) = some (X.1 (B + (150 + 2 * j)) r, hp z (sV X.1 (B + (150 + 2 * j)) (upd (X.1 (B + (150 + 2 * j))) r v), X.2)) := by
  simp (disch := first | assumption | omega) only [f_X3_replaceCertificate, m_gO2, m_pO2, m_gO3, m_pO3, m_gO4, m_pO4, m_rO0, m_rO1, m_rO5, m_rO6, m_rO7, m_iO, m_ldT, m_stT, m_ldS, m_ldM, m_ldL, m_lnS, m_lnM, m_gS0, m_pS0, m_gS1, m_pS1, m_gS2, m_pS2, m_gS3, m_pS3, m_gS4, m_pS4, m_gS5, m_pS5, m_gS6, m_pS6, m_rS7, m_rS8, m_iS, m_gM1, m_pM1, m_gM2, m_pM2, m_rM0, m_iM, m_gL1, m_pL1, m_rL0, m_iL, m_ldP, m_stP, m_ldR, m_stR, m_ldC, m_stC, m_ldK, m_stK, m_gx5, m_px5, m_rx0, m_rx1, m_rx2, m_rx3, m_rx4, m_ix, m_gD1, m_pD1, m_gD2, m_pD2, m_gD3, m_pD3, m_rD0, m_iD, m_ld2, m_st2, m_gH1, m_pH1, m_rH0, m_iH, m_gX1, m_pX1, m_gX2, m_pX2, m_gX3, m_pX3, m_rX0, m_rX4, m_rX5, m_rX6, m_rX7, m_iX, m_ld1273, m_st1273, m_ld1274, m_st1274, m_ld1275, m_st1275, m_ld1276, m_st1276, m_ld1277, m_st1277, m_ldH, zb2_s, zif_t, zopt_n, zopt_s, b_s, znm_e, lit_0, lit_1, lit_2, lit_3, lit_4, lit_5, lit_6, lit_7, lit_8, lit_9, lit_10, lit_11, lit_12, lit_13, lit_14, lit_15, lit_16, lit_17, lit_18, lit_20, lit_24, lit_26, lit_30, lit_40, lit_45, lit_46, lit_47, lit_48, lit_60, lit_63, lit_64, lit_77, lit_100, lit_140, lit_168, lit_200, lit_300, lit_400, lit_900, lit_1000, lit_1168, lit_1997, lit_3333, lit_9999, lit_10000, reduceIte, Nat.reduceEqDiff, Nat.reduceLeDiff, Nat.reduceAdd, Nat.reduceMul, nI_eqE, nI_ltE, nI_leE, zbool_0, zbool_1, zbool_b, bI_0, bI_1, e_isRole_n, e_certOf, if_false]
