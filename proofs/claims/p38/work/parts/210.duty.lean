/-! the hours of duty, as the class keeps them: marks by hour, how many, the end, whether they collide -/
abbrev dS : Type := (Nat → Nat) × (Nat × (Nat × Nat))
def DuC (V : pV) (d : dS) : Prop := (∀ t, t < 1168 → V 2 t = nI (d.1 t)) ∧ V 1 1 = nI d.2.1 ∧ V 1 2 = nI d.2.2.1 ∧ V 1 3 = nI d.2.2.2
def dOk (d : dS) : Prop := (∀ t, d.1 t ≤ 7) ∧ d.2.2.1 ≤ 1168 ∧ d.2.2.2 ≤ 1 ∧ ∀ t, d.2.2.1 ≤ t → d.1 t = 0
def d0 : dS := (fun _ => 0, 0, 0, 0)
def updN (f : Nat → Nat) (k v : Nat) : Nat → Nat := fun j => if j = k then v else f j
theorem updN_s {f : Nat → Nat} {k v : Nat} : updN f k v k = v := if_pos rfl
theorem updN_n {f : Nat → Nat} {k j v : Nat} (h : j ≠ k) : updN f k v j = f j := if_neg h
def dmark (d : dS) (t g : Nat) : dS := (updN d.1 t g, d.2.1 + 1, (if t < d.2.2.1 then d.2.2.1 else t + 1), (if d.1 t = 0 then d.2.2.2 else 1))
theorem e_clearL {z : Nat} : ∀ (n fuel k en : Nat) (X : pX), k + n = en → n < fuel → en ≤ 1168 → X.1 1 2 = nI en → (∀ t, t < 1168 → (k ≤ t → en ≤ t → X.1 2 t = nI 0) ∧ (t < k → X.1 2 t = nI 0)) → ∃ V', f_X0_clear_2 fuel (z + 1) (nI k) (hp z X) = some (hp z (V', X.2)) ∧ (∀ o, o ≠ 1 → o ≠ 2 → V' o = X.1 o) ∧ DuC V' d0 := by
  intro n
  induction n with
  | zero =>
    intro fuel k en X h1 h2 h3 h4 h5
    obtain ⟨fuel, rfl⟩ : ∃ f, fuel = f + 1 := ⟨fuel - 1, by omega⟩
    have h1 : k = en := h1
    refine ⟨_, by
      simp (disch := first | assumption | omega) only [f_X0_clear_2, f_X0_clear_2_body, f_X0_clear_30, m_gO2, m_pO2, m_gO3, m_pO3, m_gO4, m_pO4, m_rO0, m_rO1, m_rO5, m_rO6, m_rO7, m_iO, m_ldT, m_stT, m_ldS, m_ldM, m_ldL, m_lnS, m_lnM, m_gS0, m_pS0, m_gS1, m_pS1, m_gS2, m_pS2, m_gS3, m_pS3, m_gS4, m_pS4, m_gS5, m_pS5, m_gS6, m_pS6, m_rS7, m_rS8, m_iS, m_gM1, m_pM1, m_gM2, m_pM2, m_rM0, m_iM, m_gL1, m_pL1, m_rL0, m_iL, m_ldP, m_stP, m_ldR, m_stR, m_ldC, m_stC, m_ldK, m_stK, m_gx5, m_px5, m_rx0, m_rx1, m_rx2, m_rx3, m_rx4, m_ix, m_gD1, m_pD1, m_gD2, m_pD2, m_gD3, m_pD3, m_rD0, m_iD, m_ld2, m_st2, m_gH1, m_pH1, m_rH0, m_iH, m_gX1, m_pX1, m_gX2, m_pX2, m_gX3, m_pX3, m_rX0, m_rX4, m_rX5, m_rX6, m_rX7, m_iX, m_ld1273, m_st1273, m_ld1274, m_st1274, m_ld1275, m_st1275, m_ld1276, m_st1276, m_ld1277, m_st1277, m_ldH, zb2_s, zif_t, zopt_n, zopt_s, b_s, znm_e, lit_0, lit_1, lit_2, lit_3, lit_4, lit_5, lit_6, lit_7, lit_8, lit_9, lit_10, lit_11, lit_12, lit_13, lit_14, lit_15, lit_16, lit_17, lit_18, lit_20, lit_24, lit_26, lit_30, lit_40, lit_45, lit_46, lit_47, lit_48, lit_60, lit_63, lit_64, lit_77, lit_100, lit_140, lit_168, lit_200, lit_300, lit_400, lit_900, lit_1000, lit_1168, lit_1997, lit_3333, lit_9999, lit_10000, reduceIte, Nat.reduceEqDiff, Nat.reduceLeDiff, Nat.reduceAdd, Nat.reduceMul, nI_eqE, nI_ltE, nI_leE, zbool_0, zbool_1, zbool_b, bI_0, bI_1, h4, sV_s, sV_sV]
      rw [if_pos (by omega)], ?_, ?_⟩
    · intro o o1 o2
      rw [sV_n o1]
    · refine ⟨fun t ht => ?_, ?_, ?_, ?_⟩
      · rw [sV_n (by omega)]
        rcases Nat.lt_or_ge t k with c | c
        · exact (h5 t ht).2 c
        · exact (h5 t ht).1 c (by omega)
      · rw [sV_s]; simp [upd, d0]
      · rw [sV_s]; simp [upd, d0]
      · rw [sV_s]; simp [upd, d0]
  | succ n ih =>
    intro fuel k en X h1 h2 h3 h4 h5
    obtain ⟨fuel, rfl⟩ : ∃ f, fuel = f + 1 := ⟨fuel - 1, by omega⟩
    obtain ⟨V', g1, g2, g3⟩ := ih fuel (k + 1) en (sV X.1 2 (upd (X.1 2) k (nI 0)), X.2) (by omega) (by omega) h3 (by dsimp only; rw [sV_n (by omega)]; exact h4) (fun t ht => by
      refine ⟨fun a b => ?_, fun a => ?_⟩
      · dsimp only
        rw [sV_s, pk_un (by omega)]
        exact (h5 t ht).1 (by omega) b
      · dsimp only
        rw [sV_s]
        by_cases c : t = k
        · rw [c, pk_us]
        · rw [pk_un c]; exact (h5 t ht).2 (by omega))
    refine ⟨V', ?_, fun o o1 o2 => by rw [g2 o o1 o2]; exact sV_n o2, g3⟩
    simp (disch := first | assumption | omega) only [f_X0_clear_2, f_X0_clear_2_body, f_X0_clear_30, m_gO2, m_pO2, m_gO3, m_pO3, m_gO4, m_pO4, m_rO0, m_rO1, m_rO5, m_rO6, m_rO7, m_iO, m_ldT, m_stT, m_ldS, m_ldM, m_ldL, m_lnS, m_lnM, m_gS0, m_pS0, m_gS1, m_pS1, m_gS2, m_pS2, m_gS3, m_pS3, m_gS4, m_pS4, m_gS5, m_pS5, m_gS6, m_pS6, m_rS7, m_rS8, m_iS, m_gM1, m_pM1, m_gM2, m_pM2, m_rM0, m_iM, m_gL1, m_pL1, m_rL0, m_iL, m_ldP, m_stP, m_ldR, m_stR, m_ldC, m_stC, m_ldK, m_stK, m_gx5, m_px5, m_rx0, m_rx1, m_rx2, m_rx3, m_rx4, m_ix, m_gD1, m_pD1, m_gD2, m_pD2, m_gD3, m_pD3, m_rD0, m_iD, m_ld2, m_st2, m_gH1, m_pH1, m_rH0, m_iH, m_gX1, m_pX1, m_gX2, m_pX2, m_gX3, m_pX3, m_rX0, m_rX4, m_rX5, m_rX6, m_rX7, m_iX, m_ld1273, m_st1273, m_ld1274, m_st1274, m_ld1275, m_st1275, m_ld1276, m_st1276, m_ld1277, m_st1277, m_ldH, zb2_s, zif_t, zopt_n, zopt_s, b_s, znm_e, lit_0, lit_1, lit_2, lit_3, lit_4, lit_5, lit_6, lit_7, lit_8, lit_9, lit_10, lit_11, lit_12, lit_13, lit_14, lit_15, lit_16, lit_17, lit_18, lit_20, lit_24, lit_26, lit_30, lit_40, lit_45, lit_46, lit_47, lit_48, lit_60, lit_63, lit_64, lit_77, lit_100, lit_140, lit_168, lit_200, lit_300, lit_400, lit_900, lit_1000, lit_1168, lit_1997, lit_3333, lit_9999, lit_10000, reduceIte, Nat.reduceEqDiff, Nat.reduceLeDiff, Nat.reduceAdd, Nat.reduceMul, nI_eqE, nI_ltE, nI_leE, zbool_0, zbool_1, zbool_b, bI_0, bI_1, h4]
    rw [if_neg (by omega), if_neg (by omega)]
    simp (disch := first | assumption | omega) only [m_gO2, m_pO2, m_gO3, m_pO3, m_gO4, m_pO4, m_rO0, m_rO1, m_rO5, m_rO6, m_rO7, m_iO, m_ldT, m_stT, m_ldS, m_ldM, m_ldL, m_lnS, m_lnM, m_gS0, m_pS0, m_gS1, m_pS1, m_gS2, m_pS2, m_gS3, m_pS3, m_gS4, m_pS4, m_gS5, m_pS5, m_gS6, m_pS6, m_rS7, m_rS8, m_iS, m_gM1, m_pM1, m_gM2, m_pM2, m_rM0, m_iM, m_gL1, m_pL1, m_rL0, m_iL, m_ldP, m_stP, m_ldR, m_stR, m_ldC, m_stC, m_ldK, m_stK, m_gx5, m_px5, m_rx0, m_rx1, m_rx2, m_rx3, m_rx4, m_ix, m_gD1, m_pD1, m_gD2, m_pD2, m_gD3, m_pD3, m_rD0, m_iD, m_ld2, m_st2, m_gH1, m_pH1, m_rH0, m_iH, m_gX1, m_pX1, m_gX2, m_pX2, m_gX3, m_pX3, m_rX0, m_rX4, m_rX5, m_rX6, m_rX7, m_iX, m_ld1273, m_st1273, m_ld1274, m_st1274, m_ld1275, m_st1275, m_ld1276, m_st1276, m_ld1277, m_st1277, m_ldH, zb2_s, zif_t, zopt_n, zopt_s, b_s, znm_e, nI_add, nI_mul, g1]
theorem e_clear {z : Nat} {X : pX} {d : dS} (hd : DuC X.1 d) (ho : dOk d) : ∃ V', f_X0_clear (z + 1) (hp z X) = some (hp z (V', X.2)) ∧ (∀ o, o ≠ 1 → o ≠ 2 → V' o = X.1 o) ∧ DuC V' d0 := by
  obtain ⟨V', g1, g2, g3⟩ := e_clearL (z := z) d.2.2.1 zN 0 d.2.2.1 X (by omega) (zN_lt (by have := ho.2.1; omega)) ho.2.1 hd.2.2.1 (fun t ht => ⟨fun _ b => by rw [hd.1 t ht, ho.2.2.2 t b], fun a => by omega⟩)
  exact ⟨V', by simp only [f_X0_clear, lit_0, lit_1, lit_2, lit_3, lit_4, lit_5, lit_6, lit_7, lit_8, lit_9, lit_10, lit_11, lit_12, lit_13, lit_14, lit_15, lit_16, lit_17, lit_18, lit_20, lit_24, lit_26, lit_30, lit_40, lit_45, lit_46, lit_47, lit_48, lit_60, lit_63, lit_64, lit_77, lit_100, lit_140, lit_168, lit_200, lit_300, lit_400, lit_900, lit_1000, lit_1168, lit_1997, lit_3333, lit_9999, lit_10000, g1], g2, g3⟩
theorem e_mark {z : Nat} {X : pX} {d : dS} (hd : DuC X.1 d) (ho : dOk d) {t g : Nat} (ht : t < 1168) : ∃ V', f_X0_mark (z + 1) (nI t) (nI g) (hp z X) = some (hp z (V', X.2)) ∧ (∀ o, o ≠ 1 → o ≠ 2 → V' o = X.1 o) ∧ DuC V' (dmark d t g) := by
  have h0 := hd.1 t ht
  have b0 := ho.1 t
  have h1 := hd.2.1
  have h2 := hd.2.2.1
  have h3 := hd.2.2.2
  have b2 := ho.2.1
  by_cases c1 : d.1 t = 0 <;> by_cases c2 : t < d.2.2.1
  · refine ⟨_, by
      simp (disch := first | assumption | omega) only [f_X0_mark_26, f_X0_mark, m_gO2, m_pO2, m_gO3, m_pO3, m_gO4, m_pO4, m_rO0, m_rO1, m_rO5, m_rO6, m_rO7, m_iO, m_ldT, m_stT, m_ldS, m_ldM, m_ldL, m_lnS, m_lnM, m_gS0, m_pS0, m_gS1, m_pS1, m_gS2, m_pS2, m_gS3, m_pS3, m_gS4, m_pS4, m_gS5, m_pS5, m_gS6, m_pS6, m_rS7, m_rS8, m_iS, m_gM1, m_pM1, m_gM2, m_pM2, m_rM0, m_iM, m_gL1, m_pL1, m_rL0, m_iL, m_ldP, m_stP, m_ldR, m_stR, m_ldC, m_stC, m_ldK, m_stK, m_gx5, m_px5, m_rx0, m_rx1, m_rx2, m_rx3, m_rx4, m_ix, m_gD1, m_pD1, m_gD2, m_pD2, m_gD3, m_pD3, m_rD0, m_iD, m_ld2, m_st2, m_gH1, m_pH1, m_rH0, m_iH, m_gX1, m_pX1, m_gX2, m_pX2, m_gX3, m_pX3, m_rX0, m_rX4, m_rX5, m_rX6, m_rX7, m_iX, m_ld1273, m_st1273, m_ld1274, m_st1274, m_ld1275, m_st1275, m_ld1276, m_st1276, m_ld1277, m_st1277, m_ldH, zb2_s, zif_t, zopt_n, zopt_s, b_s, znm_e, lit_0, lit_1, lit_2, lit_3, lit_4, lit_5, lit_6, lit_7, lit_8, lit_9, lit_10, lit_11, lit_12, lit_13, lit_14, lit_15, lit_16, lit_17, lit_18, lit_20, lit_24, lit_26, lit_30, lit_40, lit_45, lit_46, lit_47, lit_48, lit_60, lit_63, lit_64, lit_77, lit_100, lit_140, lit_168, lit_200, lit_300, lit_400, lit_900, lit_1000, lit_1168, lit_1997, lit_3333, lit_9999, lit_10000, reduceIte, Nat.reduceEqDiff, Nat.reduceLeDiff, Nat.reduceAdd, Nat.reduceMul, nI_eqE, nI_ltE, nI_leE, zbool_0, zbool_1, zbool_b, bI_0, bI_1, h0, h1, h2, sV_s, sV_n, sV_sV, pk_un, nI_add, nI_mul]
      rw [if_neg (by omega), if_pos ht, if_pos c1, if_pos c2], ?_, fun q hq => ?_, ?_, ?_, ?_⟩
    · intro o o1 o2
      rw [sV_n o1, sV_n o2]
    · rw [sV_n (by omega), sV_s]
      by_cases e : q = t
      · rw [e, pk_us]; simp [dmark, updN_s]
      · rw [pk_un e, hd.1 q hq]; simp [dmark, updN_n e]
    · rw [sV_s, pk_us]; rfl
    · rw [sV_s, pk_un (by omega), h2]; simp [dmark, c2]
    · rw [sV_s, pk_un (by omega), h3]; simp [dmark, c1]
  · refine ⟨_, by
      simp (disch := first | assumption | omega) only [f_X0_mark_26, f_X0_mark, m_gO2, m_pO2, m_gO3, m_pO3, m_gO4, m_pO4, m_rO0, m_rO1, m_rO5, m_rO6, m_rO7, m_iO, m_ldT, m_stT, m_ldS, m_ldM, m_ldL, m_lnS, m_lnM, m_gS0, m_pS0, m_gS1, m_pS1, m_gS2, m_pS2, m_gS3, m_pS3, m_gS4, m_pS4, m_gS5, m_pS5, m_gS6, m_pS6, m_rS7, m_rS8, m_iS, m_gM1, m_pM1, m_gM2, m_pM2, m_rM0, m_iM, m_gL1, m_pL1, m_rL0, m_iL, m_ldP, m_stP, m_ldR, m_stR, m_ldC, m_stC, m_ldK, m_stK, m_gx5, m_px5, m_rx0, m_rx1, m_rx2, m_rx3, m_rx4, m_ix, m_gD1, m_pD1, m_gD2, m_pD2, m_gD3, m_pD3, m_rD0, m_iD, m_ld2, m_st2, m_gH1, m_pH1, m_rH0, m_iH, m_gX1, m_pX1, m_gX2, m_pX2, m_gX3, m_pX3, m_rX0, m_rX4, m_rX5, m_rX6, m_rX7, m_iX, m_ld1273, m_st1273, m_ld1274, m_st1274, m_ld1275, m_st1275, m_ld1276, m_st1276, m_ld1277, m_st1277, m_ldH, zb2_s, zif_t, zopt_n, zopt_s, b_s, znm_e, lit_0, lit_1, lit_2, lit_3, lit_4, lit_5, lit_6, lit_7, lit_8, lit_9, lit_10, lit_11, lit_12, lit_13, lit_14, lit_15, lit_16, lit_17, lit_18, lit_20, lit_24, lit_26, lit_30, lit_40, lit_45, lit_46, lit_47, lit_48, lit_60, lit_63, lit_64, lit_77, lit_100, lit_140, lit_168, lit_200, lit_300, lit_400, lit_900, lit_1000, lit_1168, lit_1997, lit_3333, lit_9999, lit_10000, reduceIte, Nat.reduceEqDiff, Nat.reduceLeDiff, Nat.reduceAdd, Nat.reduceMul, nI_eqE, nI_ltE, nI_leE, zbool_0, zbool_1, zbool_b, bI_0, bI_1, h0, h1, h2, sV_s, sV_n, sV_sV, pk_un, nI_add, nI_mul]
      rw [if_neg (by omega), if_pos ht, if_pos c1, if_neg c2], ?_, fun q hq => ?_, ?_, ?_, ?_⟩
    · intro o o1 o2
      rw [sV_n o1, sV_n o2]
    · rw [sV_n (by omega), sV_s]
      by_cases e : q = t
      · rw [e, pk_us]; simp [dmark, updN_s]
      · rw [pk_un e, hd.1 q hq]; simp [dmark, updN_n e]
    · rw [sV_s, pk_un (by omega), pk_us]; rfl
    · rw [sV_s, pk_us]; simp [dmark, c2]
    · rw [sV_s, pk_un (by omega), pk_un (by omega), h3]; simp [dmark, c1]
  · refine ⟨_, by
      simp (disch := first | assumption | omega) only [f_X0_mark_26, f_X0_mark, m_gO2, m_pO2, m_gO3, m_pO3, m_gO4, m_pO4, m_rO0, m_rO1, m_rO5, m_rO6, m_rO7, m_iO, m_ldT, m_stT, m_ldS, m_ldM, m_ldL, m_lnS, m_lnM, m_gS0, m_pS0, m_gS1, m_pS1, m_gS2, m_pS2, m_gS3, m_pS3, m_gS4, m_pS4, m_gS5, m_pS5, m_gS6, m_pS6, m_rS7, m_rS8, m_iS, m_gM1, m_pM1, m_gM2, m_pM2, m_rM0, m_iM, m_gL1, m_pL1, m_rL0, m_iL, m_ldP, m_stP, m_ldR, m_stR, m_ldC, m_stC, m_ldK, m_stK, m_gx5, m_px5, m_rx0, m_rx1, m_rx2, m_rx3, m_rx4, m_ix, m_gD1, m_pD1, m_gD2, m_pD2, m_gD3, m_pD3, m_rD0, m_iD, m_ld2, m_st2, m_gH1, m_pH1, m_rH0, m_iH, m_gX1, m_pX1, m_gX2, m_pX2, m_gX3, m_pX3, m_rX0, m_rX4, m_rX5, m_rX6, m_rX7, m_iX, m_ld1273, m_st1273, m_ld1274, m_st1274, m_ld1275, m_st1275, m_ld1276, m_st1276, m_ld1277, m_st1277, m_ldH, zb2_s, zif_t, zopt_n, zopt_s, b_s, znm_e, lit_0, lit_1, lit_2, lit_3, lit_4, lit_5, lit_6, lit_7, lit_8, lit_9, lit_10, lit_11, lit_12, lit_13, lit_14, lit_15, lit_16, lit_17, lit_18, lit_20, lit_24, lit_26, lit_30, lit_40, lit_45, lit_46, lit_47, lit_48, lit_60, lit_63, lit_64, lit_77, lit_100, lit_140, lit_168, lit_200, lit_300, lit_400, lit_900, lit_1000, lit_1168, lit_1997, lit_3333, lit_9999, lit_10000, reduceIte, Nat.reduceEqDiff, Nat.reduceLeDiff, Nat.reduceAdd, Nat.reduceMul, nI_eqE, nI_ltE, nI_leE, zbool_0, zbool_1, zbool_b, bI_0, bI_1, h0, h1, h2, sV_s, sV_n, sV_sV, pk_un, nI_add, nI_mul]
      rw [if_neg (by omega), if_pos ht, if_neg c1]
      rw [if_pos c2], ?_, fun q hq => ?_, ?_, ?_, ?_⟩
    · intro o o1 o2
      rw [sV_n o1, sV_n o2, sV_n o1]
    · rw [sV_n (by omega), sV_s]
      by_cases e : q = t
      · rw [e, pk_us]; simp [dmark, updN_s]
      · rw [pk_un e, hd.1 q hq]; simp [dmark, updN_n e]
    · rw [sV_s, pk_us]; rfl
    · rw [sV_s, pk_un (by omega), pk_un (by omega), h2]; simp [dmark, c2]
    · rw [sV_s, pk_un (by omega), pk_us]; simp [dmark, c1]
  · refine ⟨_, by
      simp (disch := first | assumption | omega) only [f_X0_mark_26, f_X0_mark, m_gO2, m_pO2, m_gO3, m_pO3, m_gO4, m_pO4, m_rO0, m_rO1, m_rO5, m_rO6, m_rO7, m_iO, m_ldT, m_stT, m_ldS, m_ldM, m_ldL, m_lnS, m_lnM, m_gS0, m_pS0, m_gS1, m_pS1, m_gS2, m_pS2, m_gS3, m_pS3, m_gS4, m_pS4, m_gS5, m_pS5, m_gS6, m_pS6, m_rS7, m_rS8, m_iS, m_gM1, m_pM1, m_gM2, m_pM2, m_rM0, m_iM, m_gL1, m_pL1, m_rL0, m_iL, m_ldP, m_stP, m_ldR, m_stR, m_ldC, m_stC, m_ldK, m_stK, m_gx5, m_px5, m_rx0, m_rx1, m_rx2, m_rx3, m_rx4, m_ix, m_gD1, m_pD1, m_gD2, m_pD2, m_gD3, m_pD3, m_rD0, m_iD, m_ld2, m_st2, m_gH1, m_pH1, m_rH0, m_iH, m_gX1, m_pX1, m_gX2, m_pX2, m_gX3, m_pX3, m_rX0, m_rX4, m_rX5, m_rX6, m_rX7, m_iX, m_ld1273, m_st1273, m_ld1274, m_st1274, m_ld1275, m_st1275, m_ld1276, m_st1276, m_ld1277, m_st1277, m_ldH, zb2_s, zif_t, zopt_n, zopt_s, b_s, znm_e, lit_0, lit_1, lit_2, lit_3, lit_4, lit_5, lit_6, lit_7, lit_8, lit_9, lit_10, lit_11, lit_12, lit_13, lit_14, lit_15, lit_16, lit_17, lit_18, lit_20, lit_24, lit_26, lit_30, lit_40, lit_45, lit_46, lit_47, lit_48, lit_60, lit_63, lit_64, lit_77, lit_100, lit_140, lit_168, lit_200, lit_300, lit_400, lit_900, lit_1000, lit_1168, lit_1997, lit_3333, lit_9999, lit_10000, reduceIte, Nat.reduceEqDiff, Nat.reduceLeDiff, Nat.reduceAdd, Nat.reduceMul, nI_eqE, nI_ltE, nI_leE, zbool_0, zbool_1, zbool_b, bI_0, bI_1, h0, h1, h2, sV_s, sV_n, sV_sV, pk_un, nI_add, nI_mul]
      rw [if_neg (by omega), if_pos ht, if_neg c1]
      rw [if_neg c2], ?_, fun q hq => ?_, ?_, ?_, ?_⟩
    · intro o o1 o2
      rw [sV_n o1, sV_n o2, sV_n o1]
    · rw [sV_n (by omega), sV_s]
      by_cases e : q = t
      · rw [e, pk_us]; simp [dmark, updN_s]
      · rw [pk_un e, hd.1 q hq]; simp [dmark, updN_n e]
    · rw [sV_s, pk_un (by omega), pk_us]; rfl
    · rw [sV_s, pk_us]; simp [dmark, c2]
    · rw [sV_s, pk_un (by omega), pk_un (by omega), pk_us]; simp [dmark, c1]
theorem d0_ok : dOk d0 := ⟨fun t => Nat.zero_le _, Nat.zero_le _, Nat.zero_le _, fun _ _ => rfl⟩
theorem dmark_ok {d : dS} (ho : dOk d) {t g : Nat} (ht : t < 1168) (hg : g ≤ 7) : dOk (dmark d t g) := by
  refine ⟨fun q => ?_, ?_, ?_, fun q hq => ?_⟩
  · by_cases e : q = t
    · simp only [dmark, e, updN_s]; exact hg
    · simp only [dmark, updN_n e]; exact ho.1 q
  · have := ho.2.1
    simp only [dmark]
    split <;> omega
  · have := ho.2.2.1
    simp only [dmark]
    split <;> omega
  · simp only [dmark] at hq ⊢
    split at hq
    · rw [updN_n (by omega)]; exact ho.2.2.2 q hq
    · rw [updN_n (by omega)]; exact ho.2.2.2 q (by omega)
def dsail : Nat → Nat → Nat → dS → dS
  | _, 0, _, d => d
  | a, n + 1, g, d => dsail (a + 1) n g (dmark d a g)
theorem dsail_ok {g : Nat} (hg : g ≤ 7) : ∀ (n a : Nat) (d : dS), dOk d → a + n ≤ 1168 → dOk (dsail a n g d)
  | 0, _, _, h, _ => h
  | n + 1, a, d, h, hn => dsail_ok hg n (a + 1) _ (dmark_ok h (by omega) hg) (by omega)
def dhand (d : dS) (st f : Nat) : dS := match st with
  | 0 => d
  | t + 1 => if d.1 t = f + 1 then d else dmark d t 7
theorem dhand_ok {d : dS} (h : dOk d) {st f : Nat} (hs : st ≤ 1168) : dOk (dhand d st f) := by
  cases st with
  | zero => exact h
  | succ t =>
    show dOk (if d.1 t = f + 1 then d else dmark d t 7)
    split
    · exact h
    · exact dmark_ok (t := t) (g := 7) h (by omega) (by omega)
theorem e_addSL {z B j : Nat} (hb : isB B) (hj : j < 48) {u : Nat → Nat} (hu : Sm u) (h7 : u 1 < 7) (h3 : u 3 ≤ 1168) : ∀ (n fuel k : Nat) (X : pX) (d : dS), SaC X.1 B j u → DuC X.1 d → dOk d → k + n = u 3 → n < fuel → ∃ V', f_X0_addSailing_5 fuel (z + 1) (z + (B + (5 + 3 * j))) (nI k) (hp z X) = some (hp z (V', X.2)) ∧ (∀ o, o ≠ 1 → o ≠ 2 → V' o = X.1 o) ∧ DuC V' (dsail k n (u 1 + 1) d) := by
  have hbl := isB_lt hb
  intro n
  induction n with
  | zero =>
    intro fuel k X d hs hd ho h1 h2
    obtain ⟨fuel, rfl⟩ : ∃ f, fuel = f + 1 := ⟨fuel - 1, by omega⟩
    have e3 := hs.1 3 (by decide)
    have h1 : k = u 3 := h1
    have b3 := hu 3
    refine ⟨X.1, ?_, fun _ _ _ => rfl, hd⟩
    simp (disch := first | assumption | omega) only [f_X0_addSailing_5, f_X0_addSailing_5_body, m_gO2, m_pO2, m_gO3, m_pO3, m_gO4, m_pO4, m_rO0, m_rO1, m_rO5, m_rO6, m_rO7, m_iO, m_ldT, m_stT, m_ldS, m_ldM, m_ldL, m_lnS, m_lnM, m_gS0, m_pS0, m_gS1, m_pS1, m_gS2, m_pS2, m_gS3, m_pS3, m_gS4, m_pS4, m_gS5, m_pS5, m_gS6, m_pS6, m_rS7, m_rS8, m_iS, m_gM1, m_pM1, m_gM2, m_pM2, m_rM0, m_iM, m_gL1, m_pL1, m_rL0, m_iL, m_ldP, m_stP, m_ldR, m_stR, m_ldC, m_stC, m_ldK, m_stK, m_gx5, m_px5, m_rx0, m_rx1, m_rx2, m_rx3, m_rx4, m_ix, m_gD1, m_pD1, m_gD2, m_pD2, m_gD3, m_pD3, m_rD0, m_iD, m_ld2, m_st2, m_gH1, m_pH1, m_rH0, m_iH, m_gX1, m_pX1, m_gX2, m_pX2, m_gX3, m_pX3, m_rX0, m_rX4, m_rX5, m_rX6, m_rX7, m_iX, m_ld1273, m_st1273, m_ld1274, m_st1274, m_ld1275, m_st1275, m_ld1276, m_st1276, m_ld1277, m_st1277, m_ldH, zb2_s, zif_t, zopt_n, zopt_s, b_s, znm_e, lit_0, lit_1, lit_2, lit_3, lit_4, lit_5, lit_6, lit_7, lit_8, lit_9, lit_10, lit_11, lit_12, lit_13, lit_14, lit_15, lit_16, lit_17, lit_18, lit_20, lit_24, lit_26, lit_30, lit_40, lit_45, lit_46, lit_47, lit_48, lit_60, lit_63, lit_64, lit_77, lit_100, lit_140, lit_168, lit_200, lit_300, lit_400, lit_900, lit_1000, lit_1168, lit_1997, lit_3333, lit_9999, lit_10000, reduceIte, Nat.reduceEqDiff, Nat.reduceLeDiff, Nat.reduceAdd, Nat.reduceMul, nI_eqE, nI_ltE, nI_leE, zbool_0, zbool_1, zbool_b, bI_0, bI_1, e3]
    rw [if_pos (by omega)]
  | succ n ih =>
    intro fuel k X d hs hd ho h1 h2
    obtain ⟨fuel, rfl⟩ : ∃ f, fuel = f + 1 := ⟨fuel - 1, by omega⟩
    have e3 := hs.1 3 (by decide)
    have e1 := hs.1 1 (by decide)
    have b3 := hu 3
    obtain ⟨V1, g1, g2, g3⟩ := e_mark (z := z) (X := X) hd ho (t := k) (g := u 1 + 1) (by omega)
    obtain ⟨V', q1, q2, q3⟩ := ih fuel (k + 1) (V1, X.2) (dmark d k (u 1 + 1)) (hs.kept (g2 _ (by omega) (by omega)) (g2 _ (by omega) (by omega)) (g2 _ (by omega) (by omega))) g3 (dmark_ok ho (by omega) (by omega)) (by omega) (by omega)
    refine ⟨V', ?_, fun o o1 o2 => by rw [q2 o o1 o2]; exact g2 o o1 o2, q3⟩
    simp (disch := first | assumption | omega) only [f_X0_addSailing_5, f_X0_addSailing_5_body, m_gO2, m_pO2, m_gO3, m_pO3, m_gO4, m_pO4, m_rO0, m_rO1, m_rO5, m_rO6, m_rO7, m_iO, m_ldT, m_stT, m_ldS, m_ldM, m_ldL, m_lnS, m_lnM, m_gS0, m_pS0, m_gS1, m_pS1, m_gS2, m_pS2, m_gS3, m_pS3, m_gS4, m_pS4, m_gS5, m_pS5, m_gS6, m_pS6, m_rS7, m_rS8, m_iS, m_gM1, m_pM1, m_gM2, m_pM2, m_rM0, m_iM, m_gL1, m_pL1, m_rL0, m_iL, m_ldP, m_stP, m_ldR, m_stR, m_ldC, m_stC, m_ldK, m_stK, m_gx5, m_px5, m_rx0, m_rx1, m_rx2, m_rx3, m_rx4, m_ix, m_gD1, m_pD1, m_gD2, m_pD2, m_gD3, m_pD3, m_rD0, m_iD, m_ld2, m_st2, m_gH1, m_pH1, m_rH0, m_iH, m_gX1, m_pX1, m_gX2, m_pX2, m_gX3, m_pX3, m_rX0, m_rX4, m_rX5, m_rX6, m_rX7, m_iX, m_ld1273, m_st1273, m_ld1274, m_st1274, m_ld1275, m_st1275, m_ld1276, m_st1276, m_ld1277, m_st1277, m_ldH, zb2_s, zif_t, zopt_n, zopt_s, b_s, znm_e, lit_0, lit_1, lit_2, lit_3, lit_4, lit_5, lit_6, lit_7, lit_8, lit_9, lit_10, lit_11, lit_12, lit_13, lit_14, lit_15, lit_16, lit_17, lit_18, lit_20, lit_24, lit_26, lit_30, lit_40, lit_45, lit_46, lit_47, lit_48, lit_60, lit_63, lit_64, lit_77, lit_100, lit_140, lit_168, lit_200, lit_300, lit_400, lit_900, lit_1000, lit_1168, lit_1997, lit_3333, lit_9999, lit_10000, reduceIte, Nat.reduceEqDiff, Nat.reduceLeDiff, Nat.reduceAdd, Nat.reduceMul, nI_eqE, nI_ltE, nI_leE, zbool_0, zbool_1, zbool_b, bI_0, bI_1, e3, e1, nI_add, nI_mul, g1, q1]
    rw [if_neg (by omega)]
theorem e_addS {z B j : Nat} (hb : isB B) (hj : j < 48) {u : Nat → Nat} (hu : Sm u) (h7 : u 1 < 7) (h3 : u 3 ≤ 1168) (h23 : u 2 ≤ u 3) {X : pX} {d : dS} (hs : SaC X.1 B j u) (hd : DuC X.1 d) (ho : dOk d) : ∃ V', f_X0_addSailing (z + 1) (z + (B + (5 + 3 * j))) (hp z X) = some (hp z (V', X.2)) ∧ (∀ o, o ≠ 1 → o ≠ 2 → V' o = X.1 o) ∧ DuC V' (dsail (u 2) (u 3 - u 2) (u 1 + 1) d) := by
  have e2 := hs.1 2 (by decide)
  obtain ⟨V', g1, g2, g3⟩ := e_addSL (z := z) hb hj hu h7 h3 (u 3 - u 2) zN (u 2) X d hs hd ho (by omega) (zN_lt (by omega))
  exact ⟨V', by simp (disch := first | assumption | omega) only [f_X0_addSailing, m_gO2, m_pO2, m_gO3, m_pO3, m_gO4, m_pO4, m_rO0, m_rO1, m_rO5, m_rO6, m_rO7, m_iO, m_ldT, m_stT, m_ldS, m_ldM, m_ldL, m_lnS, m_lnM, m_gS0, m_pS0, m_gS1, m_pS1, m_gS2, m_pS2, m_gS3, m_pS3, m_gS4, m_pS4, m_gS5, m_pS5, m_gS6, m_pS6, m_rS7, m_rS8, m_iS, m_gM1, m_pM1, m_gM2, m_pM2, m_rM0, m_iM, m_gL1, m_pL1, m_rL0, m_iL, m_ldP, m_stP, m_ldR, m_stR, m_ldC, m_stC, m_ldK, m_stK, m_gx5, m_px5, m_rx0, m_rx1, m_rx2, m_rx3, m_rx4, m_ix, m_gD1, m_pD1, m_gD2, m_pD2, m_gD3, m_pD3, m_rD0, m_iD, m_ld2, m_st2, m_gH1, m_pH1, m_rH0, m_iH, m_gX1, m_pX1, m_gX2, m_pX2, m_gX3, m_pX3, m_rX0, m_rX4, m_rX5, m_rX6, m_rX7, m_iX, m_ld1273, m_st1273, m_ld1274, m_st1274, m_ld1275, m_st1275, m_ld1276, m_st1276, m_ld1277, m_st1277, m_ldH, zb2_s, zif_t, zopt_n, zopt_s, b_s, znm_e, lit_0, lit_1, lit_2, lit_3, lit_4, lit_5, lit_6, lit_7, lit_8, lit_9, lit_10, lit_11, lit_12, lit_13, lit_14, lit_15, lit_16, lit_17, lit_18, lit_20, lit_24, lit_26, lit_30, lit_40, lit_45, lit_46, lit_47, lit_48, lit_60, lit_63, lit_64, lit_77, lit_100, lit_140, lit_168, lit_200, lit_300, lit_400, lit_900, lit_1000, lit_1168, lit_1997, lit_3333, lit_9999, lit_10000, reduceIte, Nat.reduceEqDiff, Nat.reduceLeDiff, Nat.reduceAdd, Nat.reduceMul, nI_eqE, nI_ltE, nI_leE, zbool_0, zbool_1, zbool_b, bI_0, bI_1, e2, g1], g2, g3⟩
theorem e_addH {z B j : Nat} (hb : isB B) (hj : j < 48) {u : Nat → Nat} (hu : Sm u) (h2 : u 2 ≤ 1168) {X : pX} {d : dS} (hs : SaC X.1 B j u) (hd : DuC X.1 d) (ho : dOk d) : ∃ V', f_X0_addHandover (z + 1) (z + (B + (5 + 3 * j))) (hp z X) = some (hp z (V', X.2)) ∧ (∀ o, o ≠ 1 → o ≠ 2 → V' o = X.1 o) ∧ DuC V' (dhand d (u 2) (u 1)) := by
  have e2 := hs.1 2 (by decide)
  have e1 := hs.1 1 (by decide)
  have b1 := hu 1
  cases c : u 2 with
  | zero =>
    rw [c] at e2
    refine ⟨X.1, ?_, fun _ _ _ => rfl, hd⟩
    simp (disch := first | assumption | omega) only [f_X0_addHandover, m_gO2, m_pO2, m_gO3, m_pO3, m_gO4, m_pO4, m_rO0, m_rO1, m_rO5, m_rO6, m_rO7, m_iO, m_ldT, m_stT, m_ldS, m_ldM, m_ldL, m_lnS, m_lnM, m_gS0, m_pS0, m_gS1, m_pS1, m_gS2, m_pS2, m_gS3, m_pS3, m_gS4, m_pS4, m_gS5, m_pS5, m_gS6, m_pS6, m_rS7, m_rS8, m_iS, m_gM1, m_pM1, m_gM2, m_pM2, m_rM0, m_iM, m_gL1, m_pL1, m_rL0, m_iL, m_ldP, m_stP, m_ldR, m_stR, m_ldC, m_stC, m_ldK, m_stK, m_gx5, m_px5, m_rx0, m_rx1, m_rx2, m_rx3, m_rx4, m_ix, m_gD1, m_pD1, m_gD2, m_pD2, m_gD3, m_pD3, m_rD0, m_iD, m_ld2, m_st2, m_gH1, m_pH1, m_rH0, m_iH, m_gX1, m_pX1, m_gX2, m_pX2, m_gX3, m_pX3, m_rX0, m_rX4, m_rX5, m_rX6, m_rX7, m_iX, m_ld1273, m_st1273, m_ld1274, m_st1274, m_ld1275, m_st1275, m_ld1276, m_st1276, m_ld1277, m_st1277, m_ldH, zb2_s, zif_t, zopt_n, zopt_s, b_s, znm_e, lit_0, lit_1, lit_2, lit_3, lit_4, lit_5, lit_6, lit_7, lit_8, lit_9, lit_10, lit_11, lit_12, lit_13, lit_14, lit_15, lit_16, lit_17, lit_18, lit_20, lit_24, lit_26, lit_30, lit_40, lit_45, lit_46, lit_47, lit_48, lit_60, lit_63, lit_64, lit_77, lit_100, lit_140, lit_168, lit_200, lit_300, lit_400, lit_900, lit_1000, lit_1168, lit_1997, lit_3333, lit_9999, lit_10000, e2]
    rw [if_pos (by decide)]
  | succ t =>
    rw [c] at e2
    have et := hd.1 t (by omega)
    have bt := ho.1 t
    by_cases c1 : d.1 t = u 1 + 1
    · refine ⟨X.1, ?_, fun _ _ _ => rfl, by unfold dhand; simp only [c1, if_true]; exact hd⟩
      simp (disch := first | assumption | omega) only [f_X0_addHandover, m_gO2, m_pO2, m_gO3, m_pO3, m_gO4, m_pO4, m_rO0, m_rO1, m_rO5, m_rO6, m_rO7, m_iO, m_ldT, m_stT, m_ldS, m_ldM, m_ldL, m_lnS, m_lnM, m_gS0, m_pS0, m_gS1, m_pS1, m_gS2, m_pS2, m_gS3, m_pS3, m_gS4, m_pS4, m_gS5, m_pS5, m_gS6, m_pS6, m_rS7, m_rS8, m_iS, m_gM1, m_pM1, m_gM2, m_pM2, m_rM0, m_iM, m_gL1, m_pL1, m_rL0, m_iL, m_ldP, m_stP, m_ldR, m_stR, m_ldC, m_stC, m_ldK, m_stK, m_gx5, m_px5, m_rx0, m_rx1, m_rx2, m_rx3, m_rx4, m_ix, m_gD1, m_pD1, m_gD2, m_pD2, m_gD3, m_pD3, m_rD0, m_iD, m_ld2, m_st2, m_gH1, m_pH1, m_rH0, m_iH, m_gX1, m_pX1, m_gX2, m_pX2, m_gX3, m_pX3, m_rX0, m_rX4, m_rX5, m_rX6, m_rX7, m_iX, m_ld1273, m_st1273, m_ld1274, m_st1274, m_ld1275, m_st1275, m_ld1276, m_st1276, m_ld1277, m_st1277, m_ldH, zb2_s, zif_t, zopt_n, zopt_s, b_s, znm_e, lit_0, lit_1, lit_2, lit_3, lit_4, lit_5, lit_6, lit_7, lit_8, lit_9, lit_10, lit_11, lit_12, lit_13, lit_14, lit_15, lit_16, lit_17, lit_18, lit_20, lit_24, lit_26, lit_30, lit_40, lit_45, lit_46, lit_47, lit_48, lit_60, lit_63, lit_64, lit_77, lit_100, lit_140, lit_168, lit_200, lit_300, lit_400, lit_900, lit_1000, lit_1168, lit_1997, lit_3333, lit_9999, lit_10000, e2, nI_pred', nI_ltE, nI_leE, nI_eqE, e1, et, nI_add]
      rw [if_neg (by omega), if_neg (by omega), if_pos c1]
    · obtain ⟨V1, g1, g2, g3⟩ := e_mark (z := z) (X := X) hd ho (t := t) (g := 7) (by omega)
      refine ⟨V1, ?_, g2, by unfold dhand; simp only [c1, if_false]; exact g3⟩
      simp (disch := first | assumption | omega) only [f_X0_addHandover, m_gO2, m_pO2, m_gO3, m_pO3, m_gO4, m_pO4, m_rO0, m_rO1, m_rO5, m_rO6, m_rO7, m_iO, m_ldT, m_stT, m_ldS, m_ldM, m_ldL, m_lnS, m_lnM, m_gS0, m_pS0, m_gS1, m_pS1, m_gS2, m_pS2, m_gS3, m_pS3, m_gS4, m_pS4, m_gS5, m_pS5, m_gS6, m_pS6, m_rS7, m_rS8, m_iS, m_gM1, m_pM1, m_gM2, m_pM2, m_rM0, m_iM, m_gL1, m_pL1, m_rL0, m_iL, m_ldP, m_stP, m_ldR, m_stR, m_ldC, m_stC, m_ldK, m_stK, m_gx5, m_px5, m_rx0, m_rx1, m_rx2, m_rx3, m_rx4, m_ix, m_gD1, m_pD1, m_gD2, m_pD2, m_gD3, m_pD3, m_rD0, m_iD, m_ld2, m_st2, m_gH1, m_pH1, m_rH0, m_iH, m_gX1, m_pX1, m_gX2, m_pX2, m_gX3, m_pX3, m_rX0, m_rX4, m_rX5, m_rX6, m_rX7, m_iX, m_ld1273, m_st1273, m_ld1274, m_st1274, m_ld1275, m_st1275, m_ld1276, m_st1276, m_ld1277, m_st1277, m_ldH, zb2_s, zif_t, zopt_n, zopt_s, b_s, znm_e, lit_0, lit_1, lit_2, lit_3, lit_4, lit_5, lit_6, lit_7, lit_8, lit_9, lit_10, lit_11, lit_12, lit_13, lit_14, lit_15, lit_16, lit_17, lit_18, lit_20, lit_24, lit_26, lit_30, lit_40, lit_45, lit_46, lit_47, lit_48, lit_60, lit_63, lit_64, lit_77, lit_100, lit_140, lit_168, lit_200, lit_300, lit_400, lit_900, lit_1000, lit_1168, lit_1997, lit_3333, lit_9999, lit_10000, e2, nI_pred', nI_ltE, nI_leE, nI_eqE, e1, et, nI_add, g1]
      rw [if_neg (by omega), if_neg (by omega), if_neg c1]
