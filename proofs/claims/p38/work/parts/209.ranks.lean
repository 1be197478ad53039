/-! loops over a State's sailings by rank -/
theorem cA_split {p1 p2 p3 p4 q : Nat → Bool} : ∀ (n k : Nat), (∀ i, k ≤ i → i < k + n → (q i).toNat = (p1 i).toNat + (p2 i).toNat + (p3 i).toNat + (p4 i).toNat) → cA q k n = cA p1 k n + cA p2 k n + cA p3 k n + cA p4 k n
  | 0, _, _ => rfl
  | n + 1, k, h => by
    have h1 := cA_split n (k + 1) (fun i a b => h i (by omega) (by omega))
    have h2 := h k (by omega) (by omega)
    show (q k).toNat + cA q (k + 1) n = ((p1 k).toNat + cA p1 (k + 1) n) + ((p2 k).toNat + cA p2 (k + 1) n) + ((p3 k).toNat + cA p3 (k + 1) n) + ((p4 k).toNat + cA p4 (k + 1) n)
    omega
theorem tkU_R {u : Nat → Nat} (h : ∀ m, m < 12 → u (20 + m) ≤ 4) : tkU u = tkR u 0 + tkR u 1 + tkR u 2 + tkR u 3 := by
  refine cA_split 12 0 (fun i _ hi => ?_)
  have := h i (by omega)
  rcases (show u (20 + i) = 0 ∨ u (20 + i) = 1 ∨ u (20 + i) = 2 ∨ u (20 + i) = 3 ∨ u (20 + i) = 4 by omega) with e | e | e | e | e <;> simp [e]
theorem tkU_ned {u : Nat → Nat} (h : SaK u) : tkU u ≤ ned u := by
  rw [tkU_R h.2.1]
  have h0 : tkR u 0 ≤ u 10 := h.2.2 0 (by decide)
  have h1 : tkR u 1 ≤ u 11 := h.2.2 1 (by decide)
  have h2 : tkR u 2 ≤ u 12 := h.2.2 2 (by decide)
  have h3 : tkR u 3 ≤ u 13 := h.2.2 3 (by decide)
  unfold ned
  omega
/-- free places -/
def fr (u : Nat → Nat) : Nat := ned u - tkU u
theorem ned_lt {u : Nat → Nat} (h : Sm u) : ned u < 400000 := by
  have h0 := h 10
  have h1 := h 11
  have h2 := h 12
  have h3 := h 13
  unfold ned
  omega
theorem fr_lt {u : Nat → Nat} (h : Sm u) : fr u < 400000 := by
  have := ned_lt h
  unfold fr
  omega
theorem e_freeN {z : Nat} {X : pX} {B j : Nat} (hb : isB B) (hj : j < 48) {u : Nat → Nat} (hs : SaC X.1 B j u) (hk : SaK u) : f_X4_freePlaces (z + (B + (5 + 3 * j))) (hp z X) = some (nI (fr u), hp z X) := by
  rw [e_freePlaces hb hj hs hk, nI_sub (tkU_ned hk)]
  rfl
def UK (u : Nat → Nat → Nat) : Prop := ∀ r, r < 48 → SaK (u r)
theorem e_thatAreL {z : Nat} {X : pX} {B : Nat} (hb : isB B) (hw : Ord (X.2.1 B)) {s : Nat → Nat} {u : Nat → Nat → Nat} {ls : Nat → List Nat} (hR : RepS X.1 (X.2.1 B) B s u ls) (hU : UK u) {st : Nat} (hst : st < 4) : ∀ (n fuel k c : Nat), k + n = 48 → n < fuel → c + n < 1000 → f_X5_sailingsThatAre_14 fuel (nI st) (nI c) (z + (B + 2)) (nI 48) (nI k) (hp z X) = some (nI (c + cA (fun r => decide (u r 5 = st)) k n), hp z X) := by
  intro n
  induction n with
  | zero =>
    intro fuel k c h1 h2 h3
    obtain ⟨fuel, rfl⟩ : ∃ f, fuel = f + 1 := ⟨fuel - 1, by omega⟩
    obtain rfl : k = 48 := by omega
    simp (disch := first | assumption | omega) only [f_X5_sailingsThatAre_14, f_X5_sailingsThatAre_14_body, zb2_s, zif_t, zopt_n, zopt_s, b_s, znm_e, lit_0, lit_1, lit_2, lit_3, lit_4, lit_5, lit_6, lit_7, lit_8, lit_9, lit_10, lit_11, lit_12, lit_13, lit_14, lit_15, lit_16, lit_17, lit_18, lit_20, lit_24, lit_26, lit_30, lit_40, lit_45, lit_46, lit_47, lit_48, lit_60, lit_63, lit_64, lit_77, lit_100, lit_140, lit_168, lit_200, lit_300, lit_400, lit_900, lit_1000, lit_1168, lit_1997, lit_3333, lit_9999, lit_10000, reduceIte, Nat.reduceEqDiff, Nat.reduceLeDiff, Nat.reduceAdd, Nat.reduceMul, nI_eqE, nI_ltE, nI_leE, zbool_0, zbool_1, zbool_b, bI_0, bI_1, Nat.le_refl, if_true, cA_0, Nat.add_zero]
  | succ n ih =>
    intro fuel k c h1 h2 h3
    obtain ⟨fuel, rfl⟩ : ∃ f, fuel = f + 1 := ⟨fuel - 1, by omega⟩
    have hw1 := hw.1 k (by omega)
    have hs := hR.2.1 k (by omega)
    have hK := hU k (by omega)
    have h5 := hs.1 5 (by decide)
    have b5 := hK.1 5
    have hk : ¬ 48 ≤ k := by omega
    have i1 := ih fuel (k + 1) c (by omega) (by omega) (by omega)
    have i2 := ih fuel (k + 1) (c + 1) (by omega) (by omega) (by omega)
    simp (disch := first | assumption | omega) only [f_X5_sailingsThatAre_14, f_X5_sailingsThatAre_14_body, f_X5_sailingsThatAre_39, m_gO2, m_pO2, m_gO3, m_pO3, m_gO4, m_pO4, m_rO0, m_rO1, m_rO5, m_rO6, m_rO7, m_iO, m_ldT, m_stT, m_ldS, m_ldM, m_ldL, m_lnS, m_lnM, m_gS0, m_pS0, m_gS1, m_pS1, m_gS2, m_pS2, m_gS3, m_pS3, m_gS4, m_pS4, m_gS5, m_pS5, m_gS6, m_pS6, m_rS7, m_rS8, m_iS, m_gM1, m_pM1, m_gM2, m_pM2, m_rM0, m_iM, m_gL1, m_pL1, m_rL0, m_iL, m_ldP, m_stP, m_ldR, m_stR, m_ldC, m_stC, m_ldK, m_stK, m_gx5, m_px5, m_rx0, m_rx1, m_rx2, m_rx3, m_rx4, m_ix, m_gD1, m_pD1, m_gD2, m_pD2, m_gD3, m_pD3, m_rD0, m_iD, m_ld2, m_st2, m_gH1, m_pH1, m_rH0, m_iH, m_gX1, m_pX1, m_gX2, m_pX2, m_gX3, m_pX3, m_rX0, m_rX4, m_rX5, m_rX6, m_rX7, m_iX, m_ld1273, m_st1273, m_ld1274, m_st1274, m_ld1275, m_st1275, m_ld1276, m_st1276, m_ld1277, m_st1277, m_ldH, zb2_s, zif_t, zopt_n, zopt_s, b_s, znm_e, lit_0, lit_1, lit_2, lit_3, lit_4, lit_5, lit_6, lit_7, lit_8, lit_9, lit_10, lit_11, lit_12, lit_13, lit_14, lit_15, lit_16, lit_17, lit_18, lit_20, lit_24, lit_26, lit_30, lit_40, lit_45, lit_46, lit_47, lit_48, lit_60, lit_63, lit_64, lit_77, lit_100, lit_140, lit_168, lit_200, lit_300, lit_400, lit_900, lit_1000, lit_1168, lit_1997, lit_3333, lit_9999, lit_10000, reduceIte, Nat.reduceEqDiff, Nat.reduceLeDiff, Nat.reduceAdd, Nat.reduceMul, nI_eqE, nI_ltE, nI_leE, zbool_0, zbool_1, zbool_b, bI_0, bI_1, hk, if_false, h5, nI_add, nI_mul, i1, i2]
    by_cases q : u k 5 = st
    · rw [if_pos q, cA_t (by simp [q]), Nat.add_assoc]
    · rw [if_neg q, cA_f (by simp [q])]
theorem e_thatAre {z : Nat} {X : pX} {B : Nat} (hb : isB B) (hw : Ord (X.2.1 B)) {s : Nat → Nat} {u : Nat → Nat → Nat} {ls : Nat → List Nat} (hR : RepS X.1 (X.2.1 B) B s u ls) (hU : UK u) {st : Nat} (hst : st < 4) : f_X5_sailingsThatAre (z + B) (nI st) (hp z X) = some (nI (cA (fun r => decide (u r 5 = st)) 0 48), hp z X) := by
  have h := e_thatAreL (z := z) hb hw hR hU hst 48 zN 0 0 rfl (zN_lt (by omega)) (by omega)
  simp (disch := first | assumption | omega) only [f_X5_sailingsThatAre, m_gO2, m_pO2, m_gO3, m_pO3, m_gO4, m_pO4, m_rO0, m_rO1, m_rO5, m_rO6, m_rO7, m_iO, m_ldT, m_stT, m_ldS, m_ldM, m_ldL, m_lnS, m_lnM, m_gS0, m_pS0, m_gS1, m_pS1, m_gS2, m_pS2, m_gS3, m_pS3, m_gS4, m_pS4, m_gS5, m_pS5, m_gS6, m_pS6, m_rS7, m_rS8, m_iS, m_gM1, m_pM1, m_gM2, m_pM2, m_rM0, m_iM, m_gL1, m_pL1, m_rL0, m_iL, m_ldP, m_stP, m_ldR, m_stR, m_ldC, m_stC, m_ldK, m_stK, m_gx5, m_px5, m_rx0, m_rx1, m_rx2, m_rx3, m_rx4, m_ix, m_gD1, m_pD1, m_gD2, m_pD2, m_gD3, m_pD3, m_rD0, m_iD, m_ld2, m_st2, m_gH1, m_pH1, m_rH0, m_iH, m_gX1, m_pX1, m_gX2, m_pX2, m_gX3, m_pX3, m_rX0, m_rX4, m_rX5, m_rX6, m_rX7, m_iX, m_ld1273, m_st1273, m_ld1274, m_st1274, m_ld1275, m_st1275, m_ld1276, m_st1276, m_ld1277, m_st1277, m_ldH, zb2_s, zif_t, zopt_n, zopt_s, b_s, znm_e, lit_0, lit_1, lit_2, lit_3, lit_4, lit_5, lit_6, lit_7, lit_8, lit_9, lit_10, lit_11, lit_12, lit_13, lit_14, lit_15, lit_16, lit_17, lit_18, lit_20, lit_24, lit_26, lit_30, lit_40, lit_45, lit_46, lit_47, lit_48, lit_60, lit_63, lit_64, lit_77, lit_100, lit_140, lit_168, lit_200, lit_300, lit_400, lit_900, lit_1000, lit_1168, lit_1997, lit_3333, lit_9999, lit_10000, h, Nat.zero_add]
theorem e_placesOfL {z : Nat} {X : pX} {B : Nat} (hb : isB B) (hw : Ord (X.2.1 B)) {s : Nat → Nat} {u : Nat → Nat → Nat} {ls : Nat → List Nat} (hR : RepS X.1 (X.2.1 B) B s u ls) (hU : UK u) {m st : Nat} (hm : m < 12) (hst : st < 4) : ∀ (n fuel k c : Nat), k + n = 48 → n < fuel → c + n < 1000 → f_X5_placesOf_16 fuel (nI m) (nI st) (nI c) (z + (B + 2)) (nI 48) (nI k) (hp z X) = some (nI (c + cA (fun r => decide (u r 5 = st ∧ u r (20 + m) ≠ 0)) k n), hp z X) := by
  intro n
  induction n with
  | zero =>
    intro fuel k c h1 h2 h3
    obtain ⟨fuel, rfl⟩ : ∃ f, fuel = f + 1 := ⟨fuel - 1, by omega⟩
    obtain rfl : k = 48 := by omega
    simp (disch := first | assumption | omega) only [f_X5_placesOf_16, f_X5_placesOf_16_body, zb2_s, zif_t, zopt_n, zopt_s, b_s, znm_e, lit_0, lit_1, lit_2, lit_3, lit_4, lit_5, lit_6, lit_7, lit_8, lit_9, lit_10, lit_11, lit_12, lit_13, lit_14, lit_15, lit_16, lit_17, lit_18, lit_20, lit_24, lit_26, lit_30, lit_40, lit_45, lit_46, lit_47, lit_48, lit_60, lit_63, lit_64, lit_77, lit_100, lit_140, lit_168, lit_200, lit_300, lit_400, lit_900, lit_1000, lit_1168, lit_1997, lit_3333, lit_9999, lit_10000, reduceIte, Nat.reduceEqDiff, Nat.reduceLeDiff, Nat.reduceAdd, Nat.reduceMul, nI_eqE, nI_ltE, nI_leE, zbool_0, zbool_1, zbool_b, bI_0, bI_1, Nat.le_refl, if_true, cA_0, Nat.add_zero]
  | succ n ih =>
    intro fuel k c h1 h2 h3
    obtain ⟨fuel, rfl⟩ : ∃ f, fuel = f + 1 := ⟨fuel - 1, by omega⟩
    have hw1 := hw.1 k (by omega)
    have hs := hR.2.1 k (by omega)
    have hK := hU k (by omega)
    have h5 := hs.1 5 (by decide)
    have b5 := hK.1 5
    have hk : ¬ 48 ≤ k := by omega
    have i1 := ih fuel (k + 1) c (by omega) (by omega) (by omega)
    have i2 := ih fuel (k + 1) (c + 1) (by omega) (by omega) (by omega)
    have g1 := e_seats (z := z) hb hw1 hs hK.1 hm
    simp (disch := first | assumption | omega) only [f_X5_placesOf_16, f_X5_placesOf_16_body, f_X5_placesOf_51, m_gO2, m_pO2, m_gO3, m_pO3, m_gO4, m_pO4, m_rO0, m_rO1, m_rO5, m_rO6, m_rO7, m_iO, m_ldT, m_stT, m_ldS, m_ldM, m_ldL, m_lnS, m_lnM, m_gS0, m_pS0, m_gS1, m_pS1, m_gS2, m_pS2, m_gS3, m_pS3, m_gS4, m_pS4, m_gS5, m_pS5, m_gS6, m_pS6, m_rS7, m_rS8, m_iS, m_gM1, m_pM1, m_gM2, m_pM2, m_rM0, m_iM, m_gL1, m_pL1, m_rL0, m_iL, m_ldP, m_stP, m_ldR, m_stR, m_ldC, m_stC, m_ldK, m_stK, m_gx5, m_px5, m_rx0, m_rx1, m_rx2, m_rx3, m_rx4, m_ix, m_gD1, m_pD1, m_gD2, m_pD2, m_gD3, m_pD3, m_rD0, m_iD, m_ld2, m_st2, m_gH1, m_pH1, m_rH0, m_iH, m_gX1, m_pX1, m_gX2, m_pX2, m_gX3, m_pX3, m_rX0, m_rX4, m_rX5, m_rX6, m_rX7, m_iX, m_ld1273, m_st1273, m_ld1274, m_st1274, m_ld1275, m_st1275, m_ld1276, m_st1276, m_ld1277, m_st1277, m_ldH, zb2_s, zif_t, zopt_n, zopt_s, b_s, znm_e, lit_0, lit_1, lit_2, lit_3, lit_4, lit_5, lit_6, lit_7, lit_8, lit_9, lit_10, lit_11, lit_12, lit_13, lit_14, lit_15, lit_16, lit_17, lit_18, lit_20, lit_24, lit_26, lit_30, lit_40, lit_45, lit_46, lit_47, lit_48, lit_60, lit_63, lit_64, lit_77, lit_100, lit_140, lit_168, lit_200, lit_300, lit_400, lit_900, lit_1000, lit_1168, lit_1997, lit_3333, lit_9999, lit_10000, reduceIte, Nat.reduceEqDiff, Nat.reduceLeDiff, Nat.reduceAdd, Nat.reduceMul, nI_eqE, nI_ltE, nI_leE, zbool_0, zbool_1, zbool_b, bI_0, bI_1, hk, if_false, h5, g1, nI_add, nI_mul, i1, i2]
    by_cases q : u k 5 = st
    · by_cases q2 : u k (20 + m) = 0
      · rw [if_pos q, if_pos (by simp [q2]), cA_f (by simp [q2])]
      · rw [if_pos q, if_neg (by simp [q2]), cA_t (by simp [q, q2]), Nat.add_assoc]
    · rw [if_neg q, cA_f (by simp [q])]
theorem e_placesOf {z : Nat} {X : pX} {B : Nat} (hb : isB B) (hw : Ord (X.2.1 B)) {s : Nat → Nat} {u : Nat → Nat → Nat} {ls : Nat → List Nat} (hR : RepS X.1 (X.2.1 B) B s u ls) (hU : UK u) {m st : Nat} (hm : m < 12) (hst : st < 4) : f_X5_placesOf (z + B) (nI m) (nI st) (hp z X) = some (nI (cA (fun r => decide (u r 5 = st ∧ u r (20 + m) ≠ 0)) 0 48), hp z X) := by
  have h := e_placesOfL (z := z) hb hw hR hU hm hst 48 zN 0 0 rfl (zN_lt (by omega)) (by omega)
  simp (disch := first | assumption | omega) only [f_X5_placesOf, m_gO2, m_pO2, m_gO3, m_pO3, m_gO4, m_pO4, m_rO0, m_rO1, m_rO5, m_rO6, m_rO7, m_iO, m_ldT, m_stT, m_ldS, m_ldM, m_ldL, m_lnS, m_lnM, m_gS0, m_pS0, m_gS1, m_pS1, m_gS2, m_pS2, m_gS3, m_pS3, m_gS4, m_pS4, m_gS5, m_pS5, m_gS6, m_pS6, m_rS7, m_rS8, m_iS, m_gM1, m_pM1, m_gM2, m_pM2, m_rM0, m_iM, m_gL1, m_pL1, m_rL0, m_iL, m_ldP, m_stP, m_ldR, m_stR, m_ldC, m_stC, m_ldK, m_stK, m_gx5, m_px5, m_rx0, m_rx1, m_rx2, m_rx3, m_rx4, m_ix, m_gD1, m_pD1, m_gD2, m_pD2, m_gD3, m_pD3, m_rD0, m_iD, m_ld2, m_st2, m_gH1, m_pH1, m_rH0, m_iH, m_gX1, m_pX1, m_gX2, m_pX2, m_gX3, m_pX3, m_rX0, m_rX4, m_rX5, m_rX6, m_rX7, m_iX, m_ld1273, m_st1273, m_ld1274, m_st1274, m_ld1275, m_st1275, m_ld1276, m_st1276, m_ld1277, m_st1277, m_ldH, zb2_s, zif_t, zopt_n, zopt_s, b_s, znm_e, lit_0, lit_1, lit_2, lit_3, lit_4, lit_5, lit_6, lit_7, lit_8, lit_9, lit_10, lit_11, lit_12, lit_13, lit_14, lit_15, lit_16, lit_17, lit_18, lit_20, lit_24, lit_26, lit_30, lit_40, lit_45, lit_46, lit_47, lit_48, lit_60, lit_63, lit_64, lit_77, lit_100, lit_140, lit_168, lit_200, lit_300, lit_400, lit_900, lit_1000, lit_1168, lit_1997, lit_3333, lit_9999, lit_10000, h, Nat.zero_add]
theorem e_nextL {z : Nat} {X : pX} {B : Nat} (hb : isB B) (hw : Ord (X.2.1 B)) {s : Nat → Nat} {u : Nat → Nat → Nat} {ls : Nat → List Nat} (hR : RepS X.1 (X.2.1 B) B s u ls) (hU : UK u) {m : Nat} (hm : m < 12) : ∀ (n fuel k : Nat), k + n = 48 → n < fuel → f_X5_nextSailingOf_11 fuel (nI m) (z + (B + 2)) (nI 48) (nI k) (hp z X) = some (oI ((nA (fun r => decide (u r 5 = 0 ∧ u r (20 + m) ≠ 0)) k n 0).map (fun r => u r 0)), hp z X) := by
  intro n
  induction n with
  | zero =>
    intro fuel k h1 h2
    obtain ⟨fuel, rfl⟩ : ∃ f, fuel = f + 1 := ⟨fuel - 1, by omega⟩
    obtain rfl : k = 48 := by omega
    simp (disch := first | assumption | omega) only [f_X5_nextSailingOf_11, f_X5_nextSailingOf_11_body, zb2_s, zif_t, zopt_n, zopt_s, b_s, znm_e, lit_0, lit_1, lit_2, lit_3, lit_4, lit_5, lit_6, lit_7, lit_8, lit_9, lit_10, lit_11, lit_12, lit_13, lit_14, lit_15, lit_16, lit_17, lit_18, lit_20, lit_24, lit_26, lit_30, lit_40, lit_45, lit_46, lit_47, lit_48, lit_60, lit_63, lit_64, lit_77, lit_100, lit_140, lit_168, lit_200, lit_300, lit_400, lit_900, lit_1000, lit_1168, lit_1997, lit_3333, lit_9999, lit_10000, reduceIte, Nat.reduceEqDiff, Nat.reduceLeDiff, Nat.reduceAdd, Nat.reduceMul, nI_eqE, nI_ltE, nI_leE, zbool_0, zbool_1, zbool_b, bI_0, bI_1, Nat.le_refl, if_true, nA_0, Option.map, oI]
  | succ n ih =>
    intro fuel k h1 h2
    obtain ⟨fuel, rfl⟩ : ∃ f, fuel = f + 1 := ⟨fuel - 1, by omega⟩
    have hw1 := hw.1 k (by omega)
    have hs := hR.2.1 k (by omega)
    have hK := hU k (by omega)
    have h0 := hs.1 0 (by decide)
    have hk : ¬ 48 ≤ k := by omega
    have i1 := ih fuel (k + 1) (by omega) (by omega)
    have g0 := e_isOpen (z := z) hb hw1 hs hK.1
    have g1 := e_seats (z := z) hb hw1 hs hK.1 hm
    simp (disch := first | assumption | omega) only [f_X5_nextSailingOf_11, f_X5_nextSailingOf_11_body, f_X5_nextSailingOf_46, m_gO2, m_pO2, m_gO3, m_pO3, m_gO4, m_pO4, m_rO0, m_rO1, m_rO5, m_rO6, m_rO7, m_iO, m_ldT, m_stT, m_ldS, m_ldM, m_ldL, m_lnS, m_lnM, m_gS0, m_pS0, m_gS1, m_pS1, m_gS2, m_pS2, m_gS3, m_pS3, m_gS4, m_pS4, m_gS5, m_pS5, m_gS6, m_pS6, m_rS7, m_rS8, m_iS, m_gM1, m_pM1, m_gM2, m_pM2, m_rM0, m_iM, m_gL1, m_pL1, m_rL0, m_iL, m_ldP, m_stP, m_ldR, m_stR, m_ldC, m_stC, m_ldK, m_stK, m_gx5, m_px5, m_rx0, m_rx1, m_rx2, m_rx3, m_rx4, m_ix, m_gD1, m_pD1, m_gD2, m_pD2, m_gD3, m_pD3, m_rD0, m_iD, m_ld2, m_st2, m_gH1, m_pH1, m_rH0, m_iH, m_gX1, m_pX1, m_gX2, m_pX2, m_gX3, m_pX3, m_rX0, m_rX4, m_rX5, m_rX6, m_rX7, m_iX, m_ld1273, m_st1273, m_ld1274, m_st1274, m_ld1275, m_st1275, m_ld1276, m_st1276, m_ld1277, m_st1277, m_ldH, zb2_s, zif_t, zopt_n, zopt_s, b_s, znm_e, lit_0, lit_1, lit_2, lit_3, lit_4, lit_5, lit_6, lit_7, lit_8, lit_9, lit_10, lit_11, lit_12, lit_13, lit_14, lit_15, lit_16, lit_17, lit_18, lit_20, lit_24, lit_26, lit_30, lit_40, lit_45, lit_46, lit_47, lit_48, lit_60, lit_63, lit_64, lit_77, lit_100, lit_140, lit_168, lit_200, lit_300, lit_400, lit_900, lit_1000, lit_1168, lit_1997, lit_3333, lit_9999, lit_10000, reduceIte, Nat.reduceEqDiff, Nat.reduceLeDiff, Nat.reduceAdd, Nat.reduceMul, nI_eqE, nI_ltE, nI_leE, zbool_0, zbool_1, zbool_b, bI_0, bI_1, hk, if_false, h0, g0, g1, nI_add, nI_mul, i1]
    by_cases q : u k 5 = 0
    · by_cases q2 : u k (20 + m) = 0
      · rw [if_neg (by simp [q]), if_pos (by simp [q2]), nA_f (by simp [q2])]
      · rw [if_neg (by simp [q]), if_neg (by simp [q2]), nA_t0 (by simp [q, q2])]; rfl
    · rw [if_pos (by simp [q]), nA_f (by simp [q])]
theorem e_next {z : Nat} {X : pX} {B : Nat} (hb : isB B) (hw : Ord (X.2.1 B)) {s : Nat → Nat} {u : Nat → Nat → Nat} {ls : Nat → List Nat} (hR : RepS X.1 (X.2.1 B) B s u ls) (hU : UK u) {m : Nat} (hm : m < 12) : f_X5_nextSailingOf (z + B) (nI m) (hp z X) = some (oI ((nA (fun r => decide (u r 5 = 0 ∧ u r (20 + m) ≠ 0)) 0 48 0).map (fun r => u r 0)), hp z X) := by
  have h := e_nextL (z := z) hb hw hR hU hm 48 zN 0 rfl (zN_lt (by omega))
  simp (disch := first | assumption | omega) only [f_X5_nextSailingOf, m_gO2, m_pO2, m_gO3, m_pO3, m_gO4, m_pO4, m_rO0, m_rO1, m_rO5, m_rO6, m_rO7, m_iO, m_ldT, m_stT, m_ldS, m_ldM, m_ldL, m_lnS, m_lnM, m_gS0, m_pS0, m_gS1, m_pS1, m_gS2, m_pS2, m_gS3, m_pS3, m_gS4, m_pS4, m_gS5, m_pS5, m_gS6, m_pS6, m_rS7, m_rS8, m_iS, m_gM1, m_pM1, m_gM2, m_pM2, m_rM0, m_iM, m_gL1, m_pL1, m_rL0, m_iL, m_ldP, m_stP, m_ldR, m_stR, m_ldC, m_stC, m_ldK, m_stK, m_gx5, m_px5, m_rx0, m_rx1, m_rx2, m_rx3, m_rx4, m_ix, m_gD1, m_pD1, m_gD2, m_pD2, m_gD3, m_pD3, m_rD0, m_iD, m_ld2, m_st2, m_gH1, m_pH1, m_rH0, m_iH, m_gX1, m_pX1, m_gX2, m_pX2, m_gX3, m_pX3, m_rX0, m_rX4, m_rX5, m_rX6, m_rX7, m_iX, m_ld1273, m_st1273, m_ld1274, m_st1274, m_ld1275, m_st1275, m_ld1276, m_st1276, m_ld1277, m_st1277, m_ldH, zb2_s, zif_t, zopt_n, zopt_s, b_s, znm_e, lit_0, lit_1, lit_2, lit_3, lit_4, lit_5, lit_6, lit_7, lit_8, lit_9, lit_10, lit_11, lit_12, lit_13, lit_14, lit_15, lit_16, lit_17, lit_18, lit_20, lit_24, lit_26, lit_30, lit_40, lit_45, lit_46, lit_47, lit_48, lit_60, lit_63, lit_64, lit_77, lit_100, lit_140, lit_168, lit_200, lit_300, lit_400, lit_900, lit_1000, lit_1168, lit_1997, lit_3333, lit_9999, lit_10000, h]
theorem e_freeOpenL {z : Nat} {X : pX} {B : Nat} (hb : isB B) (hw : Ord (X.2.1 B)) {s : Nat → Nat} {u : Nat → Nat → Nat} {ls : Nat → List Nat} (hR : RepS X.1 (X.2.1 B) B s u ls) (hU : UK u) : ∀ (n fuel k c : Nat), k + n = 48 → n < fuel → f_X5_freeOpenPlaces_13 fuel (nI c) (z + (B + 2)) (nI 48) (nI k) (hp z X) = some (nI (c + sA (fun r => if u r 5 = 0 then fr (u r) else 0) k n), hp z X) := by
  intro n
  induction n with
  | zero =>
    intro fuel k c h1 h2
    obtain ⟨fuel, rfl⟩ : ∃ f, fuel = f + 1 := ⟨fuel - 1, by omega⟩
    obtain rfl : k = 48 := by omega
    simp (disch := first | assumption | omega) only [f_X5_freeOpenPlaces_13, f_X5_freeOpenPlaces_13_body, zb2_s, zif_t, zopt_n, zopt_s, b_s, znm_e, lit_0, lit_1, lit_2, lit_3, lit_4, lit_5, lit_6, lit_7, lit_8, lit_9, lit_10, lit_11, lit_12, lit_13, lit_14, lit_15, lit_16, lit_17, lit_18, lit_20, lit_24, lit_26, lit_30, lit_40, lit_45, lit_46, lit_47, lit_48, lit_60, lit_63, lit_64, lit_77, lit_100, lit_140, lit_168, lit_200, lit_300, lit_400, lit_900, lit_1000, lit_1168, lit_1997, lit_3333, lit_9999, lit_10000, reduceIte, Nat.reduceEqDiff, Nat.reduceLeDiff, Nat.reduceAdd, Nat.reduceMul, nI_eqE, nI_ltE, nI_leE, zbool_0, zbool_1, zbool_b, bI_0, bI_1, Nat.le_refl, if_true, sA_0, Nat.add_zero]
  | succ n ih =>
    intro fuel k c h1 h2
    obtain ⟨fuel, rfl⟩ : ∃ f, fuel = f + 1 := ⟨fuel - 1, by omega⟩
    have hw1 := hw.1 k (by omega)
    have hs := hR.2.1 k (by omega)
    have hK := hU k (by omega)
    have hk : ¬ 48 ≤ k := by omega
    have i1 := fun c => ih fuel (k + 1) c (by omega) (by omega)
    have g0 := e_isOpen (z := z) hb hw1 hs hK.1
    have g1 := e_freeN (z := z) hb hw1 hs hK
    simp (disch := first | assumption | omega) only [f_X5_freeOpenPlaces_13, f_X5_freeOpenPlaces_13_body, f_X5_freeOpenPlaces_41, m_gO2, m_pO2, m_gO3, m_pO3, m_gO4, m_pO4, m_rO0, m_rO1, m_rO5, m_rO6, m_rO7, m_iO, m_ldT, m_stT, m_ldS, m_ldM, m_ldL, m_lnS, m_lnM, m_gS0, m_pS0, m_gS1, m_pS1, m_gS2, m_pS2, m_gS3, m_pS3, m_gS4, m_pS4, m_gS5, m_pS5, m_gS6, m_pS6, m_rS7, m_rS8, m_iS, m_gM1, m_pM1, m_gM2, m_pM2, m_rM0, m_iM, m_gL1, m_pL1, m_rL0, m_iL, m_ldP, m_stP, m_ldR, m_stR, m_ldC, m_stC, m_ldK, m_stK, m_gx5, m_px5, m_rx0, m_rx1, m_rx2, m_rx3, m_rx4, m_ix, m_gD1, m_pD1, m_gD2, m_pD2, m_gD3, m_pD3, m_rD0, m_iD, m_ld2, m_st2, m_gH1, m_pH1, m_rH0, m_iH, m_gX1, m_pX1, m_gX2, m_pX2, m_gX3, m_pX3, m_rX0, m_rX4, m_rX5, m_rX6, m_rX7, m_iX, m_ld1273, m_st1273, m_ld1274, m_st1274, m_ld1275, m_st1275, m_ld1276, m_st1276, m_ld1277, m_st1277, m_ldH, zb2_s, zif_t, zopt_n, zopt_s, b_s, znm_e, lit_0, lit_1, lit_2, lit_3, lit_4, lit_5, lit_6, lit_7, lit_8, lit_9, lit_10, lit_11, lit_12, lit_13, lit_14, lit_15, lit_16, lit_17, lit_18, lit_20, lit_24, lit_26, lit_30, lit_40, lit_45, lit_46, lit_47, lit_48, lit_60, lit_63, lit_64, lit_77, lit_100, lit_140, lit_168, lit_200, lit_300, lit_400, lit_900, lit_1000, lit_1168, lit_1997, lit_3333, lit_9999, lit_10000, reduceIte, Nat.reduceEqDiff, Nat.reduceLeDiff, Nat.reduceAdd, Nat.reduceMul, nI_eqE, nI_ltE, nI_leE, zbool_0, zbool_1, zbool_b, bI_0, bI_1, hk, if_false, g0, g1, nI_add, nI_mul, i1, sA_s]
    by_cases q : u k 5 = 0
    · rw [if_neg (by simp [q]), if_pos q, Nat.add_assoc]
    · rw [if_pos (by simp [q]), if_neg q, Nat.zero_add]
theorem e_freeOpen {z : Nat} {X : pX} {B : Nat} (hb : isB B) (hw : Ord (X.2.1 B)) {s : Nat → Nat} {u : Nat → Nat → Nat} {ls : Nat → List Nat} (hR : RepS X.1 (X.2.1 B) B s u ls) (hU : UK u) : f_X5_freeOpenPlaces (z + B) (hp z X) = some (nI (sA (fun r => if u r 5 = 0 then fr (u r) else 0) 0 48), hp z X) := by
  have h := e_freeOpenL (z := z) hb hw hR hU 48 zN 0 0 rfl (zN_lt (by omega))
  simp (disch := first | assumption | omega) only [f_X5_freeOpenPlaces, m_gO2, m_pO2, m_gO3, m_pO3, m_gO4, m_pO4, m_rO0, m_rO1, m_rO5, m_rO6, m_rO7, m_iO, m_ldT, m_stT, m_ldS, m_ldM, m_ldL, m_lnS, m_lnM, m_gS0, m_pS0, m_gS1, m_pS1, m_gS2, m_pS2, m_gS3, m_pS3, m_gS4, m_pS4, m_gS5, m_pS5, m_gS6, m_pS6, m_rS7, m_rS8, m_iS, m_gM1, m_pM1, m_gM2, m_pM2, m_rM0, m_iM, m_gL1, m_pL1, m_rL0, m_iL, m_ldP, m_stP, m_ldR, m_stR, m_ldC, m_stC, m_ldK, m_stK, m_gx5, m_px5, m_rx0, m_rx1, m_rx2, m_rx3, m_rx4, m_ix, m_gD1, m_pD1, m_gD2, m_pD2, m_gD3, m_pD3, m_rD0, m_iD, m_ld2, m_st2, m_gH1, m_pH1, m_rH0, m_iH, m_gX1, m_pX1, m_gX2, m_pX2, m_gX3, m_pX3, m_rX0, m_rX4, m_rX5, m_rX6, m_rX7, m_iX, m_ld1273, m_st1273, m_ld1274, m_st1274, m_ld1275, m_st1275, m_ld1276, m_st1276, m_ld1277, m_st1277, m_ldH, zb2_s, zif_t, zopt_n, zopt_s, b_s, znm_e, lit_0, lit_1, lit_2, lit_3, lit_4, lit_5, lit_6, lit_7, lit_8, lit_9, lit_10, lit_11, lit_12, lit_13, lit_14, lit_15, lit_16, lit_17, lit_18, lit_20, lit_24, lit_26, lit_30, lit_40, lit_45, lit_46, lit_47, lit_48, lit_60, lit_63, lit_64, lit_77, lit_100, lit_140, lit_168, lit_200, lit_300, lit_400, lit_900, lit_1000, lit_1168, lit_1997, lit_3333, lit_9999, lit_10000, h, Nat.zero_add]
theorem e_takenOpenL {z : Nat} {X : pX} {B : Nat} (hb : isB B) (hw : Ord (X.2.1 B)) {s : Nat → Nat} {u : Nat → Nat → Nat} {ls : Nat → List Nat} (hR : RepS X.1 (X.2.1 B) B s u ls) (hU : UK u) : ∀ (n fuel k c : Nat), k + n = 48 → n < fuel → f_X5_takenOpenPlaces_13 fuel (nI c) (z + (B + 2)) (nI 48) (nI k) (hp z X) = some (nI (c + sA (fun r => if u r 5 = 0 then tkU (u r) else 0) k n), hp z X) := by
  intro n
  induction n with
  | zero =>
    intro fuel k c h1 h2
    obtain ⟨fuel, rfl⟩ : ∃ f, fuel = f + 1 := ⟨fuel - 1, by omega⟩
    obtain rfl : k = 48 := by omega
    simp (disch := first | assumption | omega) only [f_X5_takenOpenPlaces_13, f_X5_takenOpenPlaces_13_body, zb2_s, zif_t, zopt_n, zopt_s, b_s, znm_e, lit_0, lit_1, lit_2, lit_3, lit_4, lit_5, lit_6, lit_7, lit_8, lit_9, lit_10, lit_11, lit_12, lit_13, lit_14, lit_15, lit_16, lit_17, lit_18, lit_20, lit_24, lit_26, lit_30, lit_40, lit_45, lit_46, lit_47, lit_48, lit_60, lit_63, lit_64, lit_77, lit_100, lit_140, lit_168, lit_200, lit_300, lit_400, lit_900, lit_1000, lit_1168, lit_1997, lit_3333, lit_9999, lit_10000, reduceIte, Nat.reduceEqDiff, Nat.reduceLeDiff, Nat.reduceAdd, Nat.reduceMul, nI_eqE, nI_ltE, nI_leE, zbool_0, zbool_1, zbool_b, bI_0, bI_1, Nat.le_refl, if_true, sA_0, Nat.add_zero]
  | succ n ih =>
    intro fuel k c h1 h2
    obtain ⟨fuel, rfl⟩ : ∃ f, fuel = f + 1 := ⟨fuel - 1, by omega⟩
    have hw1 := hw.1 k (by omega)
    have hs := hR.2.1 k (by omega)
    have hK := hU k (by omega)
    have hk : ¬ 48 ≤ k := by omega
    have i1 := fun c => ih fuel (k + 1) c (by omega) (by omega)
    have g0 := e_isOpen (z := z) hb hw1 hs hK.1
    have g1 := e_taken (z := z) hb hw1 hs hK.1
    simp (disch := first | assumption | omega) only [f_X5_takenOpenPlaces_13, f_X5_takenOpenPlaces_13_body, f_X5_takenOpenPlaces_41, m_gO2, m_pO2, m_gO3, m_pO3, m_gO4, m_pO4, m_rO0, m_rO1, m_rO5, m_rO6, m_rO7, m_iO, m_ldT, m_stT, m_ldS, m_ldM, m_ldL, m_lnS, m_lnM, m_gS0, m_pS0, m_gS1, m_pS1, m_gS2, m_pS2, m_gS3, m_pS3, m_gS4, m_pS4, m_gS5, m_pS5, m_gS6, m_pS6, m_rS7, m_rS8, m_iS, m_gM1, m_pM1, m_gM2, m_pM2, m_rM0, m_iM, m_gL1, m_pL1, m_rL0, m_iL, m_ldP, m_stP, m_ldR, m_stR, m_ldC, m_stC, m_ldK, m_stK, m_gx5, m_px5, m_rx0, m_rx1, m_rx2, m_rx3, m_rx4, m_ix, m_gD1, m_pD1, m_gD2, m_pD2, m_gD3, m_pD3, m_rD0, m_iD, m_ld2, m_st2, m_gH1, m_pH1, m_rH0, m_iH, m_gX1, m_pX1, m_gX2, m_pX2, m_gX3, m_pX3, m_rX0, m_rX4, m_rX5, m_rX6, m_rX7, m_iX, m_ld1273, m_st1273, m_ld1274, m_st1274, m_ld1275, m_st1275, m_ld1276, m_st1276, m_ld1277, m_st1277, m_ldH, zb2_s, zif_t, zopt_n, zopt_s, b_s, znm_e, lit_0, lit_1, lit_2, lit_3, lit_4, lit_5, lit_6, lit_7, lit_8, lit_9, lit_10, lit_11, lit_12, lit_13, lit_14, lit_15, lit_16, lit_17, lit_18, lit_20, lit_24, lit_26, lit_30, lit_40, lit_45, lit_46, lit_47, lit_48, lit_60, lit_63, lit_64, lit_77, lit_100, lit_140, lit_168, lit_200, lit_300, lit_400, lit_900, lit_1000, lit_1168, lit_1997, lit_3333, lit_9999, lit_10000, reduceIte, Nat.reduceEqDiff, Nat.reduceLeDiff, Nat.reduceAdd, Nat.reduceMul, nI_eqE, nI_ltE, nI_leE, zbool_0, zbool_1, zbool_b, bI_0, bI_1, hk, if_false, g0, g1, nI_add, nI_mul, i1, sA_s]
    by_cases q : u k 5 = 0
    · rw [if_neg (by simp [q]), if_pos q, Nat.add_assoc]
    · rw [if_pos (by simp [q]), if_neg q, Nat.zero_add]
theorem e_takenOpen {z : Nat} {X : pX} {B : Nat} (hb : isB B) (hw : Ord (X.2.1 B)) {s : Nat → Nat} {u : Nat → Nat → Nat} {ls : Nat → List Nat} (hR : RepS X.1 (X.2.1 B) B s u ls) (hU : UK u) : f_X5_takenOpenPlaces (z + B) (hp z X) = some (nI (sA (fun r => if u r 5 = 0 then tkU (u r) else 0) 0 48), hp z X) := by
  have h := e_takenOpenL (z := z) hb hw hR hU 48 zN 0 0 rfl (zN_lt (by omega))
  simp (disch := first | assumption | omega) only [f_X5_takenOpenPlaces, m_gO2, m_pO2, m_gO3, m_pO3, m_gO4, m_pO4, m_rO0, m_rO1, m_rO5, m_rO6, m_rO7, m_iO, m_ldT, m_stT, m_ldS, m_ldM, m_ldL, m_lnS, m_lnM, m_gS0, m_pS0, m_gS1, m_pS1, m_gS2, m_pS2, m_gS3, m_pS3, m_gS4, m_pS4, m_gS5, m_pS5, m_gS6, m_pS6, m_rS7, m_rS8, m_iS, m_gM1, m_pM1, m_gM2, m_pM2, m_rM0, m_iM, m_gL1, m_pL1, m_rL0, m_iL, m_ldP, m_stP, m_ldR, m_stR, m_ldC, m_stC, m_ldK, m_stK, m_gx5, m_px5, m_rx0, m_rx1, m_rx2, m_rx3, m_rx4, m_ix, m_gD1, m_pD1, m_gD2, m_pD2, m_gD3, m_pD3, m_rD0, m_iD, m_ld2, m_st2, m_gH1, m_pH1, m_rH0, m_iH, m_gX1, m_pX1, m_gX2, m_pX2, m_gX3, m_pX3, m_rX0, m_rX4, m_rX5, m_rX6, m_rX7, m_iX, m_ld1273, m_st1273, m_ld1274, m_st1274, m_ld1275, m_st1275, m_ld1276, m_st1276, m_ld1277, m_st1277, m_ldH, zb2_s, zif_t, zopt_n, zopt_s, b_s, znm_e, lit_0, lit_1, lit_2, lit_3, lit_4, lit_5, lit_6, lit_7, lit_8, lit_9, lit_10, lit_11, lit_12, lit_13, lit_14, lit_15, lit_16, lit_17, lit_18, lit_20, lit_24, lit_26, lit_30, lit_40, lit_45, lit_46, lit_47, lit_48, lit_60, lit_63, lit_64, lit_77, lit_100, lit_140, lit_168, lit_200, lit_300, lit_400, lit_900, lit_1000, lit_1168, lit_1997, lit_3333, lit_9999, lit_10000, h, Nat.zero_add]
