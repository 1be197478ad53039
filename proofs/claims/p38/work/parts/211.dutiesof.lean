/-! a member's duties, with one more sailing or none -/
/-- a sailing's numbers are in their ranges -/
def SaG (u : Nat → Nat) : Prop := SaK u ∧ u 1 < 6 ∧ u 2 ≤ u 3 ∧ u 3 ≤ 1100 ∧ u 5 < 4
def UG (u : Nat → Nat → Nat) : Prop := ∀ r, r < 48 → SaG (u r)
theorem UG.K {u : Nat → Nat → Nat} (h : UG u) : UK u := fun r hr => (h r hr).1
def selD (u : Nat → Nat → Nat) (m : Nat) (mo : Option Nat) (r : Nat) : Bool := decide (mo = some r) || !decide (u r (20 + m) = 0)
def dF1 (u : Nat → Nat → Nat) (p : Nat → Bool) : Nat → Nat → dS → dS
  | _, 0, d => d
  | k, n + 1, d => dF1 u p (k + 1) n (match p k with | true => dsail (u k 2) (u k 3 - u k 2) (u k 1 + 1) d | false => d)
def dF2 (u : Nat → Nat → Nat) (p : Nat → Bool) : Nat → Nat → dS → dS
  | _, 0, d => d
  | k, n + 1, d => dF2 u p (k + 1) n (match p k with | true => dhand d (u k 2) (u k 1) | false => d)
theorem dF1_t {u : Nat → Nat → Nat} {p : Nat → Bool} {k n : Nat} {d : dS} (h : p k = true) : dF1 u p k (n + 1) d = dF1 u p (k + 1) n (dsail (u k 2) (u k 3 - u k 2) (u k 1 + 1) d) := by
  show dF1 u p (k + 1) n (match p k with | true => _ | false => _) = _; rw [h]
theorem dF1_f {u : Nat → Nat → Nat} {p : Nat → Bool} {k n : Nat} {d : dS} (h : p k = false) : dF1 u p k (n + 1) d = dF1 u p (k + 1) n d := by
  show dF1 u p (k + 1) n (match p k with | true => _ | false => _) = _; rw [h]
theorem dF2_t {u : Nat → Nat → Nat} {p : Nat → Bool} {k n : Nat} {d : dS} (h : p k = true) : dF2 u p k (n + 1) d = dF2 u p (k + 1) n (dhand d (u k 2) (u k 1)) := by
  show dF2 u p (k + 1) n (match p k with | true => _ | false => _) = _; rw [h]
theorem dF2_f {u : Nat → Nat → Nat} {p : Nat → Bool} {k n : Nat} {d : dS} (h : p k = false) : dF2 u p k (n + 1) d = dF2 u p (k + 1) n d := by
  show dF2 u p (k + 1) n (match p k with | true => _ | false => _) = _; rw [h]
def dAll (u : Nat → Nat → Nat) (hv : Nat) (p : Nat → Bool) : dS := if hv = 1 then dF2 u p 0 48 (dF1 u p 0 48 d0) else dF1 u p 0 48 d0
theorem more_eq {z B r k : Nat} {w : Nat → Nat} (hw : Ord w) (hr : r < 48) (hk : k < 48) : (some (z + (B + (5 + 3 * w k))) = some (z + (B + (5 + 3 * w r)))) = (k = r) := by
  refine propext ⟨fun h => ?_, fun h => by rw [h]⟩
  have h := Option.some.inj h
  exact hw.2 k r hk hr (by omega)
def moA (z B : Nat) (w : Nat → Nat) (mo : Option Nat) : Option Nat := mo.map fun r => z + (B + (5 + 3 * w r))
theorem more_is {z B k : Nat} {w : Nat → Nat} (hw : Ord w) {mo : Option Nat} (hmo : ∀ r, mo = some r → r < 48) (hk : k < 48) : (some (z + (B + (5 + 3 * w k))) = moA z B w mo) = (mo = some k) := by
  cases mo with
  | none => exact propext ⟨fun h => (by cases h), fun h => (by cases h)⟩
  | some r =>
    unfold moA
    simp only [Option.map]
    rw [more_eq hw (hmo r rfl) hk]
    exact propext ⟨fun h => by rw [h], fun h => (Option.some.inj h).symm⟩
theorem e_dF2 {z B : Nat} (hb : isB B) {w : Nat → Nat} (hw : Ord w) {s : Nat → Nat} {u : Nat → Nat → Nat} {ls : Nat → List Nat} (hU : UG u) {m : Nat} (hm : m < 12) {mo : Option Nat} (hmo : ∀ r, mo = some r → r < 48) : ∀ (n fuel k : Nat) (X : pX) (d : dS), X.2.1 B = w → RepS X.1 w B s u ls → DuC X.1 d → dOk d → k + n = 48 → n < fuel → ∃ V', f_X5_dutiesOf_84 fuel (z + B) (nI m) (moA z B w mo) (z + (B + 2)) (nI 48) (nI k) (hp z X) = some (some (z + 1), hp z (V', X.2)) ∧ (∀ o, o ≠ 1 → o ≠ 2 → V' o = X.1 o) ∧ DuC V' (dF2 u (selD u m mo) k n d) ∧ dOk (dF2 u (selD u m mo) k n d) := by
  have hbl := isB_lt hb
  intro n
  induction n with
  | zero =>
    intro fuel k X d hw0 hR hd ho h1 h2
    obtain ⟨fuel, rfl⟩ : ∃ f, fuel = f + 1 := ⟨fuel - 1, by omega⟩
    obtain rfl : k = 48 := by omega
    refine ⟨X.1, ?_, fun _ _ _ => rfl, hd, ho⟩
    simp (disch := first | assumption | omega) only [f_X5_dutiesOf_84, f_X5_dutiesOf_84_body, m_gO2, m_pO2, m_gO3, m_pO3, m_gO4, m_pO4, m_rO0, m_rO1, m_rO5, m_rO6, m_rO7, m_iO, m_ldT, m_stT, m_ldS, m_ldM, m_ldL, m_lnS, m_lnM, m_gS0, m_pS0, m_gS1, m_pS1, m_gS2, m_pS2, m_gS3, m_pS3, m_gS4, m_pS4, m_gS5, m_pS5, m_gS6, m_pS6, m_rS7, m_rS8, m_iS, m_gM1, m_pM1, m_gM2, m_pM2, m_rM0, m_iM, m_gL1, m_pL1, m_rL0, m_iL, m_ldP, m_stP, m_ldR, m_stR, m_ldC, m_stC, m_ldK, m_stK, m_gx5, m_px5, m_rx0, m_rx1, m_rx2, m_rx3, m_rx4, m_ix, m_gD1, m_pD1, m_gD2, m_pD2, m_gD3, m_pD3, m_rD0, m_iD, m_ld2, m_st2, m_gH1, m_pH1, m_rH0, m_iH, m_gX1, m_pX1, m_gX2, m_pX2, m_gX3, m_pX3, m_rX0, m_rX4, m_rX5, m_rX6, m_rX7, m_iX, m_ld1273, m_st1273, m_ld1274, m_st1274, m_ld1275, m_st1275, m_ld1276, m_st1276, m_ld1277, m_st1277, m_ldH, zb2_s, zif_t, zopt_n, zopt_s, b_s, znm_e, lit_0, lit_1, lit_2, lit_3, lit_4, lit_5, lit_6, lit_7, lit_8, lit_9, lit_10, lit_11, lit_12, lit_13, lit_14, lit_15, lit_16, lit_17, lit_18, lit_20, lit_24, lit_26, lit_30, lit_40, lit_45, lit_46, lit_47, lit_48, lit_60, lit_63, lit_64, lit_77, lit_100, lit_140, lit_168, lit_200, lit_300, lit_400, lit_900, lit_1000, lit_1168, lit_1997, lit_3333, lit_9999, lit_10000, reduceIte, Nat.reduceEqDiff, Nat.reduceLeDiff, Nat.reduceAdd, Nat.reduceMul, nI_eqE, nI_ltE, nI_leE, zbool_0, zbool_1, zbool_b, bI_0, bI_1, Nat.le_refl, if_true]
  | succ n ih =>
    intro fuel k X d hw0 hR hd ho h1 h2
    obtain ⟨fuel, rfl⟩ : ∃ f, fuel = f + 1 := ⟨fuel - 1, by omega⟩
    have hk : ¬ 48 ≤ k := by omega
    have hk4 : k < 48 := by omega
    have hw1 := hw.1 k hk4
    have hs := hR.2.1 k hk4
    have hG := hU k hk4
    have g0 := e_seats (z := z) hb hw1 hs hG.1.1 hm
    obtain ⟨V1, g1, g2, g3⟩ := e_addH (z := z) hb hw1 hG.1.1 (by have := hG.2.2.1; have := hG.2.2.2.1; omega) hs hd ho
    have ho1 := dhand_ok (f := u k 1) ho (show u k 2 ≤ 1168 by have := hG.2.2.1; have := hG.2.2.2.1; omega)
    obtain ⟨Va, a1, a2, a3, a4⟩ := ih fuel (k + 1) (V1, X.2) _ hw0 (hR.kept hw (fun o o1 o2 => g2 o (by omega) (by omega))) g3 ho1 (by omega) (by omega)
    obtain ⟨Vb, b1, b2, b3, b4⟩ := ih fuel (k + 1) X d hw0 hR hd ho (by omega) (by omega)
    have hmi := more_is (z := z) (B := B) hw hmo hk4
    by_cases c1 : mo = some k
    · have hsel : selD u m mo k = true := by unfold selD; rw [decide_eq_true c1]; rfl
      rw [dF2_t hsel]
      refine ⟨Va, ?_, fun o o1 o2 => by rw [a2 o o1 o2]; exact g2 o o1 o2, a3, a4⟩
      simp (disch := first | assumption | omega) only [f_X5_dutiesOf_84, f_X5_dutiesOf_84_body, f_X5_dutiesOf_112, f_X5_dutiesOf_121, m_gO2, m_pO2, m_gO3, m_pO3, m_gO4, m_pO4, m_rO0, m_rO1, m_rO5, m_rO6, m_rO7, m_iO, m_ldT, m_stT, m_ldS, m_ldM, m_ldL, m_lnS, m_lnM, m_gS0, m_pS0, m_gS1, m_pS1, m_gS2, m_pS2, m_gS3, m_pS3, m_gS4, m_pS4, m_gS5, m_pS5, m_gS6, m_pS6, m_rS7, m_rS8, m_iS, m_gM1, m_pM1, m_gM2, m_pM2, m_rM0, m_iM, m_gL1, m_pL1, m_rL0, m_iL, m_ldP, m_stP, m_ldR, m_stR, m_ldC, m_stC, m_ldK, m_stK, m_gx5, m_px5, m_rx0, m_rx1, m_rx2, m_rx3, m_rx4, m_ix, m_gD1, m_pD1, m_gD2, m_pD2, m_gD3, m_pD3, m_rD0, m_iD, m_ld2, m_st2, m_gH1, m_pH1, m_rH0, m_iH, m_gX1, m_pX1, m_gX2, m_pX2, m_gX3, m_pX3, m_rX0, m_rX4, m_rX5, m_rX6, m_rX7, m_iX, m_ld1273, m_st1273, m_ld1274, m_st1274, m_ld1275, m_st1275, m_ld1276, m_st1276, m_ld1277, m_st1277, m_ldH, zb2_s, zif_t, zopt_n, zopt_s, b_s, znm_e, lit_0, lit_1, lit_2, lit_3, lit_4, lit_5, lit_6, lit_7, lit_8, lit_9, lit_10, lit_11, lit_12, lit_13, lit_14, lit_15, lit_16, lit_17, lit_18, lit_20, lit_24, lit_26, lit_30, lit_40, lit_45, lit_46, lit_47, lit_48, lit_60, lit_63, lit_64, lit_77, lit_100, lit_140, lit_168, lit_200, lit_300, lit_400, lit_900, lit_1000, lit_1168, lit_1997, lit_3333, lit_9999, lit_10000, reduceIte, Nat.reduceEqDiff, Nat.reduceLeDiff, Nat.reduceAdd, Nat.reduceMul, nI_eqE, nI_ltE, nI_leE, zbool_0, zbool_1, zbool_b, bI_0, bI_1, hk, if_false, hw0, hmi, g1, nI_add, nI_mul, a1]
      rw [if_pos c1]
    · by_cases c2 : u k (20 + m) = 0
      · have hsel : selD u m mo k = false := by unfold selD; rw [decide_eq_false c1, decide_eq_true c2]; rfl
        rw [dF2_f hsel]
        refine ⟨Vb, ?_, b2, b3, b4⟩
        simp (disch := first | assumption | omega) only [f_X5_dutiesOf_84, f_X5_dutiesOf_84_body, f_X5_dutiesOf_112, f_X5_dutiesOf_121, m_gO2, m_pO2, m_gO3, m_pO3, m_gO4, m_pO4, m_rO0, m_rO1, m_rO5, m_rO6, m_rO7, m_iO, m_ldT, m_stT, m_ldS, m_ldM, m_ldL, m_lnS, m_lnM, m_gS0, m_pS0, m_gS1, m_pS1, m_gS2, m_pS2, m_gS3, m_pS3, m_gS4, m_pS4, m_gS5, m_pS5, m_gS6, m_pS6, m_rS7, m_rS8, m_iS, m_gM1, m_pM1, m_gM2, m_pM2, m_rM0, m_iM, m_gL1, m_pL1, m_rL0, m_iL, m_ldP, m_stP, m_ldR, m_stR, m_ldC, m_stC, m_ldK, m_stK, m_gx5, m_px5, m_rx0, m_rx1, m_rx2, m_rx3, m_rx4, m_ix, m_gD1, m_pD1, m_gD2, m_pD2, m_gD3, m_pD3, m_rD0, m_iD, m_ld2, m_st2, m_gH1, m_pH1, m_rH0, m_iH, m_gX1, m_pX1, m_gX2, m_pX2, m_gX3, m_pX3, m_rX0, m_rX4, m_rX5, m_rX6, m_rX7, m_iX, m_ld1273, m_st1273, m_ld1274, m_st1274, m_ld1275, m_st1275, m_ld1276, m_st1276, m_ld1277, m_st1277, m_ldH, zb2_s, zif_t, zopt_n, zopt_s, b_s, znm_e, lit_0, lit_1, lit_2, lit_3, lit_4, lit_5, lit_6, lit_7, lit_8, lit_9, lit_10, lit_11, lit_12, lit_13, lit_14, lit_15, lit_16, lit_17, lit_18, lit_20, lit_24, lit_26, lit_30, lit_40, lit_45, lit_46, lit_47, lit_48, lit_60, lit_63, lit_64, lit_77, lit_100, lit_140, lit_168, lit_200, lit_300, lit_400, lit_900, lit_1000, lit_1168, lit_1997, lit_3333, lit_9999, lit_10000, reduceIte, Nat.reduceEqDiff, Nat.reduceLeDiff, Nat.reduceAdd, Nat.reduceMul, nI_eqE, nI_ltE, nI_leE, zbool_0, zbool_1, zbool_b, bI_0, bI_1, hk, if_false, hw0, hmi, g0, nI_add, nI_mul, b1]
        rw [if_neg c1, if_pos (by simp [c2])]
      · have hsel : selD u m mo k = true := by unfold selD; rw [decide_eq_false c1, decide_eq_false c2]; rfl
        rw [dF2_t hsel]
        refine ⟨Va, ?_, fun o o1 o2 => by rw [a2 o o1 o2]; exact g2 o o1 o2, a3, a4⟩
        simp (disch := first | assumption | omega) only [f_X5_dutiesOf_84, f_X5_dutiesOf_84_body, f_X5_dutiesOf_112, f_X5_dutiesOf_121, m_gO2, m_pO2, m_gO3, m_pO3, m_gO4, m_pO4, m_rO0, m_rO1, m_rO5, m_rO6, m_rO7, m_iO, m_ldT, m_stT, m_ldS, m_ldM, m_ldL, m_lnS, m_lnM, m_gS0, m_pS0, m_gS1, m_pS1, m_gS2, m_pS2, m_gS3, m_pS3, m_gS4, m_pS4, m_gS5, m_pS5, m_gS6, m_pS6, m_rS7, m_rS8, m_iS, m_gM1, m_pM1, m_gM2, m_pM2, m_rM0, m_iM, m_gL1, m_pL1, m_rL0, m_iL, m_ldP, m_stP, m_ldR, m_stR, m_ldC, m_stC, m_ldK, m_stK, m_gx5, m_px5, m_rx0, m_rx1, m_rx2, m_rx3, m_rx4, m_ix, m_gD1, m_pD1, m_gD2, m_pD2, m_gD3, m_pD3, m_rD0, m_iD, m_ld2, m_st2, m_gH1, m_pH1, m_rH0, m_iH, m_gX1, m_pX1, m_gX2, m_pX2, m_gX3, m_pX3, m_rX0, m_rX4, m_rX5, m_rX6, m_rX7, m_iX, m_ld1273, m_st1273, m_ld1274, m_st1274, m_ld1275, m_st1275, m_ld1276, m_st1276, m_ld1277, m_st1277, m_ldH, zb2_s, zif_t, zopt_n, zopt_s, b_s, znm_e, lit_0, lit_1, lit_2, lit_3, lit_4, lit_5, lit_6, lit_7, lit_8, lit_9, lit_10, lit_11, lit_12, lit_13, lit_14, lit_15, lit_16, lit_17, lit_18, lit_20, lit_24, lit_26, lit_30, lit_40, lit_45, lit_46, lit_47, lit_48, lit_60, lit_63, lit_64, lit_77, lit_100, lit_140, lit_168, lit_200, lit_300, lit_400, lit_900, lit_1000, lit_1168, lit_1997, lit_3333, lit_9999, lit_10000, reduceIte, Nat.reduceEqDiff, Nat.reduceLeDiff, Nat.reduceAdd, Nat.reduceMul, nI_eqE, nI_ltE, nI_leE, zbool_0, zbool_1, zbool_b, bI_0, bI_1, hk, if_false, hw0, hmi, g0, g1, nI_add, nI_mul, a1]
        rw [if_neg c1, if_neg (by simp [c2])]
theorem e_dF1 {z B : Nat} (hb : isB B) {w : Nat → Nat} (hw : Ord w) {s : Nat → Nat} {u : Nat → Nat → Nat} {ls : Nat → List Nat} (hU : UG u) (hs7 : s 7 < 1000) {m : Nat} (hm : m < 12) {mo : Option Nat} (hmo : ∀ r, mo = some r → r < 48) : ∀ (n fuel k : Nat) (X : pX) (d : dS), X.2.1 B = w → RepS X.1 w B s u ls → DuC X.1 d → dOk d → k + n = 48 → n < fuel → ∃ V' d', f_X5_dutiesOf_19 fuel (z + B) (nI m) (moA z B w mo) (z + (B + 2)) (nI 48) (nI k) (hp z X) = some (some (z + 1), hp z (V', X.2)) ∧ (∀ o, o ≠ 1 → o ≠ 2 → V' o = X.1 o) ∧ DuC V' d' ∧ dOk d' ∧ d' = (if s 7 = 1 then dF2 u (selD u m mo) 0 48 (dF1 u (selD u m mo) k n d) else dF1 u (selD u m mo) k n d) := by
  have hbl := isB_lt hb
  intro n
  induction n with
  | zero =>
    intro fuel k X d hw0 hR hd ho h1 h2
    obtain ⟨fuel, rfl⟩ : ∃ f, fuel = f + 1 := ⟨fuel - 1, by omega⟩
    obtain rfl : k = 48 := by omega
    have h7 := hR.1.2.2.2 3 (by omega)
    have h7 : X.1 (B + 1) 3 = nI (s 7) := h7
    by_cases c : s 7 = 1
    · obtain ⟨V1, g1, g2, g3, g4⟩ := e_dF2 (z := z) hb hw hU hm hmo 48 zN 0 X d hw0 hR hd ho rfl (zN_lt (by omega))
      refine ⟨V1, _, ?_, g2, g3, g4, by rw [if_pos c]; rfl⟩
      simp (disch := first | assumption | omega) only [f_X5_dutiesOf_19, f_X5_dutiesOf_19_body, m_gO2, m_pO2, m_gO3, m_pO3, m_gO4, m_pO4, m_rO0, m_rO1, m_rO5, m_rO6, m_rO7, m_iO, m_ldT, m_stT, m_ldS, m_ldM, m_ldL, m_lnS, m_lnM, m_gS0, m_pS0, m_gS1, m_pS1, m_gS2, m_pS2, m_gS3, m_pS3, m_gS4, m_pS4, m_gS5, m_pS5, m_gS6, m_pS6, m_rS7, m_rS8, m_iS, m_gM1, m_pM1, m_gM2, m_pM2, m_rM0, m_iM, m_gL1, m_pL1, m_rL0, m_iL, m_ldP, m_stP, m_ldR, m_stR, m_ldC, m_stC, m_ldK, m_stK, m_gx5, m_px5, m_rx0, m_rx1, m_rx2, m_rx3, m_rx4, m_ix, m_gD1, m_pD1, m_gD2, m_pD2, m_gD3, m_pD3, m_rD0, m_iD, m_ld2, m_st2, m_gH1, m_pH1, m_rH0, m_iH, m_gX1, m_pX1, m_gX2, m_pX2, m_gX3, m_pX3, m_rX0, m_rX4, m_rX5, m_rX6, m_rX7, m_iX, m_ld1273, m_st1273, m_ld1274, m_st1274, m_ld1275, m_st1275, m_ld1276, m_st1276, m_ld1277, m_st1277, m_ldH, zb2_s, zif_t, zopt_n, zopt_s, b_s, znm_e, lit_0, lit_1, lit_2, lit_3, lit_4, lit_5, lit_6, lit_7, lit_8, lit_9, lit_10, lit_11, lit_12, lit_13, lit_14, lit_15, lit_16, lit_17, lit_18, lit_20, lit_24, lit_26, lit_30, lit_40, lit_45, lit_46, lit_47, lit_48, lit_60, lit_63, lit_64, lit_77, lit_100, lit_140, lit_168, lit_200, lit_300, lit_400, lit_900, lit_1000, lit_1168, lit_1997, lit_3333, lit_9999, lit_10000, reduceIte, Nat.reduceEqDiff, Nat.reduceLeDiff, Nat.reduceAdd, Nat.reduceMul, nI_eqE, nI_ltE, nI_leE, zbool_0, zbool_1, zbool_b, bI_0, bI_1, Nat.le_refl, if_true, h7, g1]
      rw [if_pos c]
    · refine ⟨X.1, _, ?_, fun _ _ _ => rfl, hd, ho, by rw [if_neg c]; rfl⟩
      simp (disch := first | assumption | omega) only [f_X5_dutiesOf_19, f_X5_dutiesOf_19_body, m_gO2, m_pO2, m_gO3, m_pO3, m_gO4, m_pO4, m_rO0, m_rO1, m_rO5, m_rO6, m_rO7, m_iO, m_ldT, m_stT, m_ldS, m_ldM, m_ldL, m_lnS, m_lnM, m_gS0, m_pS0, m_gS1, m_pS1, m_gS2, m_pS2, m_gS3, m_pS3, m_gS4, m_pS4, m_gS5, m_pS5, m_gS6, m_pS6, m_rS7, m_rS8, m_iS, m_gM1, m_pM1, m_gM2, m_pM2, m_rM0, m_iM, m_gL1, m_pL1, m_rL0, m_iL, m_ldP, m_stP, m_ldR, m_stR, m_ldC, m_stC, m_ldK, m_stK, m_gx5, m_px5, m_rx0, m_rx1, m_rx2, m_rx3, m_rx4, m_ix, m_gD1, m_pD1, m_gD2, m_pD2, m_gD3, m_pD3, m_rD0, m_iD, m_ld2, m_st2, m_gH1, m_pH1, m_rH0, m_iH, m_gX1, m_pX1, m_gX2, m_pX2, m_gX3, m_pX3, m_rX0, m_rX4, m_rX5, m_rX6, m_rX7, m_iX, m_ld1273, m_st1273, m_ld1274, m_st1274, m_ld1275, m_st1275, m_ld1276, m_st1276, m_ld1277, m_st1277, m_ldH, zb2_s, zif_t, zopt_n, zopt_s, b_s, znm_e, lit_0, lit_1, lit_2, lit_3, lit_4, lit_5, lit_6, lit_7, lit_8, lit_9, lit_10, lit_11, lit_12, lit_13, lit_14, lit_15, lit_16, lit_17, lit_18, lit_20, lit_24, lit_26, lit_30, lit_40, lit_45, lit_46, lit_47, lit_48, lit_60, lit_63, lit_64, lit_77, lit_100, lit_140, lit_168, lit_200, lit_300, lit_400, lit_900, lit_1000, lit_1168, lit_1997, lit_3333, lit_9999, lit_10000, reduceIte, Nat.reduceEqDiff, Nat.reduceLeDiff, Nat.reduceAdd, Nat.reduceMul, nI_eqE, nI_ltE, nI_leE, zbool_0, zbool_1, zbool_b, bI_0, bI_1, Nat.le_refl, if_true, h7]
      rw [if_neg c]
  | succ n ih =>
    intro fuel k X d hw0 hR hd ho h1 h2
    obtain ⟨fuel, rfl⟩ : ∃ f, fuel = f + 1 := ⟨fuel - 1, by omega⟩
    have hk : ¬ 48 ≤ k := by omega
    have hk4 : k < 48 := by omega
    have hw1 := hw.1 k hk4
    have hs := hR.2.1 k hk4
    have hG := hU k hk4
    have g0 := e_seats (z := z) hb hw1 hs hG.1.1 hm
    obtain ⟨V1, g1, g2, g3⟩ := e_addS (z := z) hb hw1 hG.1.1 (by have := hG.2.1; omega) (by have := hG.2.2.2.1; omega) hG.2.2.1 hs hd ho
    have ho1 := dsail_ok (g := u k 1 + 1) (by have := hG.2.1; omega) (u k 3 - u k 2) (u k 2) d ho (by have := hG.2.2.1; have := hG.2.2.2.1; omega)
    obtain ⟨Va, da, a1, a2, a3, a4, a5⟩ := ih fuel (k + 1) (V1, X.2) _ hw0 (hR.kept hw (fun o o1 o2 => g2 o (by omega) (by omega))) g3 ho1 (by omega) (by omega)
    obtain ⟨Vb, db, b1, b2, b3, b4, b5⟩ := ih fuel (k + 1) X d hw0 hR hd ho (by omega) (by omega)
    have hmi := more_is (z := z) (B := B) hw hmo hk4
    by_cases c1 : mo = some k
    · have hsel : selD u m mo k = true := by unfold selD; rw [decide_eq_true c1]; rfl
      rw [dF1_t hsel]
      refine ⟨Va, da, ?_, fun o o1 o2 => by rw [a2 o o1 o2]; exact g2 o o1 o2, a3, a4, a5⟩
      simp (disch := first | assumption | omega) only [f_X5_dutiesOf_19, f_X5_dutiesOf_19_body, f_X5_dutiesOf_47, f_X5_dutiesOf_56, m_gO2, m_pO2, m_gO3, m_pO3, m_gO4, m_pO4, m_rO0, m_rO1, m_rO5, m_rO6, m_rO7, m_iO, m_ldT, m_stT, m_ldS, m_ldM, m_ldL, m_lnS, m_lnM, m_gS0, m_pS0, m_gS1, m_pS1, m_gS2, m_pS2, m_gS3, m_pS3, m_gS4, m_pS4, m_gS5, m_pS5, m_gS6, m_pS6, m_rS7, m_rS8, m_iS, m_gM1, m_pM1, m_gM2, m_pM2, m_rM0, m_iM, m_gL1, m_pL1, m_rL0, m_iL, m_ldP, m_stP, m_ldR, m_stR, m_ldC, m_stC, m_ldK, m_stK, m_gx5, m_px5, m_rx0, m_rx1, m_rx2, m_rx3, m_rx4, m_ix, m_gD1, m_pD1, m_gD2, m_pD2, m_gD3, m_pD3, m_rD0, m_iD, m_ld2, m_st2, m_gH1, m_pH1, m_rH0, m_iH, m_gX1, m_pX1, m_gX2, m_pX2, m_gX3, m_pX3, m_rX0, m_rX4, m_rX5, m_rX6, m_rX7, m_iX, m_ld1273, m_st1273, m_ld1274, m_st1274, m_ld1275, m_st1275, m_ld1276, m_st1276, m_ld1277, m_st1277, m_ldH, zb2_s, zif_t, zopt_n, zopt_s, b_s, znm_e, lit_0, lit_1, lit_2, lit_3, lit_4, lit_5, lit_6, lit_7, lit_8, lit_9, lit_10, lit_11, lit_12, lit_13, lit_14, lit_15, lit_16, lit_17, lit_18, lit_20, lit_24, lit_26, lit_30, lit_40, lit_45, lit_46, lit_47, lit_48, lit_60, lit_63, lit_64, lit_77, lit_100, lit_140, lit_168, lit_200, lit_300, lit_400, lit_900, lit_1000, lit_1168, lit_1997, lit_3333, lit_9999, lit_10000, reduceIte, Nat.reduceEqDiff, Nat.reduceLeDiff, Nat.reduceAdd, Nat.reduceMul, nI_eqE, nI_ltE, nI_leE, zbool_0, zbool_1, zbool_b, bI_0, bI_1, hk, if_false, hw0, hmi, g1, nI_add, nI_mul, a1]
      rw [if_pos c1]
    · by_cases c2 : u k (20 + m) = 0
      · have hsel : selD u m mo k = false := by unfold selD; rw [decide_eq_false c1, decide_eq_true c2]; rfl
        rw [dF1_f hsel]
        refine ⟨Vb, db, ?_, b2, b3, b4, b5⟩
        simp (disch := first | assumption | omega) only [f_X5_dutiesOf_19, f_X5_dutiesOf_19_body, f_X5_dutiesOf_47, f_X5_dutiesOf_56, m_gO2, m_pO2, m_gO3, m_pO3, m_gO4, m_pO4, m_rO0, m_rO1, m_rO5, m_rO6, m_rO7, m_iO, m_ldT, m_stT, m_ldS, m_ldM, m_ldL, m_lnS, m_lnM, m_gS0, m_pS0, m_gS1, m_pS1, m_gS2, m_pS2, m_gS3, m_pS3, m_gS4, m_pS4, m_gS5, m_pS5, m_gS6, m_pS6, m_rS7, m_rS8, m_iS, m_gM1, m_pM1, m_gM2, m_pM2, m_rM0, m_iM, m_gL1, m_pL1, m_rL0, m_iL, m_ldP, m_stP, m_ldR, m_stR, m_ldC, m_stC, m_ldK, m_stK, m_gx5, m_px5, m_rx0, m_rx1, m_rx2, m_rx3, m_rx4, m_ix, m_gD1, m_pD1, m_gD2, m_pD2, m_gD3, m_pD3, m_rD0, m_iD, m_ld2, m_st2, m_gH1, m_pH1, m_rH0, m_iH, m_gX1, m_pX1, m_gX2, m_pX2, m_gX3, m_pX3, m_rX0, m_rX4, m_rX5, m_rX6, m_rX7, m_iX, m_ld1273, m_st1273, m_ld1274, m_st1274, m_ld1275, m_st1275, m_ld1276, m_st1276, m_ld1277, m_st1277, m_ldH, zb2_s, zif_t, zopt_n, zopt_s, b_s, znm_e, lit_0, lit_1, lit_2, lit_3, lit_4, lit_5, lit_6, lit_7, lit_8, lit_9, lit_10, lit_11, lit_12, lit_13, lit_14, lit_15, lit_16, lit_17, lit_18, lit_20, lit_24, lit_26, lit_30, lit_40, lit_45, lit_46, lit_47, lit_48, lit_60, lit_63, lit_64, lit_77, lit_100, lit_140, lit_168, lit_200, lit_300, lit_400, lit_900, lit_1000, lit_1168, lit_1997, lit_3333, lit_9999, lit_10000, reduceIte, Nat.reduceEqDiff, Nat.reduceLeDiff, Nat.reduceAdd, Nat.reduceMul, nI_eqE, nI_ltE, nI_leE, zbool_0, zbool_1, zbool_b, bI_0, bI_1, hk, if_false, hw0, hmi, g0, nI_add, nI_mul, b1]
        rw [if_neg c1, if_pos (by simp [c2])]
      · have hsel : selD u m mo k = true := by unfold selD; rw [decide_eq_false c1, decide_eq_false c2]; rfl
        rw [dF1_t hsel]
        refine ⟨Va, da, ?_, fun o o1 o2 => by rw [a2 o o1 o2]; exact g2 o o1 o2, a3, a4, a5⟩
        simp (disch := first | assumption | omega) only [f_X5_dutiesOf_19, f_X5_dutiesOf_19_body, f_X5_dutiesOf_47, f_X5_dutiesOf_56, m_gO2, m_pO2, m_gO3, m_pO3, m_gO4, m_pO4, m_rO0, m_rO1, m_rO5, m_rO6, m_rO7, m_iO, m_ldT, m_stT, m_ldS, m_ldM, m_ldL, m_lnS, m_lnM, m_gS0, m_pS0, m_gS1, m_pS1, m_gS2, m_pS2, m_gS3, m_pS3, m_gS4, m_pS4, m_gS5, m_pS5, m_gS6, m_pS6, m_rS7, m_rS8, m_iS, m_gM1, m_pM1, m_gM2, m_pM2, m_rM0, m_iM, m_gL1, m_pL1, m_rL0, m_iL, m_ldP, m_stP, m_ldR, m_stR, m_ldC, m_stC, m_ldK, m_stK, m_gx5, m_px5, m_rx0, m_rx1, m_rx2, m_rx3, m_rx4, m_ix, m_gD1, m_pD1, m_gD2, m_pD2, m_gD3, m_pD3, m_rD0, m_iD, m_ld2, m_st2, m_gH1, m_pH1, m_rH0, m_iH, m_gX1, m_pX1, m_gX2, m_pX2, m_gX3, m_pX3, m_rX0, m_rX4, m_rX5, m_rX6, m_rX7, m_iX, m_ld1273, m_st1273, m_ld1274, m_st1274, m_ld1275, m_st1275, m_ld1276, m_st1276, m_ld1277, m_st1277, m_ldH, zb2_s, zif_t, zopt_n, zopt_s, b_s, znm_e, lit_0, lit_1, lit_2, lit_3, lit_4, lit_5, lit_6, lit_7, lit_8, lit_9, lit_10, lit_11, lit_12, lit_13, lit_14, lit_15, lit_16, lit_17, lit_18, lit_20, lit_24, lit_26, lit_30, lit_40, lit_45, lit_46, lit_47, lit_48, lit_60, lit_63, lit_64, lit_77, lit_100, lit_140, lit_168, lit_200, lit_300, lit_400, lit_900, lit_1000, lit_1168, lit_1997, lit_3333, lit_9999, lit_10000, reduceIte, Nat.reduceEqDiff, Nat.reduceLeDiff, Nat.reduceAdd, Nat.reduceMul, nI_eqE, nI_ltE, nI_leE, zbool_0, zbool_1, zbool_b, bI_0, bI_1, hk, if_false, hw0, hmi, g0, g1, nI_add, nI_mul, a1]
        rw [if_neg c1, if_neg (by simp [c2])]
theorem e_dutiesOf {z : Nat} {X : pX} {B : Nat} (hb : isB B) (hw : Ord (X.2.1 B)) {s : Nat → Nat} {u : Nat → Nat → Nat} {ls : Nat → List Nat} (hR : RepS X.1 (X.2.1 B) B s u ls) (hU : UG u) (hs7 : s 7 < 1000) {m : Nat} (hm : m < 12) {mo : Option Nat} (hmo : ∀ r, mo = some r → r < 48) {d : dS} (hd : DuC X.1 d) (ho : dOk d) : ∃ V', f_X5_dutiesOf (z + B) (nI m) (moA z B (X.2.1 B) mo) (hp z X) = some (some (z + 1), hp z (V', X.2)) ∧ (∀ o, o ≠ 1 → o ≠ 2 → V' o = X.1 o) ∧ DuC V' (dAll u (s 7) (selD u m mo)) ∧ dOk (dAll u (s 7) (selD u m mo)) := by
  have hbl := isB_lt hb
  obtain ⟨V1, e1, e2, e3⟩ := e_clear (z := z) hd ho
  obtain ⟨V', d', g1, g2, g3, g4, g5⟩ := e_dF1 (z := z) hb hw hU hs7 hm hmo 48 zN 0 (V1, X.2) d0 rfl (hR.kept hw (fun o o1 o2 => e2 o (by omega) (by omega))) e3 d0_ok rfl (zN_lt (by omega))
  rw [g5] at g3 g4
  refine ⟨V', ?_, fun o o1 o2 => by rw [g2 o o1 o2]; exact e2 o o1 o2, g3, g4⟩
  simp (disch := first | assumption | omega) only [f_X5_dutiesOf, m_gO2, m_pO2, m_gO3, m_pO3, m_gO4, m_pO4, m_rO0, m_rO1, m_rO5, m_rO6, m_rO7, m_iO, m_ldT, m_stT, m_ldS, m_ldM, m_ldL, m_lnS, m_lnM, m_gS0, m_pS0, m_gS1, m_pS1, m_gS2, m_pS2, m_gS3, m_pS3, m_gS4, m_pS4, m_gS5, m_pS5, m_gS6, m_pS6, m_rS7, m_rS8, m_iS, m_gM1, m_pM1, m_gM2, m_pM2, m_rM0, m_iM, m_gL1, m_pL1, m_rL0, m_iL, m_ldP, m_stP, m_ldR, m_stR, m_ldC, m_stC, m_ldK, m_stK, m_gx5, m_px5, m_rx0, m_rx1, m_rx2, m_rx3, m_rx4, m_ix, m_gD1, m_pD1, m_gD2, m_pD2, m_gD3, m_pD3, m_rD0, m_iD, m_ld2, m_st2, m_gH1, m_pH1, m_rH0, m_iH, m_gX1, m_pX1, m_gX2, m_pX2, m_gX3, m_pX3, m_rX0, m_rX4, m_rX5, m_rX6, m_rX7, m_iX, m_ld1273, m_st1273, m_ld1274, m_st1274, m_ld1275, m_st1275, m_ld1276, m_st1276, m_ld1277, m_st1277, m_ldH, zb2_s, zif_t, zopt_n, zopt_s, b_s, znm_e, lit_0, lit_1, lit_2, lit_3, lit_4, lit_5, lit_6, lit_7, lit_8, lit_9, lit_10, lit_11, lit_12, lit_13, lit_14, lit_15, lit_16, lit_17, lit_18, lit_20, lit_24, lit_26, lit_30, lit_40, lit_45, lit_46, lit_47, lit_48, lit_60, lit_63, lit_64, lit_77, lit_100, lit_140, lit_168, lit_200, lit_300, lit_400, lit_900, lit_1000, lit_1168, lit_1997, lit_3333, lit_9999, lit_10000, e1, g1]
