/-! copies -/
theorem va_cpy0 {f g : Nat → Int32} {n k : Nat} (h : k < n) : va_cpy f g 0 0 n k = f k := by
  unfold va_cpy; rw [if_pos ⟨Nat.zero_le _, by omega⟩, Nat.zero_add, Nat.sub_zero]
theorem m_cpT {z : Nat} {X : pX} {B C : Nat} (hb : isB B) (hc : isB C) (hd : B + 181 ≤ C ∨ C + 181 ≤ B) : zcopy (hp z X) (z + (C + 1)) (nI 0) (z + (B + 1)) (nI 0) (nI 5) = some (hp z (sV X.1 (B + 1) (va_cpy (X.1 (C + 1)) (X.1 (B + 1)) 0 0 5), X.2)) :=
  cp_of (n0 := 5) (n1 := 5) (by have := isB_lt hc; omega) (by have := isB_lt hb; omega) (shp_B (o := 1) hc (by omega)) (fun f => shp_B (o := 1) hb (by omega)) (by omega) (Nat.le_refl _) (Nat.le_refl _) (by omega)
theorem m_cpP {z : Nat} {X : pX} {B C : Nat} (hb : isB B) (hc : isB C) (hd : B + 181 ≤ C ∨ C + 181 ≤ B) {j i : Nat} (hj : j < 48) (hi : i < 48) : zcopy (hp z X) (z + (C + (6 + 3 * i))) (nI 0) (z + (B + (6 + 3 * j))) (nI 0) (nI 4) = some (hp z (sV X.1 (B + (6 + 3 * j)) (va_cpy (X.1 (C + (6 + 3 * i))) (X.1 (B + (6 + 3 * j))) 0 0 4), X.2)) :=
  cp_of (n0 := 4) (n1 := 4) (by have := isB_lt hc; omega) (by have := isB_lt hb; omega) ((shp_B hc (by omega)).trans (sh_P hi)) (fun f => (shp_B hb (by omega)).trans (sh_P hj)) (by omega) (Nat.le_refl _) (Nat.le_refl _) (by omega)
theorem m_cpR {z : Nat} {X : pX} {B C : Nat} (hb : isB B) (hc : isB C) (hd : B + 181 ≤ C ∨ C + 181 ≤ B) {j i : Nat} (hj : j < 48) (hi : i < 48) : zcopy (hp z X) (z + (C + (7 + 3 * i))) (nI 0) (z + (B + (7 + 3 * j))) (nI 0) (nI 12) = some (hp z (sV X.1 (B + (7 + 3 * j)) (va_cpy (X.1 (C + (7 + 3 * i))) (X.1 (B + (7 + 3 * j))) 0 0 12), X.2)) :=
  cp_of (n0 := 12) (n1 := 12) (by have := isB_lt hc; omega) (by have := isB_lt hb; omega) ((shp_B hc (by omega)).trans (sh_R hi)) (fun f => (shp_B hb (by omega)).trans (sh_R hj)) (by omega) (Nat.le_refl _) (Nat.le_refl _) (by omega)
theorem m_cpC {z : Nat} {X : pX} {B C : Nat} (hb : isB B) (hc : isB C) (hd : B + 181 ≤ C ∨ C + 181 ≤ B) {j i : Nat} (hj : j < 12) (hi : i < 12) : zcopy (hp z X) (z + (C + (150 + 2 * i))) (nI 0) (z + (B + (150 + 2 * j))) (nI 0) (nI 4) = some (hp z (sV X.1 (B + (150 + 2 * j)) (va_cpy (X.1 (C + (150 + 2 * i))) (X.1 (B + (150 + 2 * j))) 0 0 4), X.2)) :=
  cp_of (n0 := 4) (n1 := 4) (by have := isB_lt hc; omega) (by have := isB_lt hb; omega) ((shp_B hc (by omega)).trans (sh_C hi)) (fun f => (shp_B hb (by omega)).trans (sh_C hj)) (by omega) (Nat.le_refl _) (Nat.le_refl _) (by omega)
theorem m_cpK {z : Nat} {X : pX} {B C : Nat} (hb : isB B) (hc : isB C) (hd : B + 181 ≤ C ∨ C + 181 ≤ B) {j i : Nat} (hj : j < 4) (hi : i < 4) : zcopy (hp z X) (z + (C + (174 + 2 * i))) (nI 0) (z + (B + (174 + 2 * j))) (nI 0) (nI 12) = some (hp z (sV X.1 (B + (174 + 2 * j)) (va_cpy (X.1 (C + (174 + 2 * i))) (X.1 (B + (174 + 2 * j))) 0 0 12), X.2)) :=
  cp_of (n0 := 12) (n1 := 12) (by have := isB_lt hc; omega) (by have := isB_lt hb; omega) ((shp_B hc (by omega)).trans sh_K) (fun f => (shp_B hb (by omega)).trans sh_K) (by omega) (Nat.le_refl _) (Nat.le_refl _) (by omega)
/-- a member of a State -/
def MeC (V : pV) (B : Nat) (s : Nat → Nat) (k : Nat) : Prop := (∀ q, q < 4 → V (B + (150 + 2 * k)) q = nI (s (969 + 6 * k + q))) ∧ V (B + (149 + 2 * k)) 1 = nI (s (969 + 6 * k + 4)) ∧ V (B + (149 + 2 * k)) 2 = nI (s (969 + 6 * k + 5))
def HdC (V : pV) (B : Nat) (s : Nat → Nat) : Prop := V B 2 = nI (s 0) ∧ V B 3 = nI (s 1) ∧ V B 4 = nI (s 2) ∧ ∀ i, i < 5 → V (B + 1) i = nI (s (4 + i))
def RepP (V : pV) (w : Nat → Nat) (B : Nat) (s : Nat → Nat) (u : Nat → Nat → Nat) (ls : Nat → List Nat) (nS nM nL : Nat) : Prop := HdC V B s ∧ (∀ r, r < nS → SaC V B (w r) (u r)) ∧ (∀ k, k < nM → MeC V B s k) ∧ ∀ q, q < nL → LadC V B q (ls q)
/-- a State holds: numbers of the row s, sailings u by rank, ladders ls -/
def RepS (V : pV) (w : Nat → Nat) (B : Nat) (s : Nat → Nat) (u : Nat → Nat → Nat) (ls : Nat → List Nat) : Prop := RepP V w B s u ls 48 12 4
def Ord (w : Nat → Nat) : Prop := (∀ r, r < 48 → w r < 48) ∧ ∀ r q, r < 48 → q < 48 → w r = w q → r = q
theorem SaC.kept {V V' : pV} {B j : Nat} {u : Nat → Nat} (h : SaC V B j u) (h1 : V' (B + (5 + 3 * j)) = V (B + (5 + 3 * j))) (h2 : V' (B + (6 + 3 * j)) = V (B + (6 + 3 * j))) (h3 : V' (B + (7 + 3 * j)) = V (B + (7 + 3 * j))) : SaC V' B j u := by
  unfold SaC; rw [h1, h2, h3]; exact h
theorem MeC.kept {V V' : pV} {B k : Nat} {s : Nat → Nat} (h : MeC V B s k) (h1 : V' (B + (149 + 2 * k)) = V (B + (149 + 2 * k))) (h2 : V' (B + (150 + 2 * k)) = V (B + (150 + 2 * k))) : MeC V' B s k := by
  unfold MeC; rw [h1, h2]; exact h
theorem LadC.kept {V V' : pV} {B q : Nat} {ll : List Nat} (h : LadC V B q ll) (h1 : V' (B + (173 + 2 * q)) = V (B + (173 + 2 * q))) (h2 : V' (B + (174 + 2 * q)) = V (B + (174 + 2 * q))) : LadC V' B q ll := by
  unfold LadC; rw [h1, h2]; exact h
theorem HdC.kept {V V' : pV} {B : Nat} {s : Nat → Nat} (h : HdC V B s) (h1 : V' B = V B) (h2 : V' (B + 1) = V (B + 1)) : HdC V' B s := by
  unfold HdC; rw [h1, h2]; exact h
theorem RepS.kept {V V' : pV} {w : Nat → Nat} {B : Nat} {s : Nat → Nat} {u : Nat → Nat → Nat} {ls : Nat → List Nat} (hw : Ord w) (h : RepS V w B s u ls) (hk : ∀ o, B ≤ o → o < B + 181 → V' o = V o) : RepS V' w B s u ls := by
  refine ⟨h.1.kept (hk _ (by omega) (by omega)) (hk _ (by omega) (by omega)), fun r hr => ?_, fun k hk2 => ?_, fun q hq => ?_⟩
  · have := hw.1 r hr
    exact (h.2.1 r hr).kept (hk _ (by omega) (by omega)) (hk _ (by omega) (by omega)) (hk _ (by omega) (by omega))
  · exact (h.2.2.1 k hk2).kept (hk _ (by omega) (by omega)) (hk _ (by omega) (by omega))
  · exact (h.2.2.2 q hq).kept (hk _ (by omega) (by omega)) (hk _ (by omega) (by omega))
theorem e_copyS {z : Nat} {X : pX} {B C : Nat} (hb : isB B) (hc : isB C) (hd : B + 181 ≤ C ∨ C + 181 ≤ B) {j i : Nat} (hj : j < 48) (hi : i < 48) : ∃ V', f_X4_copyFrom (z + (B + (5 + 3 * j))) (z + (C + (5 + 3 * i))) (hp z X) = some (hp z (V', X.2)) ∧ (∀ o, o ≠ B + (5 + 3 * j) → o ≠ B + (6 + 3 * j) → o ≠ B + (7 + 3 * j) → V' o = X.1 o) ∧ ∀ u, SaC X.1 C i u → SaC V' B j u := by
  refine ⟨_, by
    simp (disch := first | assumption | omega) only [f_X4_copyFrom, m_gO2, m_pO2, m_gO3, m_pO3, m_gO4, m_pO4, m_rO0, m_rO1, m_rO5, m_rO6, m_rO7, m_iO, m_ldT, m_stT, m_ldS, m_ldM, m_ldL, m_lnS, m_lnM, m_gS0, m_pS0, m_gS1, m_pS1, m_gS2, m_pS2, m_gS3, m_pS3, m_gS4, m_pS4, m_gS5, m_pS5, m_gS6, m_pS6, m_rS7, m_rS8, m_iS, m_gM1, m_pM1, m_gM2, m_pM2, m_rM0, m_iM, m_gL1, m_pL1, m_rL0, m_iL, m_ldP, m_stP, m_ldR, m_stR, m_ldC, m_stC, m_ldK, m_stK, m_gx5, m_px5, m_rx0, m_rx1, m_rx2, m_rx3, m_rx4, m_ix, m_gD1, m_pD1, m_gD2, m_pD2, m_gD3, m_pD3, m_rD0, m_iD, m_ld2, m_st2, m_gH1, m_pH1, m_rH0, m_iH, m_gX1, m_pX1, m_gX2, m_pX2, m_gX3, m_pX3, m_rX0, m_rX4, m_rX5, m_rX6, m_rX7, m_iX, m_ld1273, m_st1273, m_ld1274, m_st1274, m_ld1275, m_st1275, m_ld1276, m_st1276, m_ld1277, m_st1277, m_ldH, m_cpP, m_cpR, zb2_s, zif_t, zopt_n, zopt_s, b_s, znm_e, lit_0, lit_1, lit_2, lit_3, lit_4, lit_5, lit_6, lit_7, lit_8, lit_9, lit_10, lit_11, lit_12, lit_13, lit_14, lit_15, lit_16, lit_17, lit_18, lit_20, lit_24, lit_26, lit_30, lit_40, lit_45, lit_46, lit_47, lit_48, lit_60, lit_63, lit_64, lit_77, lit_100, lit_140, lit_168, lit_200, lit_300, lit_400, lit_900, lit_1000, lit_1168, lit_1997, lit_3333, lit_9999, lit_10000, reduceIte, Nat.reduceEqDiff, Nat.reduceLeDiff, Nat.reduceAdd, Nat.reduceMul, nI_eqE, nI_ltE, nI_leE, zbool_0, zbool_1, zbool_b, bI_0, bI_1, sV_s, sV_n, sV_sV]
    rfl, ?_, ?_⟩
  · intro o o1 o2 o3
    rw [sV_n o3, sV_n o2, sV_n o1]
  · intro u h
    refine ⟨fun k hk => ?_, fun q hq => ?_, fun m hm => ?_⟩
    · rw [sV_n (by omega), sV_n (by omega), sV_s]
      have h0 := h.1 0 (by decide)
      have h1 := h.1 1 (by decide)
      have h2 := h.1 2 (by decide)
      have h3 := h.1 3 (by decide)
      have h4 := h.1 4 (by decide)
      have h5 := h.1 5 (by decide)
      rcases (show k = 0 ∨ k = 1 ∨ k = 2 ∨ k = 3 ∨ k = 4 ∨ k = 5 by omega) with rfl | rfl | rfl | rfl | rfl | rfl <;> simp [upd, h0, h1, h2, h3, h4, h5]
    · rw [sV_n (by omega), sV_s, va_cpy0 hq]
      exact h.2.1 q hq
    · rw [sV_s, va_cpy0 hm]
      exact h.2.2 m hm
theorem e_copyM {z : Nat} {X : pX} {B C : Nat} (hb : isB B) (hc : isB C) (hd : B + 181 ≤ C ∨ C + 181 ≤ B) {k : Nat} (hk : k < 12) : ∃ V', f_X3_copyFrom (z + (B + (149 + 2 * k))) (z + (C + (149 + 2 * k))) (hp z X) = some (hp z (V', X.2)) ∧ (∀ o, o ≠ B + (149 + 2 * k) → o ≠ B + (150 + 2 * k) → V' o = X.1 o) ∧ ∀ s, MeC X.1 C s k → MeC V' B s k := by
  refine ⟨_, by
    simp (disch := first | assumption | omega) only [f_X3_copyFrom, m_gO2, m_pO2, m_gO3, m_pO3, m_gO4, m_pO4, m_rO0, m_rO1, m_rO5, m_rO6, m_rO7, m_iO, m_ldT, m_stT, m_ldS, m_ldM, m_ldL, m_lnS, m_lnM, m_gS0, m_pS0, m_gS1, m_pS1, m_gS2, m_pS2, m_gS3, m_pS3, m_gS4, m_pS4, m_gS5, m_pS5, m_gS6, m_pS6, m_rS7, m_rS8, m_iS, m_gM1, m_pM1, m_gM2, m_pM2, m_rM0, m_iM, m_gL1, m_pL1, m_rL0, m_iL, m_ldP, m_stP, m_ldR, m_stR, m_ldC, m_stC, m_ldK, m_stK, m_gx5, m_px5, m_rx0, m_rx1, m_rx2, m_rx3, m_rx4, m_ix, m_gD1, m_pD1, m_gD2, m_pD2, m_gD3, m_pD3, m_rD0, m_iD, m_ld2, m_st2, m_gH1, m_pH1, m_rH0, m_iH, m_gX1, m_pX1, m_gX2, m_pX2, m_gX3, m_pX3, m_rX0, m_rX4, m_rX5, m_rX6, m_rX7, m_iX, m_ld1273, m_st1273, m_ld1274, m_st1274, m_ld1275, m_st1275, m_ld1276, m_st1276, m_ld1277, m_st1277, m_ldH, m_cpC, zb2_s, zif_t, zopt_n, zopt_s, b_s, znm_e, lit_0, lit_1, lit_2, lit_3, lit_4, lit_5, lit_6, lit_7, lit_8, lit_9, lit_10, lit_11, lit_12, lit_13, lit_14, lit_15, lit_16, lit_17, lit_18, lit_20, lit_24, lit_26, lit_30, lit_40, lit_45, lit_46, lit_47, lit_48, lit_60, lit_63, lit_64, lit_77, lit_100, lit_140, lit_168, lit_200, lit_300, lit_400, lit_900, lit_1000, lit_1168, lit_1997, lit_3333, lit_9999, lit_10000, reduceIte, Nat.reduceEqDiff, Nat.reduceLeDiff, Nat.reduceAdd, Nat.reduceMul, nI_eqE, nI_ltE, nI_leE, zbool_0, zbool_1, zbool_b, bI_0, bI_1, sV_s, sV_n, sV_sV]
    rfl, ?_, ?_⟩
  · intro o o1 o2
    rw [sV_n o1, sV_n o2]
  · intro s h
    refine ⟨fun q hq => ?_, ?_, ?_⟩
    · rw [sV_n (by omega), sV_s, va_cpy0 hq]
      exact h.1 q hq
    · rw [sV_s]
      have h1 := h.2.1
      simp [upd, h1]
    · rw [sV_s]
      have h1 := h.2.2
      simp [upd, h1]
theorem e_copyL {z : Nat} {X : pX} {B C : Nat} (hb : isB B) (hc : isB C) (hd : B + 181 ≤ C ∨ C + 181 ≤ B) {q : Nat} (hq : q < 4) : ∃ V', f_X2_copyFrom (z + (B + (173 + 2 * q))) (z + (C + (173 + 2 * q))) (hp z X) = some (hp z (V', X.2)) ∧ (∀ o, o ≠ B + (173 + 2 * q) → o ≠ B + (174 + 2 * q) → V' o = X.1 o) ∧ ∀ ll, ll.length ≤ 12 → LadC X.1 C q ll → LadC V' B q ll := by
  refine ⟨_, by
    simp (disch := first | assumption | omega) only [f_X2_copyFrom, m_gO2, m_pO2, m_gO3, m_pO3, m_gO4, m_pO4, m_rO0, m_rO1, m_rO5, m_rO6, m_rO7, m_iO, m_ldT, m_stT, m_ldS, m_ldM, m_ldL, m_lnS, m_lnM, m_gS0, m_pS0, m_gS1, m_pS1, m_gS2, m_pS2, m_gS3, m_pS3, m_gS4, m_pS4, m_gS5, m_pS5, m_gS6, m_pS6, m_rS7, m_rS8, m_iS, m_gM1, m_pM1, m_gM2, m_pM2, m_rM0, m_iM, m_gL1, m_pL1, m_rL0, m_iL, m_ldP, m_stP, m_ldR, m_stR, m_ldC, m_stC, m_ldK, m_stK, m_gx5, m_px5, m_rx0, m_rx1, m_rx2, m_rx3, m_rx4, m_ix, m_gD1, m_pD1, m_gD2, m_pD2, m_gD3, m_pD3, m_rD0, m_iD, m_ld2, m_st2, m_gH1, m_pH1, m_rH0, m_iH, m_gX1, m_pX1, m_gX2, m_pX2, m_gX3, m_pX3, m_rX0, m_rX4, m_rX5, m_rX6, m_rX7, m_iX, m_ld1273, m_st1273, m_ld1274, m_st1274, m_ld1275, m_st1275, m_ld1276, m_st1276, m_ld1277, m_st1277, m_ldH, m_cpK, zb2_s, zif_t, zopt_n, zopt_s, b_s, znm_e, lit_0, lit_1, lit_2, lit_3, lit_4, lit_5, lit_6, lit_7, lit_8, lit_9, lit_10, lit_11, lit_12, lit_13, lit_14, lit_15, lit_16, lit_17, lit_18, lit_20, lit_24, lit_26, lit_30, lit_40, lit_45, lit_46, lit_47, lit_48, lit_60, lit_63, lit_64, lit_77, lit_100, lit_140, lit_168, lit_200, lit_300, lit_400, lit_900, lit_1000, lit_1168, lit_1997, lit_3333, lit_9999, lit_10000, reduceIte, Nat.reduceEqDiff, Nat.reduceLeDiff, Nat.reduceAdd, Nat.reduceMul, nI_eqE, nI_ltE, nI_leE, zbool_0, zbool_1, zbool_b, bI_0, bI_1, sV_s, sV_n, sV_sV]
    rfl, ?_, ?_⟩
  · intro o o1 o2
    rw [sV_n o1, sV_n o2]
  · intro ll hl h
    refine ⟨?_, fun k x hx => ?_⟩
    · rw [sV_s, pk_us]
      exact h.1
    · rw [sV_n (by omega), sV_s, va_cpy0 (by have := getE_lt hx; omega)]
      exact h.2 k x hx
