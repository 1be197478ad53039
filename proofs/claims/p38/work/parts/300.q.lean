/-! p38: what the class answers, named -/
/-- a question: its answer, and that only the duties' rows changed -/
def An (F : zHp → Option (Int32 × zHp)) (z : Nat) (X : pX) (r : Int32) : Prop := ∃ V1, F (hp z X) = some (r, hp z (V1, X.2)) ∧ KpD X.1 V1 ∧ DuE V1
theorem an_0 {F : zHp → Option (Int32 × zHp)} {z : Nat} {X : pX} {p : sS} {H : List sS} {K : Option sS} {T : List Int32} {r : Int32} (hb : Bc X p H K T) (h : F (hp z X) = some (r, hp z X)) : An F z X r := ⟨X.1, h, KpD.rf, hb.2.1⟩
def cntV (s : Nat → Nat) : Nat → Nat
  | 0 => s 0
  | 1 => s 1
  | 2 => cA (fun k => decide (recS s k 5 = 0)) 0 (s 1)
  | 3 => cA (fun k => decide (recS s k 5 = 1)) 0 (s 1)
  | 4 => cA (fun k => decide (recS s k 5 = 2)) 0 (s 1)
  | 5 => s 2
  | 6 => cA (fun m => decide (s 0 < s (969 + 6 * m + 4))) 0 (s 2)
  | 7 => sA (fun k => if recS s k 5 = 0 then fo s k else 0) 0 (s 1)
  | 8 => sA (fun k => if recS s k 5 = 0 then tkO s k else 0) 0 (s 1)
  | 9 => s 3
  | _ => sA (fun m => sA (hbM s m) 0 6) 0 (s 2)
theorem qn_set {z : Nat} {X : pX} {s σ : Nat → Nat} {H : List sS} {K : Option sS} {T : List Int32} (hP : PS s σ) (hb : Bc X (s, σ) H K T) {i : Nat} (hi : i < 5) : An (f_X7_count z (nI (13 + i))) z X (nI (s (4 + i))) := by
  have hS : Rc X 3 s σ := hb.1
  have hB := hP.B
  have b1 := hP.W.n48
  have b2 := hP.W.m12
  have hH := hS.2.1.1
  have e1 : nI (13 + i) - nI 13 = nI i := by rw [nI_sub (by omega)]; exact congrArg nI (by omega)
  have w1 : f_X7_isWithin (nI (13 + i)) (nI 13) (nI 17) (hp z X) = some (nI 1, hp z X) := e_wi_t (wi_n (by omega) (by omega) (by omega))
  refine an_0 hb ?_
  have n1 : ¬ (nI 1 = 0) := by decide
  unfold f_X7_count
  rw [lit_13, lit_17, w1, zb2_s, if_neg n1, m_rx0, b_s, m_rO1 isB_3, b_s, e1, m_ldT isB_3 (by omega), b_s, hH.2.2.2 _ (by omega)]
theorem qn_st {z : Nat} {X : pX} {s σ : Nat → Nat} {H : List sS} {K : Option sS} {T : List Int32} (hP : PS s σ) (hb : Bc X (s, σ) H K T) {t : Nat} (ht : t < 3) : An (f_X7_count z (nI (t + 2))) z X (nI (cA (fun k => decide (recS s k 5 = t)) 0 (s 1))) := by
  have hS : Rc X 3 s σ := hb.1
  have hB := hP.B
  have b1 := hP.W.n48
  have b2 := hP.W.m12
  have nn : ∀ i j : Nat, i < 20 → j < 20 → i ≠ j → (nI i = nI j) = False := fun i j hi hj h => eq_false (fun e => h ((nI_eq (by omega) (by omega)).mp e))
  have g := e_thatAre (z := z) isB_3 hS.1 hS.2.1 hS.2.2.1.K (st := t) (by omega)
  rw [cnt_st hP (by omega)] at g
  refine an_0 hb ?_
  have w1 : ∀ k, k < 13 → f_X7_isWithin (nI k) (nI 13) (nI 17) (hp z X) = some (nI 0, hp z X) := fun k hk => e_wi_f (wi_x (by omega) (by omega) (by omega) (by omega))
  rcases (show t = 0 ∨ t = 1 ∨ t = 2 by omega) with rfl | rfl | rfl <;> simp (config := {maxSteps := 1000000}) (disch := first | assumption | omega) only [f_X7_count, w1, m_rx0, m_rx1, m_rx2, m_rx3, m_rx4, m_ix, m_iO isB_3, m_iO isB_184, m_iO isB_365, m_iH, m_iX, m_iD, e_wi_t, e_wi_f, e_ro_t, e_ro_f, zbool_0, zbool_1, zb2_s, zif_t, zopt_n, zopt_s, b_s, znm_e, lit_0, lit_1, lit_2, lit_3, lit_4, lit_5, lit_6, lit_7, lit_8, lit_9, lit_10, lit_11, lit_12, lit_13, lit_14, lit_15, lit_16, lit_17, lit_18, lit_20, lit_24, lit_26, lit_30, lit_40, lit_45, lit_46, lit_47, lit_48, lit_60, lit_63, lit_64, lit_77, lit_100, lit_140, lit_168, lit_200, lit_300, lit_400, lit_900, lit_1000, lit_1168, lit_1997, lit_3333, lit_9999, lit_10000, nI_10, if_false, if_true, nn, Nat.reduceAdd, g]
theorem qn_hist {z : Nat} {X : pX} {s σ : Nat → Nat} {H : List sS} {K : Option sS} {T : List Int32} (hP : PS s σ) (hb : Bc X (s, σ) H K T) : An (f_X7_count z (nI 11)) z X (nI H.length) := by
  have hS : Rc X 3 s σ := hb.1
  have hB := hP.B
  have b1 := hP.W.n48
  have b2 := hP.W.m12
  have nn : ∀ i j : Nat, i < 20 → j < 20 → i ≠ j → (nI i = nI j) = False := fun i j hi hj h => eq_false (fun e => h ((nI_eq (by omega) (by omega)).mp e))
  have g : X.1 546 1 = nI H.length := by rw [hb.2.2.2.2.1.2.1, List.length_map]
  have w1 : f_X7_isWithin (nI 11) (nI 13) (nI 17) (hp z X) = some (nI 0, hp z X) := e_wi_f (wi_x (by omega) (by omega) (by omega) (by omega))
  exact an_0 hb (by simp (config := {maxSteps := 1000000}) (disch := first | assumption | omega) only [f_X7_count, w1, m_rx0, m_rx1, m_rx2, m_rx3, m_rx4, m_ix, m_iO isB_3, m_iO isB_184, m_iO isB_365, m_iH, m_iX, m_iD, e_wi_t, e_wi_f, e_ro_t, e_ro_f, zbool_0, zbool_1, zb2_s, zif_t, zopt_n, zopt_s, b_s, znm_e, lit_0, lit_1, lit_2, lit_3, lit_4, lit_5, lit_6, lit_7, lit_8, lit_9, lit_10, lit_11, lit_12, lit_13, lit_14, lit_15, lit_16, lit_17, lit_18, lit_20, lit_24, lit_26, lit_30, lit_40, lit_45, lit_46, lit_47, lit_48, lit_60, lit_63, lit_64, lit_77, lit_100, lit_140, lit_168, lit_200, lit_300, lit_400, lit_900, lit_1000, lit_1168, lit_1997, lit_3333, lit_9999, lit_10000, nI_10, if_false, if_true, nn, m_gH1, g])
theorem qn_count {z : Nat} {X : pX} {s σ : Nat → Nat} {H : List sS} {K : Option sS} {T : List Int32} (hP : PS s σ) (hb : Bc X (s, σ) H K T) {k : Nat} (hk : k < 11) : An (f_X7_count z (nI k)) z X (nI (cntV s k)) := by
  have hS : Rc X 3 s σ := hb.1
  have nn : ∀ i j : Nat, i < 20 → j < 20 → i ≠ j → (nI i = nI j) = False := fun i j hi hj h => eq_false (fun e => h ((nI_eq (by omega) (by omega)).mp e))
  have hH := hS.2.1.1
  have w1 : f_X7_isWithin (nI k) (nI 13) (nI 17) (hp z X) = some (nI 0, hp z X) := e_wi_f (wi_x (by omega) (by omega) (by omega) (by omega))
  rcases (show k = 0 ∨ k = 1 ∨ k = 2 ∨ k = 3 ∨ k = 4 ∨ k = 5 ∨ k = 6 ∨ k = 7 ∨ k = 8 ∨ k = 9 ∨ k = 10 by omega) with rfl | rfl | rfl | rfl | rfl | rfl | rfl | rfl | rfl | rfl | rfl
  · exact an_0 hb (by simp (config := {maxSteps := 1000000}) (disch := first | assumption | omega) only [f_X7_count, w1, m_rx0, m_rx1, m_rx2, m_rx3, m_rx4, m_ix, m_iO isB_3, m_iO isB_184, m_iO isB_365, m_iH, m_iX, m_iD, e_wi_t, e_wi_f, e_ro_t, e_ro_f, zbool_0, zbool_1, zb2_s, zif_t, zopt_n, zopt_s, b_s, znm_e, lit_0, lit_1, lit_2, lit_3, lit_4, lit_5, lit_6, lit_7, lit_8, lit_9, lit_10, lit_11, lit_12, lit_13, lit_14, lit_15, lit_16, lit_17, lit_18, lit_20, lit_24, lit_26, lit_30, lit_40, lit_45, lit_46, lit_47, lit_48, lit_60, lit_63, lit_64, lit_77, lit_100, lit_140, lit_168, lit_200, lit_300, lit_400, lit_900, lit_1000, lit_1168, lit_1997, lit_3333, lit_9999, lit_10000, nI_10, if_false, if_true, nn, m_gO2 isB_3, hH.1]; rfl)
  · exact an_0 hb (by simp (config := {maxSteps := 1000000}) (disch := first | assumption | omega) only [f_X7_count, w1, m_rx0, m_rx1, m_rx2, m_rx3, m_rx4, m_ix, m_iO isB_3, m_iO isB_184, m_iO isB_365, m_iH, m_iX, m_iD, e_wi_t, e_wi_f, e_ro_t, e_ro_f, zbool_0, zbool_1, zb2_s, zif_t, zopt_n, zopt_s, b_s, znm_e, lit_0, lit_1, lit_2, lit_3, lit_4, lit_5, lit_6, lit_7, lit_8, lit_9, lit_10, lit_11, lit_12, lit_13, lit_14, lit_15, lit_16, lit_17, lit_18, lit_20, lit_24, lit_26, lit_30, lit_40, lit_45, lit_46, lit_47, lit_48, lit_60, lit_63, lit_64, lit_77, lit_100, lit_140, lit_168, lit_200, lit_300, lit_400, lit_900, lit_1000, lit_1168, lit_1997, lit_3333, lit_9999, lit_10000, nI_10, if_false, if_true, nn, m_gO3 isB_3, hH.2.1]; rfl)
  · exact qn_st hP hb (t := 0) (by omega)
  · exact qn_st hP hb (t := 1) (by omega)
  · exact qn_st hP hb (t := 2) (by omega)
  · exact an_0 hb (by simp (config := {maxSteps := 1000000}) (disch := first | assumption | omega) only [f_X7_count, w1, m_rx0, m_rx1, m_rx2, m_rx3, m_rx4, m_ix, m_iO isB_3, m_iO isB_184, m_iO isB_365, m_iH, m_iX, m_iD, e_wi_t, e_wi_f, e_ro_t, e_ro_f, zbool_0, zbool_1, zb2_s, zif_t, zopt_n, zopt_s, b_s, znm_e, lit_0, lit_1, lit_2, lit_3, lit_4, lit_5, lit_6, lit_7, lit_8, lit_9, lit_10, lit_11, lit_12, lit_13, lit_14, lit_15, lit_16, lit_17, lit_18, lit_20, lit_24, lit_26, lit_30, lit_40, lit_45, lit_46, lit_47, lit_48, lit_60, lit_63, lit_64, lit_77, lit_100, lit_140, lit_168, lit_200, lit_300, lit_400, lit_900, lit_1000, lit_1168, lit_1997, lit_3333, lit_9999, lit_10000, nI_10, if_false, if_true, nn, m_gO4 isB_3, hH.2.2.1]; rfl)
  · have g := e_sickN (z := z) isB_3 hS
    rw [cnt_sick hP] at g
    exact an_0 hb (by simp (config := {maxSteps := 1000000}) (disch := first | assumption | omega) only [f_X7_count, w1, m_rx0, m_rx1, m_rx2, m_rx3, m_rx4, m_ix, m_iO isB_3, m_iO isB_184, m_iO isB_365, m_iH, m_iX, m_iD, e_wi_t, e_wi_f, e_ro_t, e_ro_f, zbool_0, zbool_1, zb2_s, zif_t, zopt_n, zopt_s, b_s, znm_e, lit_0, lit_1, lit_2, lit_3, lit_4, lit_5, lit_6, lit_7, lit_8, lit_9, lit_10, lit_11, lit_12, lit_13, lit_14, lit_15, lit_16, lit_17, lit_18, lit_20, lit_24, lit_26, lit_30, lit_40, lit_45, lit_46, lit_47, lit_48, lit_60, lit_63, lit_64, lit_77, lit_100, lit_140, lit_168, lit_200, lit_300, lit_400, lit_900, lit_1000, lit_1168, lit_1997, lit_3333, lit_9999, lit_10000, nI_10, if_false, if_true, nn, g]; rfl)
  · have g := e_freeOpen (z := z) isB_3 hS.1 hS.2.1 hS.2.2.1.K
    rw [cnt_fr hP] at g
    exact an_0 hb (by simp (config := {maxSteps := 1000000}) (disch := first | assumption | omega) only [f_X7_count, w1, m_rx0, m_rx1, m_rx2, m_rx3, m_rx4, m_ix, m_iO isB_3, m_iO isB_184, m_iO isB_365, m_iH, m_iX, m_iD, e_wi_t, e_wi_f, e_ro_t, e_ro_f, zbool_0, zbool_1, zb2_s, zif_t, zopt_n, zopt_s, b_s, znm_e, lit_0, lit_1, lit_2, lit_3, lit_4, lit_5, lit_6, lit_7, lit_8, lit_9, lit_10, lit_11, lit_12, lit_13, lit_14, lit_15, lit_16, lit_17, lit_18, lit_20, lit_24, lit_26, lit_30, lit_40, lit_45, lit_46, lit_47, lit_48, lit_60, lit_63, lit_64, lit_77, lit_100, lit_140, lit_168, lit_200, lit_300, lit_400, lit_900, lit_1000, lit_1168, lit_1997, lit_3333, lit_9999, lit_10000, nI_10, if_false, if_true, nn, g]; rfl)
  · have g := e_takenOpen (z := z) isB_3 hS.1 hS.2.1 hS.2.2.1.K
    rw [cnt_tk hP] at g
    exact an_0 hb (by simp (config := {maxSteps := 1000000}) (disch := first | assumption | omega) only [f_X7_count, w1, m_rx0, m_rx1, m_rx2, m_rx3, m_rx4, m_ix, m_iO isB_3, m_iO isB_184, m_iO isB_365, m_iH, m_iX, m_iD, e_wi_t, e_wi_f, e_ro_t, e_ro_f, zbool_0, zbool_1, zb2_s, zif_t, zopt_n, zopt_s, b_s, znm_e, lit_0, lit_1, lit_2, lit_3, lit_4, lit_5, lit_6, lit_7, lit_8, lit_9, lit_10, lit_11, lit_12, lit_13, lit_14, lit_15, lit_16, lit_17, lit_18, lit_20, lit_24, lit_26, lit_30, lit_40, lit_45, lit_46, lit_47, lit_48, lit_60, lit_63, lit_64, lit_77, lit_100, lit_140, lit_168, lit_200, lit_300, lit_400, lit_900, lit_1000, lit_1168, lit_1997, lit_3333, lit_9999, lit_10000, nI_10, if_false, if_true, nn, g]; rfl)
  · have g := e_covers (z := z) isB_3 hS
    rw [← hP.1.2.2.1.2] at g
    exact an_0 hb (by simp (config := {maxSteps := 1000000}) (disch := first | assumption | omega) only [f_X7_count, w1, m_rx0, m_rx1, m_rx2, m_rx3, m_rx4, m_ix, m_iO isB_3, m_iO isB_184, m_iO isB_365, m_iH, m_iX, m_iD, e_wi_t, e_wi_f, e_ro_t, e_ro_f, zbool_0, zbool_1, zb2_s, zif_t, zopt_n, zopt_s, b_s, znm_e, lit_0, lit_1, lit_2, lit_3, lit_4, lit_5, lit_6, lit_7, lit_8, lit_9, lit_10, lit_11, lit_12, lit_13, lit_14, lit_15, lit_16, lit_17, lit_18, lit_20, lit_24, lit_26, lit_30, lit_40, lit_45, lit_46, lit_47, lit_48, lit_60, lit_63, lit_64, lit_77, lit_100, lit_140, lit_168, lit_200, lit_300, lit_400, lit_900, lit_1000, lit_1168, lit_1997, lit_3333, lit_9999, lit_10000, nI_10, if_false, if_true, nn, g]; rfl)
  · obtain ⟨V1, g1, g2, g3⟩ := e_bey (z := z) isB_3 hS hb.2.1
    rw [hbA_eq hP] at g1
    exact ⟨V1, by simp (config := {maxSteps := 1000000}) (disch := first | assumption | omega) only [f_X7_count, w1, m_rx0, m_rx1, m_rx2, m_rx3, m_rx4, m_ix, m_iO isB_3, m_iO isB_184, m_iO isB_365, m_iH, m_iX, m_iD, e_wi_t, e_wi_f, e_ro_t, e_ro_f, zbool_0, zbool_1, zb2_s, zif_t, zopt_n, zopt_s, b_s, znm_e, lit_0, lit_1, lit_2, lit_3, lit_4, lit_5, lit_6, lit_7, lit_8, lit_9, lit_10, lit_11, lit_12, lit_13, lit_14, lit_15, lit_16, lit_17, lit_18, lit_20, lit_24, lit_26, lit_30, lit_40, lit_45, lit_46, lit_47, lit_48, lit_60, lit_63, lit_64, lit_77, lit_100, lit_140, lit_168, lit_200, lit_300, lit_400, lit_900, lit_1000, lit_1168, lit_1997, lit_3333, lit_9999, lit_10000, nI_10, if_false, if_true, nn, g1]; rfl, g2, g3⟩
def slV (s : Nat → Nat) (k : Nat) : Nat → Nat
  | 0 => recS s k 5
  | 2 => recS s k 2
  | 3 => recS s k 3
  | 5 => ned (recS s k)
  | _ => fo s k
theorem qn_sail {z : Nat} {X : pX} {s σ : Nat → Nat} {H : List sS} {K : Option sS} {T : List Int32} (hP : PS s σ) (hb : Bc X (s, σ) H K T) {k w : Nat} (hk : k < s 1) (hw : w = 0 ∨ w = 2 ∨ w = 3 ∨ w = 5 ∨ w = 6) : An (f_X7_sailingOf z (nI k) (nI w)) z X (nI (slV s k w)) := by
  have hS : Rc X 3 s σ := hb.1
  have hB := hP.B
  have b1 := hP.W.n48
  have b2 := hP.W.m12
  have nn : ∀ i j : Nat, i < 20 → j < 20 → i ≠ j → (nI i = nI j) = False := fun i j hi hj h => eq_false (fun e => h ((nI_eq (by omega) (by omega)).mp e))
  obtain ⟨r, hr1, hrk, hat⟩ := at_n hP hk
  obtain ⟨hw1, hs⟩ := sac hS hr1 b1
  rw [hrk] at hs
  have hk48 : k < 48 := by omega
  have hG := rec_G hP.W hk48 (hP.1.2.1 k hk)
  have v2 := hs.1 2 (by omega)
  have v3 := hs.1 3 (by omega)
  have v5 := hs.1 5 (by omega)
  rcases hw with rfl | rfl | rfl | rfl | rfl
  · exact an_0 hb (by simp (disch := first | assumption | omega) only [f_X7_sailingOf, m_rx0, m_rx1, m_rx2, m_rx3, m_rx4, m_ix, m_iO isB_3, m_iO isB_184, m_iO isB_365, m_iH, m_iX, m_iD, e_wi_t, e_wi_f, e_ro_t, e_ro_f, zbool_0, zbool_1, zb2_s, zif_t, zopt_n, zopt_s, b_s, znm_e, lit_0, lit_1, lit_2, lit_3, lit_4, lit_5, lit_6, lit_7, lit_8, lit_9, lit_10, lit_11, lit_12, lit_13, lit_14, lit_15, lit_16, lit_17, lit_18, lit_20, lit_24, lit_26, lit_30, lit_40, lit_45, lit_46, lit_47, lit_48, lit_60, lit_63, lit_64, lit_77, lit_100, lit_140, lit_168, lit_200, lit_300, lit_400, lit_900, lit_1000, lit_1168, lit_1997, lit_3333, lit_9999, lit_10000, nI_10, if_false, if_true, nn, e_sa_n isB_3 hS hP hat, m_gS5 isB_3, v5]; rfl)
  · exact an_0 hb (by simp (disch := first | assumption | omega) only [f_X7_sailingOf, m_rx0, m_rx1, m_rx2, m_rx3, m_rx4, m_ix, m_iO isB_3, m_iO isB_184, m_iO isB_365, m_iH, m_iX, m_iD, e_wi_t, e_wi_f, e_ro_t, e_ro_f, zbool_0, zbool_1, zb2_s, zif_t, zopt_n, zopt_s, b_s, znm_e, lit_0, lit_1, lit_2, lit_3, lit_4, lit_5, lit_6, lit_7, lit_8, lit_9, lit_10, lit_11, lit_12, lit_13, lit_14, lit_15, lit_16, lit_17, lit_18, lit_20, lit_24, lit_26, lit_30, lit_40, lit_45, lit_46, lit_47, lit_48, lit_60, lit_63, lit_64, lit_77, lit_100, lit_140, lit_168, lit_200, lit_300, lit_400, lit_900, lit_1000, lit_1168, lit_1997, lit_3333, lit_9999, lit_10000, nI_10, if_false, if_true, nn, e_sa_n isB_3 hS hP hat, m_gS2 isB_3, v2]; rfl)
  · exact an_0 hb (by simp (disch := first | assumption | omega) only [f_X7_sailingOf, m_rx0, m_rx1, m_rx2, m_rx3, m_rx4, m_ix, m_iO isB_3, m_iO isB_184, m_iO isB_365, m_iH, m_iX, m_iD, e_wi_t, e_wi_f, e_ro_t, e_ro_f, zbool_0, zbool_1, zb2_s, zif_t, zopt_n, zopt_s, b_s, znm_e, lit_0, lit_1, lit_2, lit_3, lit_4, lit_5, lit_6, lit_7, lit_8, lit_9, lit_10, lit_11, lit_12, lit_13, lit_14, lit_15, lit_16, lit_17, lit_18, lit_20, lit_24, lit_26, lit_30, lit_40, lit_45, lit_46, lit_47, lit_48, lit_60, lit_63, lit_64, lit_77, lit_100, lit_140, lit_168, lit_200, lit_300, lit_400, lit_900, lit_1000, lit_1168, lit_1997, lit_3333, lit_9999, lit_10000, nI_10, if_false, if_true, nn, e_sa_n isB_3 hS hP hat, m_gS3 isB_3, v3]; rfl)
  · have g := e_allPlaces (z := z) isB_3 hw1 hs hG.1.1
    exact an_0 hb (by simp (disch := first | assumption | omega) only [f_X7_sailingOf, m_rx0, m_rx1, m_rx2, m_rx3, m_rx4, m_ix, m_iO isB_3, m_iO isB_184, m_iO isB_365, m_iH, m_iX, m_iD, e_wi_t, e_wi_f, e_ro_t, e_ro_f, zbool_0, zbool_1, zb2_s, zif_t, zopt_n, zopt_s, b_s, znm_e, lit_0, lit_1, lit_2, lit_3, lit_4, lit_5, lit_6, lit_7, lit_8, lit_9, lit_10, lit_11, lit_12, lit_13, lit_14, lit_15, lit_16, lit_17, lit_18, lit_20, lit_24, lit_26, lit_30, lit_40, lit_45, lit_46, lit_47, lit_48, lit_60, lit_63, lit_64, lit_77, lit_100, lit_140, lit_168, lit_200, lit_300, lit_400, lit_900, lit_1000, lit_1168, lit_1997, lit_3333, lit_9999, lit_10000, nI_10, if_false, if_true, nn, e_sa_n isB_3 hS hP hat, m_iS isB_3, g]; rfl)
  · have g := e_freeN (z := z) isB_3 hw1 hs hG.1
    rw [fr_fo hP.W hk48] at g
    exact an_0 hb (by simp (disch := first | assumption | omega) only [f_X7_sailingOf, m_rx0, m_rx1, m_rx2, m_rx3, m_rx4, m_ix, m_iO isB_3, m_iO isB_184, m_iO isB_365, m_iH, m_iX, m_iD, e_wi_t, e_wi_f, e_ro_t, e_ro_f, zbool_0, zbool_1, zb2_s, zif_t, zopt_n, zopt_s, b_s, znm_e, lit_0, lit_1, lit_2, lit_3, lit_4, lit_5, lit_6, lit_7, lit_8, lit_9, lit_10, lit_11, lit_12, lit_13, lit_14, lit_15, lit_16, lit_17, lit_18, lit_20, lit_24, lit_26, lit_30, lit_40, lit_45, lit_46, lit_47, lit_48, lit_60, lit_63, lit_64, lit_77, lit_100, lit_140, lit_168, lit_200, lit_300, lit_400, lit_900, lit_1000, lit_1168, lit_1997, lit_3333, lit_9999, lit_10000, nI_10, if_false, if_true, nn, e_sa_n isB_3 hS hP hat, m_iS isB_3, g]; rfl)
theorem qn_sailx {z : Nat} {X : pX} {s σ : Nat → Nat} {H : List sS} {K : Option sS} {T : List Int32} (hP : PS s σ) (hb : Bc X (s, σ) H K T) {k : Nat} (hk : s 1 ≤ k) (hk2 : k < 2 ^ 31) (w : Int32) : An (f_X7_sailingOf z (nI k) w) z X (-nI 1) := by
  have hS : Rc X 3 s σ := hb.1
  have hB := hP.B
  have b1 := hP.W.n48
  have b2 := hP.W.m12
  have c1 : ¬ (nI 0 ≤ nI k ∧ nI k < nI (s 1)) := fun e => by have := (nI_ltI hk2 (by omega)).mp e.2; omega
  exact an_0 hb (by simp (disch := first | assumption | omega) only [f_X7_sailingOf, m_rx0, m_rx1, m_rx2, m_rx3, m_rx4, m_ix, m_iO isB_3, m_iO isB_184, m_iO isB_365, m_iH, m_iX, m_iD, e_wi_t, e_wi_f, e_ro_t, e_ro_f, zbool_0, zbool_1, zb2_s, zif_t, zopt_n, zopt_s, b_s, znm_e, lit_0, lit_1, lit_2, lit_3, lit_4, lit_5, lit_6, lit_7, lit_8, lit_9, lit_10, lit_11, lit_12, lit_13, lit_14, lit_15, lit_16, lit_17, lit_18, lit_20, lit_24, lit_26, lit_30, lit_40, lit_45, lit_46, lit_47, lit_48, lit_60, lit_63, lit_64, lit_77, lit_100, lit_140, lit_168, lit_200, lit_300, lit_400, lit_900, lit_1000, lit_1168, lit_1997, lit_3333, lit_9999, lit_10000, nI_10, if_false, if_true, e_sa_x isB_3 hS hP c1])
/-- the crew's place of a rank -/
def crN (s : Nat → Nat) (k R : Nat) : Option Nat := nA (mrP (recS s k)) 0 48 R
theorem qn_crew0 {z : Nat} {X : pX} {s σ : Nat → Nat} {H : List sS} {K : Option sS} {T : List Int32} (hP : PS s σ) (hb : Bc X (s, σ) H K T) {k R w : Nat} (hk : k < s 1) (hR : R < 2 ^ 31) (hw : w ≤ 2) (e : crN s k R = none) : An (f_X7_crew z (nI k) (nI R) (nI w)) z X (-nI 5) := by
  have hS : Rc X 3 s σ := hb.1
  have hB := hP.B
  have b1 := hP.W.n48
  have b2 := hP.W.m12
  obtain ⟨r, hr1, hrk, hat⟩ := at_n hP hk
  have hw1 := hS.1.1 r (by omega)
  have hs := hS.2.1.2.1 r (by omega)
  have hk48 : k < 48 := by omega
  have hG := rec_G hP.W hk48 (hP.1.2.1 k hk)
  have eU : UU s σ r = recS s k := by rw [UU_lt hr1, hrk]
  have c2 : ¬ nI R < nI 0 := nI_pos hR
  have c3 : nI 0 ≤ nI w ∧ nI w ≤ nI 2 := wi_n (by omega) hw (by omega)
  have g := e_rank (z := z) isB_3 hw1 hs (by rw [eU]; exact hG.1.1) hR
  unfold crN at e
  rw [eU, e] at g
  refine an_0 hb ?_
  simp (disch := first | assumption | omega) only [f_X7_crew, m_rx0, m_rx1, m_rx2, m_rx3, m_rx4, m_ix, m_iO isB_3, m_iO isB_184, m_iO isB_365, m_iH, m_iX, m_iD, e_wi_t, e_wi_f, e_ro_t, e_ro_f, zbool_0, zbool_1, zb2_s, zif_t, zopt_n, zopt_s, b_s, znm_e, lit_0, lit_1, lit_2, lit_3, lit_4, lit_5, lit_6, lit_7, lit_8, lit_9, lit_10, lit_11, lit_12, lit_13, lit_14, lit_15, lit_16, lit_17, lit_18, lit_20, lit_24, lit_26, lit_30, lit_40, lit_45, lit_46, lit_47, lit_48, lit_60, lit_63, lit_64, lit_77, lit_100, lit_140, lit_168, lit_200, lit_300, lit_400, lit_900, lit_1000, lit_1168, lit_1997, lit_3333, lit_9999, lit_10000, nI_10, if_false, if_true, e_sa_n isB_3 hS hP hat, c2, m_iS isB_3, g, Option.map, oI]
theorem qn_crew {z : Nat} {X : pX} {s σ : Nat → Nat} {H : List sS} {K : Option sS} {T : List Int32} (hP : PS s σ) (hb : Bc X (s, σ) H K T) {k R i : Nat} (hk : k < s 1) (hR : R < 2 ^ 31) (e : crN s k R = some i) : (i < 48 ∧ recS s k (20 + i % 12) = i / 12 + 1 ∧ i % 12 < s 2) ∧ An (f_X7_crew z (nI k) (nI R) (nI 0)) z X (nI (i % 12)) ∧ An (f_X7_crew z (nI k) (nI R) (nI 1)) z X (nI (i / 12)) ∧ An (f_X7_crew z (nI k) (nI R) (nI 2)) z X (nI (bgN s (i % 12) k)) := by
  have hS : Rc X 3 s σ := hb.1
  have hB := hP.B
  have b1 := hP.W.n48
  have b2 := hP.W.m12
  obtain ⟨r, hr1, hrk, hat⟩ := at_n hP hk
  have hw1 := hS.1.1 r (by omega)
  have hs := hS.2.1.2.1 r (by omega)
  have hk48 : k < 48 := by omega
  have hG := rec_G hP.W hk48 (hP.1.2.1 k hk)
  have eU : UU s σ r = recS s k := by rw [UU_lt hr1, hrk]
  have c2 : ¬ nI R < nI 0 := nI_pos hR
  have g := e_rank (z := z) isB_3 hw1 hs (by rw [eU]; exact hG.1.1) hR
  unfold crN at e
  obtain ⟨i48, hi⟩ : i < 48 ∧ mrP (recS s k) i = true := by
    rcases nA_prop (p := mrP (recS s k)) 48 0 R with x | ⟨j, x, j48, hj⟩
    · rw [x] at e; cases e
    · rw [x] at e; cases e; exact ⟨by omega, hj⟩
  rw [eU, e] at g
  have n5 := nI_ne5 (j := i % 12) (by omega)
  have hi := of_decide_eq_true hi
  have hm12 : i % 12 < 12 := Nat.mod_lt _ (by omega)
  have hm : i % 12 < s 2 := by
    rcases Nat.lt_or_ge (i % 12) (s 2) with x | x
    · exact x
    · have := hP.W.2.1 k (i % 12) hk48 hm12 (Or.inr (Or.inl x)); omega
  have n1 : (nI 1 = nI 0) = False := eq_false (by decide)
  have n2 : (nI 2 = nI 0) = False := eq_false (by decide)
  have n3 : (nI 2 = nI 1) = False := eq_false (by decide)
  have g2 := e_roleOf (z := z) isB_3 hw1 hs (by rw [eU]; exact hG.1.1) hm12
  rw [eU, hi, rl_s] at g2
  have d0 : nI 0 ≤ nI 0 ∧ nI 0 ≤ nI 2 := by decide
  have d1 : nI 0 ≤ nI 1 ∧ nI 1 ≤ nI 2 := by decide
  have d2 : nI 0 ≤ nI 2 ∧ nI 2 ≤ nI 2 := by decide
  refine ⟨⟨i48, hi, hm⟩, an_0 hb ?_, an_0 hb ?_, ?_⟩
  · simp (disch := first | assumption | omega) only [f_X7_crew, m_rx0, m_rx1, m_rx2, m_rx3, m_rx4, m_ix, m_iO isB_3, m_iO isB_184, m_iO isB_365, m_iH, m_iX, m_iD, e_wi_t, e_wi_f, e_ro_t, e_ro_f, zbool_0, zbool_1, zb2_s, zif_t, zopt_n, zopt_s, b_s, znm_e, lit_0, lit_1, lit_2, lit_3, lit_4, lit_5, lit_6, lit_7, lit_8, lit_9, lit_10, lit_11, lit_12, lit_13, lit_14, lit_15, lit_16, lit_17, lit_18, lit_20, lit_24, lit_26, lit_30, lit_40, lit_45, lit_46, lit_47, lit_48, lit_60, lit_63, lit_64, lit_77, lit_100, lit_140, lit_168, lit_200, lit_300, lit_400, lit_900, lit_1000, lit_1168, lit_1997, lit_3333, lit_9999, lit_10000, nI_10, if_false, if_true, e_sa_n isB_3 hS hP hat, c2, m_iS isB_3, g, Option.map, oI, n5]
  · simp (disch := first | assumption | omega) only [f_X7_crew, m_rx0, m_rx1, m_rx2, m_rx3, m_rx4, m_ix, m_iO isB_3, m_iO isB_184, m_iO isB_365, m_iH, m_iX, m_iD, e_wi_t, e_wi_f, e_ro_t, e_ro_f, zbool_0, zbool_1, zb2_s, zif_t, zopt_n, zopt_s, b_s, znm_e, lit_0, lit_1, lit_2, lit_3, lit_4, lit_5, lit_6, lit_7, lit_8, lit_9, lit_10, lit_11, lit_12, lit_13, lit_14, lit_15, lit_16, lit_17, lit_18, lit_20, lit_24, lit_26, lit_30, lit_40, lit_45, lit_46, lit_47, lit_48, lit_60, lit_63, lit_64, lit_77, lit_100, lit_140, lit_168, lit_200, lit_300, lit_400, lit_900, lit_1000, lit_1168, lit_1997, lit_3333, lit_9999, lit_10000, nI_10, if_false, if_true, e_sa_n isB_3 hS hP hat, c2, m_iS isB_3, g, Option.map, oI, n5, n1, g2]
  · obtain ⟨V1, g1, g3, g4, g5⟩ := e_duties0 (z := z) isB_3 hS (m := i % 12) hm12 hb.2.1
    have h2 : UU s σ r 2 ≤ 1168 := by
      rw [eU]
      have := (hB.2.1 k hk48).2.2.1
      show s (9 + 8 * k + 2) ≤ 1168
      omega
    have g6 := e_beginOf (z := z) isB_3 hw1 h2 (X := (V1, X.2)) ((hS.kd g3).2.1.2.1 r (by omega)) g4 g5
    have g7 := begin_eq hP hm hr1 (by rw [hrk]; omega)
    rw [hrk] at g7
    have g6 := g6.trans (congrArg (fun v => some (nI v, hp z (V1, X.2))) g7)
    refine ⟨V1, ?_, g3, _, g4, g5⟩
    simp (disch := first | assumption | omega) only [f_X7_crew, m_rx0, m_rx1, m_rx2, m_rx3, m_rx4, m_ix, m_iO isB_3, m_iO isB_184, m_iO isB_365, m_iH, m_iX, m_iD, e_wi_t, e_wi_f, e_ro_t, e_ro_f, zbool_0, zbool_1, zb2_s, zif_t, zopt_n, zopt_s, b_s, znm_e, lit_0, lit_1, lit_2, lit_3, lit_4, lit_5, lit_6, lit_7, lit_8, lit_9, lit_10, lit_11, lit_12, lit_13, lit_14, lit_15, lit_16, lit_17, lit_18, lit_20, lit_24, lit_26, lit_30, lit_40, lit_45, lit_46, lit_47, lit_48, lit_60, lit_63, lit_64, lit_77, lit_100, lit_140, lit_168, lit_200, lit_300, lit_400, lit_900, lit_1000, lit_1168, lit_1997, lit_3333, lit_9999, lit_10000, nI_10, if_false, if_true, e_sa_n isB_3 hS hP hat, c2, m_iS isB_3, g, Option.map, oI, n5, n2, n3, g1, g6]
theorem qn_crewx {z : Nat} {X : pX} {s σ : Nat → Nat} {H : List sS} {K : Option sS} {T : List Int32} (hP : PS s σ) (hb : Bc X (s, σ) H K T) {k : Nat} (hk : s 1 ≤ k) (hk2 : k < 2 ^ 31) (a b : Int32) : An (f_X7_crew z (nI k) a b) z X (-nI 1) := by
  have hS : Rc X 3 s σ := hb.1
  have hB := hP.B
  have b1 := hP.W.n48
  have b2 := hP.W.m12
  have c1 : ¬ (nI 0 ≤ nI k ∧ nI k < nI (s 1)) := fun e => by have := (nI_ltI hk2 (by omega)).mp e.2; omega
  exact an_0 hb (by simp (disch := first | assumption | omega) only [f_X7_crew, m_rx0, m_rx1, m_rx2, m_rx3, m_rx4, m_ix, m_iO isB_3, m_iO isB_184, m_iO isB_365, m_iH, m_iX, m_iD, e_wi_t, e_wi_f, e_ro_t, e_ro_f, zbool_0, zbool_1, zb2_s, zif_t, zopt_n, zopt_s, b_s, znm_e, lit_0, lit_1, lit_2, lit_3, lit_4, lit_5, lit_6, lit_7, lit_8, lit_9, lit_10, lit_11, lit_12, lit_13, lit_14, lit_15, lit_16, lit_17, lit_18, lit_20, lit_24, lit_26, lit_30, lit_40, lit_45, lit_46, lit_47, lit_48, lit_60, lit_63, lit_64, lit_77, lit_100, lit_140, lit_168, lit_200, lit_300, lit_400, lit_900, lit_1000, lit_1168, lit_1997, lit_3333, lit_9999, lit_10000, nI_10, if_false, if_true, e_sa_x isB_3 hS hP c1])
/-- until when a member is sick -/
def skV (s : Nat → Nat) (m : Nat) : Int32 := if s 0 < s (969 + 6 * m + 4) then nI (s (969 + 6 * m + 4)) else -nI 5
theorem qn_cert {z : Nat} {X : pX} {s σ : Nat → Nat} {H : List sS} {K : Option sS} {T : List Int32} (hP : PS s σ) (hb : Bc X (s, σ) H K T) {m q : Nat} (hm : m < s 2) (hq : q < 4) : An (f_X7_memberOf z (nI m) (nI q)) z X (nI (s (969 + 6 * m + q))) := by
  have hS : Rc X 3 s σ := hb.1
  have hB := hP.B
  have b1 := hP.W.n48
  have b2 := hP.W.m12
  have hm12 : m < 12 := by omega
  have hM := hS.2.1.2.2.1 m hm12
  have c2 : nI 0 ≤ nI q ∧ nI q < nI 4 := ⟨nI_le (Nat.zero_le _) (by omega), nI_lt hq (by omega)⟩
  have g := e_certOf (z := z) (X := X) isB_3 hm12 hq
  rw [hM.1 q hq] at g
  exact an_0 hb (by simp (config := {maxSteps := 1000000}) (disch := first | assumption | omega) only [f_X7_memberOf, m_rx0, m_rx1, m_rx2, m_rx3, m_rx4, m_ix, m_iO isB_3, m_iO isB_184, m_iO isB_365, m_iH, m_iX, m_iD, e_wi_t, e_wi_f, e_ro_t, e_ro_f, zbool_0, zbool_1, zb2_s, zif_t, zopt_n, zopt_s, b_s, znm_e, lit_0, lit_1, lit_2, lit_3, lit_4, lit_5, lit_6, lit_7, lit_8, lit_9, lit_10, lit_11, lit_12, lit_13, lit_14, lit_15, lit_16, lit_17, lit_18, lit_20, lit_24, lit_26, lit_30, lit_40, lit_45, lit_46, lit_47, lit_48, lit_60, lit_63, lit_64, lit_77, lit_100, lit_140, lit_168, lit_200, lit_300, lit_400, lit_900, lit_1000, lit_1168, lit_1997, lit_3333, lit_9999, lit_10000, nI_10, if_false, if_true, e_memAt_n isB_3 hS, m_iM isB_3, g])
theorem qn_sick {z : Nat} {X : pX} {s σ : Nat → Nat} {H : List sS} {K : Option sS} {T : List Int32} (hP : PS s σ) (hb : Bc X (s, σ) H K T) {m : Nat} (hm : m < s 2) : An (f_X7_memberOf z (nI m) (nI 4)) z X (skV s m) := by
  have hS : Rc X 3 s σ := hb.1
  have hB := hP.B
  have b1 := hP.W.n48
  have b2 := hP.W.m12
  have nn : ∀ i j : Nat, i < 20 → j < 20 → i ≠ j → (nI i = nI j) = False := fun i j hi hj h => eq_false (fun e => h ((nI_eq (by omega) (by omega)).mp e))
  have hm12 : m < 12 := by omega
  have hM := hS.2.1.2.2.1 m hm12
  have s0 : X.1 3 2 = nI (s 0) := hS.2.1.1.1
  have l0 := hB.1.1
  have l4 := hB.1.2.2.2.2 m hm12 4 (by omega)
  have w4 : f_X7_isRole (nI 4) (hp z X) = some (nI 0, hp z X) := e_ro_f (by decide)
  unfold skV
  by_cases c : s 0 < s (969 + 6 * m + 4)
  · have e : (s (969 + 6 * m + 4) ≤ s 0) = False := eq_false (by omega)
    rw [if_pos c]
    exact an_0 hb (by simp (config := {maxSteps := 1000000}) (disch := first | assumption | omega) only [f_X7_memberOf, w4, m_rx0, m_rx1, m_rx2, m_rx3, m_rx4, m_ix, m_iO isB_3, m_iO isB_184, m_iO isB_365, m_iH, m_iX, m_iD, e_wi_t, e_wi_f, e_ro_t, e_ro_f, zbool_0, zbool_1, zb2_s, zif_t, zopt_n, zopt_s, b_s, znm_e, lit_0, lit_1, lit_2, lit_3, lit_4, lit_5, lit_6, lit_7, lit_8, lit_9, lit_10, lit_11, lit_12, lit_13, lit_14, lit_15, lit_16, lit_17, lit_18, lit_20, lit_24, lit_26, lit_30, lit_40, lit_45, lit_46, lit_47, lit_48, lit_60, lit_63, lit_64, lit_77, lit_100, lit_140, lit_168, lit_200, lit_300, lit_400, lit_900, lit_1000, lit_1168, lit_1997, lit_3333, lit_9999, lit_10000, nI_10, if_false, if_true, nn, e_memAt_n isB_3 hS, m_gM1 isB_3, m_gO2 isB_3, s0, hM.2.1, nI_leE, e])
  · have e : (s (969 + 6 * m + 4) ≤ s 0) = True := eq_true (by omega)
    rw [if_neg c]
    exact an_0 hb (by simp (config := {maxSteps := 1000000}) (disch := first | assumption | omega) only [f_X7_memberOf, w4, m_rx0, m_rx1, m_rx2, m_rx3, m_rx4, m_ix, m_iO isB_3, m_iO isB_184, m_iO isB_365, m_iH, m_iX, m_iD, e_wi_t, e_wi_f, e_ro_t, e_ro_f, zbool_0, zbool_1, zb2_s, zif_t, zopt_n, zopt_s, b_s, znm_e, lit_0, lit_1, lit_2, lit_3, lit_4, lit_5, lit_6, lit_7, lit_8, lit_9, lit_10, lit_11, lit_12, lit_13, lit_14, lit_15, lit_16, lit_17, lit_18, lit_20, lit_24, lit_26, lit_30, lit_40, lit_45, lit_46, lit_47, lit_48, lit_60, lit_63, lit_64, lit_77, lit_100, lit_140, lit_168, lit_200, lit_300, lit_400, lit_900, lit_1000, lit_1168, lit_1997, lit_3333, lit_9999, lit_10000, nI_10, if_false, if_true, nn, e_memAt_n isB_3 hS, m_gM1 isB_3, m_gO2 isB_3, s0, hM.2.1, nI_leE, e])
theorem qn_open {z : Nat} {X : pX} {s σ : Nat → Nat} {H : List sS} {K : Option sS} {T : List Int32} (hP : PS s σ) (hb : Bc X (s, σ) H K T) {m : Nat} (hm : m < s 2) : An (f_X7_memberOf z (nI m) (nI 5)) z X (nI (cA (fun k => decide (recS s k 5 = 0 ∧ recS s k (20 + m) ≠ 0)) 0 (s 1))) := by
  have hS : Rc X 3 s σ := hb.1
  have hB := hP.B
  have b1 := hP.W.n48
  have b2 := hP.W.m12
  have nn : ∀ i j : Nat, i < 20 → j < 20 → i ≠ j → (nI i = nI j) = False := fun i j hi hj h => eq_false (fun e => h ((nI_eq (by omega) (by omega)).mp e))
  have hm12 : m < 12 := by omega
  have g := e_placesOf (z := z) isB_3 hS.1 hS.2.1 hS.2.2.1.K (m := m) (st := 0) hm12 (by omega)
  rw [cnt_pl hP (by omega)] at g
  have w4 : f_X7_isRole (nI 5) (hp z X) = some (nI 0, hp z X) := e_ro_f (by decide)
  exact an_0 hb (by simp (config := {maxSteps := 1000000}) (disch := first | assumption | omega) only [f_X7_memberOf, w4, m_rx0, m_rx1, m_rx2, m_rx3, m_rx4, m_ix, m_iO isB_3, m_iO isB_184, m_iO isB_365, m_iH, m_iX, m_iD, e_wi_t, e_wi_f, e_ro_t, e_ro_f, zbool_0, zbool_1, zb2_s, zif_t, zopt_n, zopt_s, b_s, znm_e, lit_0, lit_1, lit_2, lit_3, lit_4, lit_5, lit_6, lit_7, lit_8, lit_9, lit_10, lit_11, lit_12, lit_13, lit_14, lit_15, lit_16, lit_17, lit_18, lit_20, lit_24, lit_26, lit_30, lit_40, lit_45, lit_46, lit_47, lit_48, lit_60, lit_63, lit_64, lit_77, lit_100, lit_140, lit_168, lit_200, lit_300, lit_400, lit_900, lit_1000, lit_1168, lit_1997, lit_3333, lit_9999, lit_10000, nI_10, if_false, if_true, nn, e_memAt_n isB_3 hS, g])
theorem qn_hours {z : Nat} {X : pX} {s σ : Nat → Nat} {H : List sS} {K : Option sS} {T : List Int32} (hP : PS s σ) (hb : Bc X (s, σ) H K T) {m : Nat} (hm : m < s 2) : An (f_X7_memberOf z (nI m) (nI 7)) z X (nI (sA (dcN s m) 0 1200)) := by
  have hS : Rc X 3 s σ := hb.1
  have hB := hP.B
  have b1 := hP.W.n48
  have b2 := hP.W.m12
  have nn : ∀ i j : Nat, i < 20 → j < 20 → i ≠ j → (nI i = nI j) = False := fun i j hi hj h => eq_false (fun e => h ((nI_eq (by omega) (by omega)).mp e))
  have w4 : f_X7_isRole (nI 7) (hp z X) = some (nI 0, hp z X) := e_ro_f (by decide)
  obtain ⟨V1, g1, g2, g3, g4⟩ := e7_hours (z := z) hP hm hS hb.2.1
  exact ⟨V1, by simp (config := {maxSteps := 1000000}) (disch := first | assumption | omega) only [f_X7_memberOf, w4, m_rx0, m_rx1, m_rx2, m_rx3, m_rx4, m_ix, m_iO isB_3, m_iO isB_184, m_iO isB_365, m_iH, m_iX, m_iD, e_wi_t, e_wi_f, e_ro_t, e_ro_f, zbool_0, zbool_1, zb2_s, zif_t, zopt_n, zopt_s, b_s, znm_e, lit_0, lit_1, lit_2, lit_3, lit_4, lit_5, lit_6, lit_7, lit_8, lit_9, lit_10, lit_11, lit_12, lit_13, lit_14, lit_15, lit_16, lit_17, lit_18, lit_20, lit_24, lit_26, lit_30, lit_40, lit_45, lit_46, lit_47, lit_48, lit_60, lit_63, lit_64, lit_77, lit_100, lit_140, lit_168, lit_200, lit_300, lit_400, lit_900, lit_1000, lit_1168, lit_1997, lit_3333, lit_9999, lit_10000, nI_10, if_false, if_true, nn, e_memAt_n isB_3 hS, g1, m_gD1, g4], g2, g3⟩
theorem qn_cov {z : Nat} {X : pX} {s σ : Nat → Nat} {H : List sS} {K : Option sS} {T : List Int32} (hP : PS s σ) (hb : Bc X (s, σ) H K T) {m : Nat} (hm : m < s 2) : An (f_X7_memberOf z (nI m) (nI 8)) z X (nI (s (969 + 6 * m + 5))) := by
  have hS : Rc X 3 s σ := hb.1
  have hB := hP.B
  have b1 := hP.W.n48
  have b2 := hP.W.m12
  have nn : ∀ i j : Nat, i < 20 → j < 20 → i ≠ j → (nI i = nI j) = False := fun i j hi hj h => eq_false (fun e => h ((nI_eq (by omega) (by omega)).mp e))
  have hM := hS.2.1.2.2.1 m (by omega)
  have w4 : f_X7_isRole (nI 8) (hp z X) = some (nI 0, hp z X) := e_ro_f (by decide)
  exact an_0 hb (by simp (config := {maxSteps := 1000000}) (disch := first | assumption | omega) only [f_X7_memberOf, w4, m_rx0, m_rx1, m_rx2, m_rx3, m_rx4, m_ix, m_iO isB_3, m_iO isB_184, m_iO isB_365, m_iH, m_iX, m_iD, e_wi_t, e_wi_f, e_ro_t, e_ro_f, zbool_0, zbool_1, zb2_s, zif_t, zopt_n, zopt_s, b_s, znm_e, lit_0, lit_1, lit_2, lit_3, lit_4, lit_5, lit_6, lit_7, lit_8, lit_9, lit_10, lit_11, lit_12, lit_13, lit_14, lit_15, lit_16, lit_17, lit_18, lit_20, lit_24, lit_26, lit_30, lit_40, lit_45, lit_46, lit_47, lit_48, lit_60, lit_63, lit_64, lit_77, lit_100, lit_140, lit_168, lit_200, lit_300, lit_400, lit_900, lit_1000, lit_1168, lit_1997, lit_3333, lit_9999, lit_10000, nI_10, if_false, if_true, nn, e_memAt_n isB_3 hS, m_gM2 isB_3, hM.2.2])
/-- the next open sailing of a member -/
def nxN (s : Nat → Nat) (m : Nat) : Option Nat := bsF (fun k => recS s k 2) (fun k => decide (recS s k 5 = 0 ∧ recS s k (20 + m) ≠ 0)) 0 (s 1) none
theorem qn_next {z : Nat} {X : pX} {s σ : Nat → Nat} {H : List sS} {K : Option sS} {T : List Int32} (hP : PS s σ) (hb : Bc X (s, σ) H K T) {m : Nat} (hm : m < s 2) : An (f_X7_memberOf z (nI m) (nI 9)) z X (oI (nxN s m)) := by
  have hS : Rc X 3 s σ := hb.1
  have hB := hP.B
  have b1 := hP.W.n48
  have b2 := hP.W.m12
  have nn : ∀ i j : Nat, i < 20 → j < 20 → i ≠ j → (nI i = nI j) = False := fun i j hi hj h => eq_false (fun e => h ((nI_eq (by omega) (by omega)).mp e))
  have g := e_next (z := z) isB_3 hS.1 hS.2.1 hS.2.2.1.K (m := m) (by omega)
  rw [first_eq hP (q := fun k => decide (recS s k 5 = 0 ∧ recS s k (20 + m) ≠ 0)) (fun r hr => by rw [UU_lt hr]) (fun r a _ => by rw [UU_ge a, emp5]; exact decide_eq_false (fun e => absurd e.1 (by decide)))] at g
  have w4 : f_X7_isRole (nI 9) (hp z X) = some (nI 0, hp z X) := e_ro_f (by decide)
  exact an_0 hb (by simp (config := {maxSteps := 1000000}) (disch := first | assumption | omega) only [f_X7_memberOf, w4, m_rx0, m_rx1, m_rx2, m_rx3, m_rx4, m_ix, m_iO isB_3, m_iO isB_184, m_iO isB_365, m_iH, m_iX, m_iD, e_wi_t, e_wi_f, e_ro_t, e_ro_f, zbool_0, zbool_1, zb2_s, zif_t, zopt_n, zopt_s, b_s, znm_e, lit_0, lit_1, lit_2, lit_3, lit_4, lit_5, lit_6, lit_7, lit_8, lit_9, lit_10, lit_11, lit_12, lit_13, lit_14, lit_15, lit_16, lit_17, lit_18, lit_20, lit_24, lit_26, lit_30, lit_40, lit_45, lit_46, lit_47, lit_48, lit_60, lit_63, lit_64, lit_77, lit_100, lit_140, lit_168, lit_200, lit_300, lit_400, lit_900, lit_1000, lit_1168, lit_1997, lit_3333, lit_9999, lit_10000, nI_10, if_false, if_true, nn, e_memAt_n isB_3 hS, g]; rfl)
theorem qn_memx {z : Nat} {X : pX} {s σ : Nat → Nat} {H : List sS} {K : Option sS} {T : List Int32} (hP : PS s σ) (hb : Bc X (s, σ) H K T) {m : Nat} (hm : s 2 ≤ m) (hm2 : m < 2 ^ 31) (w : Int32) : An (f_X7_memberOf z (nI m) w) z X (-nI 1) := by
  have hS : Rc X 3 s σ := hb.1
  have hB := hP.B
  have b1 := hP.W.n48
  have b2 := hP.W.m12
  have c1 : ¬ (nI 0 ≤ nI m ∧ nI m < nI (s 2)) := fun e => by have := (nI_ltI hm2 (by omega)).mp e.2; omega
  exact an_0 hb (by simp (disch := first | assumption | omega) only [f_X7_memberOf, m_rx0, m_rx1, m_rx2, m_rx3, m_rx4, m_ix, m_iO isB_3, m_iO isB_184, m_iO isB_365, m_iH, m_iX, m_iD, e_wi_t, e_wi_f, e_ro_t, e_ro_f, zbool_0, zbool_1, zb2_s, zif_t, zopt_n, zopt_s, b_s, znm_e, lit_0, lit_1, lit_2, lit_3, lit_4, lit_5, lit_6, lit_7, lit_8, lit_9, lit_10, lit_11, lit_12, lit_13, lit_14, lit_15, lit_16, lit_17, lit_18, lit_20, lit_24, lit_26, lit_30, lit_40, lit_45, lit_46, lit_47, lit_48, lit_60, lit_63, lit_64, lit_77, lit_100, lit_140, lit_168, lit_200, lit_300, lit_400, lit_900, lit_1000, lit_1168, lit_1997, lit_3333, lit_9999, lit_10000, nI_10, if_false, if_true, e_memAt_x isB_3 hS c1])
theorem qn_lad {z : Nat} {X : pX} {s σ : Nat → Nat} {H : List sS} {K : Option sS} {T : List Int32} (hP : PS s σ) (hb : Bc X (s, σ) H K T) {q k : Nat} (hq : q < 4) (hk : k < 2 ^ 31) : An (f_X7_ladder z (nI q) (nI k)) z X (oI (lsS s q)[k]?) := by
  have hS : Rc X 3 s σ := hb.1
  have hB := hP.B
  have b1 := hP.W.n48
  have b2 := hP.W.m12
  have c2 : nI 0 ≤ nI k := nI_le (Nat.zero_le _) hk
  have g1 := e_lRank (z := z) isB_3 hq (hS.2.1.2.2.2 q hq) (hS.2.2.2.2 q hq).1 hk
  exact an_0 hb (by simp (disch := first | assumption | omega) only [f_X7_ladder, m_rx0, m_rx1, m_rx2, m_rx3, m_rx4, m_ix, m_iO isB_3, m_iO isB_184, m_iO isB_365, m_iH, m_iX, m_iD, e_wi_t, e_wi_f, e_ro_t, e_ro_f, zbool_0, zbool_1, zb2_s, zif_t, zopt_n, zopt_s, b_s, znm_e, lit_0, lit_1, lit_2, lit_3, lit_4, lit_5, lit_6, lit_7, lit_8, lit_9, lit_10, lit_11, lit_12, lit_13, lit_14, lit_15, lit_16, lit_17, lit_18, lit_20, lit_24, lit_26, lit_30, lit_40, lit_45, lit_46, lit_47, lit_48, lit_60, lit_63, lit_64, lit_77, lit_100, lit_140, lit_168, lit_200, lit_300, lit_400, lit_900, lit_1000, lit_1168, lit_1997, lit_3333, lit_9999, lit_10000, nI_10, if_false, if_true, e_ladOf_n isB_3 hS, m_iL isB_3, c2, g1])
theorem qn_rest {z : Nat} {X : pX} {s σ : Nat → Nat} {H : List sS} {K : Option sS} {T : List Int32} (hP : PS s σ) (hb : Bc X (s, σ) H K T) {m a N : Nat} (hm : m < s 2) (ha : a ≤ 1000) (h1 : 1 ≤ N) (h2 : N ≤ 168) : An (f_X7_rest z (nI m) (nI a) (nI N)) z X (nI (cA (fD (dcN s m)) a N)) := by
  have hS : Rc X 3 s σ := hb.1
  have hB := hP.B
  have b1 := hP.W.n48
  have b2 := hP.W.m12
  have c2 : nI 0 ≤ nI a ∧ nI a ≤ nI 1000 := wi_n (by omega) ha (by omega)
  have c3 : nI 1 ≤ nI N ∧ nI N ≤ nI 168 := wi_n h1 h2 (by omega)
  obtain ⟨V1, g1, g2, g3, g4⟩ := e_duties0 (z := z) isB_3 hS (m := m) (by omega) hb.2.1
  have g5 := e_restIn (z := z) (X := (V1, X.2)) g3 g4 (a := a) (N := N) (by omega)
  rw [fB_fD hP hm] at g5
  exact ⟨V1, by simp (disch := first | assumption | omega) only [f_X7_rest, m_rx0, m_rx1, m_rx2, m_rx3, m_rx4, m_ix, m_iO isB_3, m_iO isB_184, m_iO isB_365, m_iH, m_iX, m_iD, e_wi_t, e_wi_f, e_ro_t, e_ro_f, zbool_0, zbool_1, zb2_s, zif_t, zopt_n, zopt_s, b_s, znm_e, lit_0, lit_1, lit_2, lit_3, lit_4, lit_5, lit_6, lit_7, lit_8, lit_9, lit_10, lit_11, lit_12, lit_13, lit_14, lit_15, lit_16, lit_17, lit_18, lit_20, lit_24, lit_26, lit_30, lit_40, lit_45, lit_46, lit_47, lit_48, lit_60, lit_63, lit_64, lit_77, lit_100, lit_140, lit_168, lit_200, lit_300, lit_400, lit_900, lit_1000, lit_1168, lit_1997, lit_3333, lit_9999, lit_10000, nI_10, if_false, if_true, e_memAt_n isB_3 hS, g1, g5], g2, _, g3, g4⟩
theorem qn_least {z : Nat} {X : pX} {s σ : Nat → Nat} {H : List sS} {K : Option sS} {T : List Int32} (hP : PS s σ) (hb : Bc X (s, σ) H K T) {m : Nat} (hm : m < s 2) : An (f_X7_leastRest z (nI m) (nI 0)) z X (nI (lrL (fD (dcN s m)) 1 1000 (cA (fD (dcN s m)) 0 24))) ∧ An (f_X7_leastRest z (nI m) (nI 1)) z X (nI (lrB (fD (dcN s m)) 1 1000 (cA (fD (dcN s m)) 0 24) 0)) ∧ An (f_X7_leastRest z (nI m) (nI 2)) z X (nI (lrG (fD (dcN s m)) 1 1000 (lgL (fD (dcN s m)) 0 24 0 0))) := by
  have hS : Rc X 3 s σ := hb.1
  have hB := hP.B
  have b1 := hP.W.n48
  have b2 := hP.W.m12
  obtain ⟨V1, g1, g2, g3, g4⟩ := e_duties0 (z := z) isB_3 hS (m := m) (by omega) hb.2.1
  have hen := fun t => fD_en (t := t) hP hm
  have hhi := fun t => fD_hi (t := t) hB (m := m)
  have l1 := least_first (en := (dAll (UU s σ) (s 7) (selD (UU s σ) m none)).2.2.1) hen hhi
  have l2 := least_long (en := (dAll (UU s σ) (s 7) (selD (UU s σ) m none)).2.2.1) hen hhi
  have g5 := e_fh (z := z) (X := (V1, X.2)) g3 g4
  have g6 := e_lLR (z := z) (X := (V1, X.2)) g3 g4
  have hfl := fhL_le (f := fB (dAll (UU s σ) (s 7) (selD (UU s σ) m none))) (dAll (UU s σ) (s 7) (selD (UU s σ) m none)).2.2.1 0 (cA (fB (dAll (UU s σ) (s 7) (selD (UU s σ) m none))) 0 24) 0 1168 (by omega) (by have := g4.2.1; omega)
  have g7 := e_restIn (z := z) (X := (V1, X.2)) g3 g4 (a := fhL (fB (dAll (UU s σ) (s 7) (selD (UU s σ) m none))) 0 (dAll (UU s σ) (s 7) (selD (UU s σ) m none)).2.2.1 (cA (fB (dAll (UU s σ) (s 7) (selD (UU s σ) m none))) 0 24) 0) (N := 24) (by omega)
  rw [fB_fD hP hm] at g5 g6 g7
  rw [← l1.2, l1.1] at g7
  rw [l1.1] at g5
  rw [l2] at g6
  have d0 : nI 0 ≤ nI 0 ∧ nI 0 ≤ nI 2 := by decide
  have d1 : nI 0 ≤ nI 1 ∧ nI 1 ≤ nI 2 := by decide
  have d2 : nI 0 ≤ nI 2 ∧ nI 2 ≤ nI 2 := by decide
  refine ⟨⟨V1, ?_, g2, _, g3, g4⟩, ⟨V1, ?_, g2, _, g3, g4⟩, ⟨V1, ?_, g2, _, g3, g4⟩⟩
  · have n1 : (nI 0 = nI 1) = False := eq_false (by decide)
    have n2 : (nI 0 = nI 2) = False := eq_false (by decide)
    simp (disch := first | assumption | omega) only [f_X7_leastRest, m_rx0, m_rx1, m_rx2, m_rx3, m_rx4, m_ix, m_iO isB_3, m_iO isB_184, m_iO isB_365, m_iH, m_iX, m_iD, e_wi_t, e_wi_f, e_ro_t, e_ro_f, zbool_0, zbool_1, zb2_s, zif_t, zopt_n, zopt_s, b_s, znm_e, lit_0, lit_1, lit_2, lit_3, lit_4, lit_5, lit_6, lit_7, lit_8, lit_9, lit_10, lit_11, lit_12, lit_13, lit_14, lit_15, lit_16, lit_17, lit_18, lit_20, lit_24, lit_26, lit_30, lit_40, lit_45, lit_46, lit_47, lit_48, lit_60, lit_63, lit_64, lit_77, lit_100, lit_140, lit_168, lit_200, lit_300, lit_400, lit_900, lit_1000, lit_1168, lit_1997, lit_3333, lit_9999, lit_10000, nI_10, if_false, if_true, e_memAt_n isB_3 hS, g1, n1, n2, g5]
    rw [l1.1] at l1
    simp (disch := first | assumption | omega) only [m_rx0, m_rx1, m_rx2, m_rx3, m_rx4, m_ix, m_iO isB_3, m_iO isB_184, m_iO isB_365, m_iH, m_iX, m_iD, e_wi_t, e_wi_f, e_ro_t, e_ro_f, zbool_0, zbool_1, zb2_s, zif_t, zopt_n, zopt_s, b_s, znm_e, lit_0, lit_1, lit_2, lit_3, lit_4, lit_5, lit_6, lit_7, lit_8, lit_9, lit_10, lit_11, lit_12, lit_13, lit_14, lit_15, lit_16, lit_17, lit_18, lit_20, lit_24, lit_26, lit_30, lit_40, lit_45, lit_46, lit_47, lit_48, lit_60, lit_63, lit_64, lit_77, lit_100, lit_140, lit_168, lit_200, lit_300, lit_400, lit_900, lit_1000, lit_1168, lit_1997, lit_3333, lit_9999, lit_10000, nI_10, if_false, if_true, g7]
  · have n2 : (nI 1 = nI 2) = False := eq_false (by decide)
    simp (disch := first | assumption | omega) only [f_X7_leastRest, m_rx0, m_rx1, m_rx2, m_rx3, m_rx4, m_ix, m_iO isB_3, m_iO isB_184, m_iO isB_365, m_iH, m_iX, m_iD, e_wi_t, e_wi_f, e_ro_t, e_ro_f, zbool_0, zbool_1, zb2_s, zif_t, zopt_n, zopt_s, b_s, znm_e, lit_0, lit_1, lit_2, lit_3, lit_4, lit_5, lit_6, lit_7, lit_8, lit_9, lit_10, lit_11, lit_12, lit_13, lit_14, lit_15, lit_16, lit_17, lit_18, lit_20, lit_24, lit_26, lit_30, lit_40, lit_45, lit_46, lit_47, lit_48, lit_60, lit_63, lit_64, lit_77, lit_100, lit_140, lit_168, lit_200, lit_300, lit_400, lit_900, lit_1000, lit_1168, lit_1997, lit_3333, lit_9999, lit_10000, nI_10, if_false, if_true, e_memAt_n isB_3 hS, g1, n2, g5]
  · simp (disch := first | assumption | omega) only [f_X7_leastRest, m_rx0, m_rx1, m_rx2, m_rx3, m_rx4, m_ix, m_iO isB_3, m_iO isB_184, m_iO isB_365, m_iH, m_iX, m_iD, e_wi_t, e_wi_f, e_ro_t, e_ro_f, zbool_0, zbool_1, zb2_s, zif_t, zopt_n, zopt_s, b_s, znm_e, lit_0, lit_1, lit_2, lit_3, lit_4, lit_5, lit_6, lit_7, lit_8, lit_9, lit_10, lit_11, lit_12, lit_13, lit_14, lit_15, lit_16, lit_17, lit_18, lit_20, lit_24, lit_26, lit_30, lit_40, lit_45, lit_46, lit_47, lit_48, lit_60, lit_63, lit_64, lit_77, lit_100, lit_140, lit_168, lit_200, lit_300, lit_400, lit_900, lit_1000, lit_1168, lit_1997, lit_3333, lit_9999, lit_10000, nI_10, if_false, if_true, e_memAt_n isB_3 hS, g1, g6]
theorem qn_over {z : Nat} {X : pX} {s σ : Nat → Nat} {H : List sS} {K : Option sS} {T : List Int32} (hP : PS s σ) (hb : Bc X (s, σ) H K T) {m k : Nat} (hm : m < s 2) (hk : k < 6) : An (f_X7_overtime z (nI m) (nI k)) z X (nI (hbM s m k)) := by
  have hS : Rc X 3 s σ := hb.1
  have hB := hP.B
  have b1 := hP.W.n48
  have b2 := hP.W.m12
  have c2 : nI 0 ≤ nI k ∧ nI k ≤ nI 5 := wi_n (by omega) (by omega) (by omega)
  obtain ⟨V1, g1, g2, g3, g4⟩ := e_duties0 (z := z) isB_3 hS (m := m) (by omega) hb.2.1
  have g5 := e_beyond (z := z) (X := (V1, X.2)) isB_3 (hS.kd g2) g3 g4 (k := k) (by omega)
  rw [bey_eq hP hm] at g5
  exact ⟨V1, by simp (disch := first | assumption | omega) only [f_X7_overtime, m_rx0, m_rx1, m_rx2, m_rx3, m_rx4, m_ix, m_iO isB_3, m_iO isB_184, m_iO isB_365, m_iH, m_iX, m_iD, e_wi_t, e_wi_f, e_ro_t, e_ro_f, zbool_0, zbool_1, zb2_s, zif_t, zopt_n, zopt_s, b_s, znm_e, lit_0, lit_1, lit_2, lit_3, lit_4, lit_5, lit_6, lit_7, lit_8, lit_9, lit_10, lit_11, lit_12, lit_13, lit_14, lit_15, lit_16, lit_17, lit_18, lit_20, lit_24, lit_26, lit_30, lit_40, lit_45, lit_46, lit_47, lit_48, lit_60, lit_63, lit_64, lit_77, lit_100, lit_140, lit_168, lit_200, lit_300, lit_400, lit_900, lit_1000, lit_1168, lit_1997, lit_3333, lit_9999, lit_10000, nI_10, if_false, if_true, e_memAt_n isB_3 hS, g1, g5], g2, _, g3, g4⟩
theorem qn_why {z : Nat} {X : pX} {s σ : Nat → Nat} {H : List sS} {K : Option sS} {T : List Int32} (hP : PS s σ) (hb : Bc X (s, σ) H K T) {m k q : Nat} (hm : m < s 2) (hk : k < s 1) (hq : q < 4) : An (f_X7_why z (nI m) (nI k) (nI q)) z X (nI (rsnM s m k q)) := by
  have hS : Rc X 3 s σ := hb.1
  have hB := hP.B
  have b1 := hP.W.n48
  have b2 := hP.W.m12
  obtain ⟨r, hr, hrk, hat⟩ := at_n hP hk
  have c3 : nI 0 ≤ nI q ∧ nI q < nI 4 := ⟨nI_le (Nat.zero_le _) (by omega), nI_lt hq (by omega)⟩
  obtain ⟨V1, g1, g2, g3⟩ := e_reason (z := z) isB_3 hS (m := m) (r := r) (q := q) hm (by omega) hq hb.2.1
  rw [rsn_eq hP hm hr hq, hrk] at g1
  exact ⟨V1, by simp (disch := first | assumption | omega) only [f_X7_why, m_rx0, m_rx1, m_rx2, m_rx3, m_rx4, m_ix, m_iO isB_3, m_iO isB_184, m_iO isB_365, m_iH, m_iX, m_iD, e_wi_t, e_wi_f, e_ro_t, e_ro_f, zbool_0, zbool_1, zb2_s, zif_t, zopt_n, zopt_s, b_s, znm_e, lit_0, lit_1, lit_2, lit_3, lit_4, lit_5, lit_6, lit_7, lit_8, lit_9, lit_10, lit_11, lit_12, lit_13, lit_14, lit_15, lit_16, lit_17, lit_18, lit_20, lit_24, lit_26, lit_30, lit_40, lit_45, lit_46, lit_47, lit_48, lit_60, lit_63, lit_64, lit_77, lit_100, lit_140, lit_168, lit_200, lit_300, lit_400, lit_900, lit_1000, lit_1168, lit_1997, lit_3333, lit_9999, lit_10000, nI_10, if_false, if_true, e_sa_n isB_3 hS hP hat, e_memAt_n isB_3 hS, g1], g2, g3⟩
/-- the law's last three -/
theorem qn_end {z : Nat} {X : pX} {s σ : Nat → Nat} {H : List sS} {K : Option sS} {T : List Int32} (hP : PS s σ) (hb : Bc X (s, σ) H K T) : An (f_X7_why z (-nI 1) (nI 0) (nI 0)) z X (-nI 1) ∧ An (f_X7_rest z (nI 12) (nI 0) (nI 1)) z X (-nI 1) ∧ An (f_X7_ladder z (nI 0) (-nI 1)) z X (-nI 2) := by
  have hS : Rc X 3 s σ := hb.1
  have hB := hP.B
  have b1 := hP.W.n48
  have b2 := hP.W.m12
  have c1 : ¬ (nI 0 ≤ -nI 1 ∧ -nI 1 < nI (s 2)) := fun e => absurd e.1 (by decide)
  have c2 : ¬ (nI 0 ≤ nI 12 ∧ nI 12 < nI (s 2)) := fun e => by have := (nI_ltI (by omega) (by omega)).mp e.2; omega
  have c3 : ¬ nI 0 ≤ -nI 1 := by decide
  refine ⟨?_, an_0 hb ?_, an_0 hb ?_⟩
  · by_cases d : nI 0 ≤ nI 0 ∧ nI 0 < nI (s 1)
    · have d2 := (nI_ltI (by omega) (by omega)).mp d.2
      obtain ⟨r, hr, hrk, hat⟩ := at_n hP d2
      exact an_0 hb (by simp (disch := first | assumption | omega) only [f_X7_why, m_rx0, m_rx1, m_rx2, m_rx3, m_rx4, m_ix, m_iO isB_3, m_iO isB_184, m_iO isB_365, m_iH, m_iX, m_iD, e_wi_t, e_wi_f, e_ro_t, e_ro_f, zbool_0, zbool_1, zb2_s, zif_t, zopt_n, zopt_s, b_s, znm_e, lit_0, lit_1, lit_2, lit_3, lit_4, lit_5, lit_6, lit_7, lit_8, lit_9, lit_10, lit_11, lit_12, lit_13, lit_14, lit_15, lit_16, lit_17, lit_18, lit_20, lit_24, lit_26, lit_30, lit_40, lit_45, lit_46, lit_47, lit_48, lit_60, lit_63, lit_64, lit_77, lit_100, lit_140, lit_168, lit_200, lit_300, lit_400, lit_900, lit_1000, lit_1168, lit_1997, lit_3333, lit_9999, lit_10000, nI_10, if_false, if_true, e_sa_n isB_3 hS hP hat, e_memAt_x isB_3 hS c1])
    · exact an_0 hb (by simp (disch := first | assumption | omega) only [f_X7_why, m_rx0, m_rx1, m_rx2, m_rx3, m_rx4, m_ix, m_iO isB_3, m_iO isB_184, m_iO isB_365, m_iH, m_iX, m_iD, e_wi_t, e_wi_f, e_ro_t, e_ro_f, zbool_0, zbool_1, zb2_s, zif_t, zopt_n, zopt_s, b_s, znm_e, lit_0, lit_1, lit_2, lit_3, lit_4, lit_5, lit_6, lit_7, lit_8, lit_9, lit_10, lit_11, lit_12, lit_13, lit_14, lit_15, lit_16, lit_17, lit_18, lit_20, lit_24, lit_26, lit_30, lit_40, lit_45, lit_46, lit_47, lit_48, lit_60, lit_63, lit_64, lit_77, lit_100, lit_140, lit_168, lit_200, lit_300, lit_400, lit_900, lit_1000, lit_1168, lit_1997, lit_3333, lit_9999, lit_10000, nI_10, if_false, if_true, e_sa_x isB_3 hS hP d, e_memAt_x isB_3 hS c1])
  · simp (disch := first | assumption | omega) only [f_X7_rest, m_rx0, m_rx1, m_rx2, m_rx3, m_rx4, m_ix, m_iO isB_3, m_iO isB_184, m_iO isB_365, m_iH, m_iX, m_iD, e_wi_t, e_wi_f, e_ro_t, e_ro_f, zbool_0, zbool_1, zb2_s, zif_t, zopt_n, zopt_s, b_s, znm_e, lit_0, lit_1, lit_2, lit_3, lit_4, lit_5, lit_6, lit_7, lit_8, lit_9, lit_10, lit_11, lit_12, lit_13, lit_14, lit_15, lit_16, lit_17, lit_18, lit_20, lit_24, lit_26, lit_30, lit_40, lit_45, lit_46, lit_47, lit_48, lit_60, lit_63, lit_64, lit_77, lit_100, lit_140, lit_168, lit_200, lit_300, lit_400, lit_900, lit_1000, lit_1168, lit_1997, lit_3333, lit_9999, lit_10000, nI_10, if_false, if_true, e_memAt_x isB_3 hS c2]
  · simp (disch := first | assumption | omega) only [f_X7_ladder, m_rx0, m_rx1, m_rx2, m_rx3, m_rx4, m_ix, m_iO isB_3, m_iO isB_184, m_iO isB_365, m_iH, m_iX, m_iD, e_wi_t, e_wi_f, e_ro_t, e_ro_f, zbool_0, zbool_1, zb2_s, zif_t, zopt_n, zopt_s, b_s, znm_e, lit_0, lit_1, lit_2, lit_3, lit_4, lit_5, lit_6, lit_7, lit_8, lit_9, lit_10, lit_11, lit_12, lit_13, lit_14, lit_15, lit_16, lit_17, lit_18, lit_20, lit_24, lit_26, lit_30, lit_40, lit_45, lit_46, lit_47, lit_48, lit_60, lit_63, lit_64, lit_77, lit_100, lit_140, lit_168, lit_200, lit_300, lit_400, lit_900, lit_1000, lit_1168, lit_1997, lit_3333, lit_9999, lit_10000, nI_10, if_false, if_true, e_ladOf_n isB_3 hS, c3]
