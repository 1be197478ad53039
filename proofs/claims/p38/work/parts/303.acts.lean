/-! p38: the calls that change; each of them does the same wherever its State lies -/
def Ac (N M : Int32 → Prop) (F : zHp → Option (Int32 × zHp)) (z : Nat) (p : sS) : Prop :=
  (∃ r : Int32, N r ∧ ∀ X H K T, Bc X p H K T → ∃ V1, F (hp z X) = some (r, hp z (V1, X.2)) ∧ KpT X.1 V1 ∧ DuE V1) ∨
  ∃ r p', M r ∧ Iv p' ∧ ∀ X H K T, Bc X p H K T → ∃ X1, F (hp z X) = some (r, hp z X1) ∧ (∀ o, 1278 ≤ o → X1.1 o = X.1 o) ∧ Bc X1 p' (rec4 H p) K T
def Ng (r : Int32) : Prop := r < nI 0
def Nn (r : Int32) : Prop := nI 0 ≤ r
def Ze (r : Int32) : Prop := r = nI 0
theorem ac_0 {F : zHp → Option (Int32 × zHp)} {z : Nat} {p : sS} {N M : Int32 → Prop} {r : Int32} (hr : N r) (h : ∀ X H K T, Bc X p H K T → F (hp z X) = some (r, hp z X)) : Ac N M F z p :=
  Or.inl ⟨r, hr, fun X H K T hb => ⟨X.1, h X H K T hb, KpT.rf, hb.2.1⟩⟩
theorem ac_w {F : zHp → Option (Int32 × zHp)} {z : Nat} {p p' : sS} {N M : Int32 → Prop} {r : Int32} (hr : M r) (hI : Iv p') (h : ∀ X H K T, Bc X p H K T → ∃ X1, F (hp z X) = some (r, hp z X1) ∧ (∀ o, 1278 ≤ o → X1.1 o = X.1 o) ∧ Bc X1 p' (rec4 H p) K T) : Ac N M F z p := Or.inr ⟨r, p', hr, hI, h⟩
theorem nn0 {a : Nat} (h : a < 2 ^ 31) : Nn (nI a) := nI_le (Nat.zero_le _) h
theorem ng1 : Ng (-nI 1) := by unfold Ng; decide
theorem ng2 : Ng (-nI 2) := by unfold Ng; decide
theorem ng3 : Ng (-nI 3) := by unfold Ng; decide
theorem ng4 : Ng (-nI 4) := by unfold Ng; decide
theorem ng5 : Ng (-nI 5) := by unfold Ng; decide
theorem ac_cancel {z : Nat} {s σ : Nat → Nat} (hI : Iv (s, σ)) (a1 : Int32) : Ac Ng Nn (f_X7_cancel z a1) z (s, σ) := by
  have hP : PS s σ := hI.1
  have hC : Cv s := hI.2
  have hB := hP.B
  have b1 := hP.W.n48
  have b2 := hP.W.m12
  by_cases c1 : nI 0 ≤ a1 ∧ a1 < nI (s 1)
  · obtain ⟨k, hk, rfl⟩ := in_ex c1 (by omega)
    obtain ⟨r, hr1, hrk, hat⟩ := at_n hP hk
    have hk48 : k < 48 := by omega
    have hG := rec_G hP.W hk48 (hP.1.2.1 k hk)
    have eU : UU s σ r = recS s k := by rw [UU_lt hr1, hrk]
    have e1 : tkU (UU s σ r) = tkO s k := by rw [eU, tkU_O hP.W hk48]
    by_cases c2 : recS s k 5 = 0
    · obtain ⟨o1, o2, o3, o4⟩ := off_ok hP hr1 (by rw [hrk]; exact c2)
      rw [hrk] at o1 o2 o3 o4
      have tl := tkO_le hB k
      refine ac_w (p' := (clrM (updN s (9 + 8 * k + 0) 2) k 12, σ)) (r := nI (tkO s k)) (nn0 (by omega)) ⟨o1, Cv_off hP hC hk⟩ (fun X H K T hb => ?_)
      have hS : Rc X 3 s σ := hb.1
      have hw1 := hS.1.1 r (by omega)
      have g0 := e_isOpen (z := z) isB_3 hw1 (hS.2.1.2.1 r (by omega)) (by rw [eU]; exact hG.1.1)
      rw [eU, bI_t (decide_eq_true c2)] at g0
      obtain ⟨V1, t1, q1, q2, q3⟩ := c_rec (z := z) hb
      obtain ⟨V2, g1, g2, g3, g4⟩ := e_off (z := z) (X := (V1, X.2.1, t1)) isB_3 q3.1 (r := r) (by omega) q3.2.1
      dsimp only at g1
      rw [e1] at g1
      exact ⟨(V2, X.2.1, t1), by simp (disch := first | assumption | omega) only [f_X7_cancel, m_rx0, m_rx1, m_rx2, m_rx3, m_rx4, m_ix, m_iO isB_3, m_iO isB_184, m_iO isB_365, m_iH, m_iX, m_iD, e_wi_t, e_wi_f, e_ro_t, e_ro_f, zbool_0, zbool_1, zb2_s, zif_t, zopt_n, zopt_s, b_s, znm_e, lit_0, lit_1, lit_2, lit_3, lit_4, lit_5, lit_6, lit_7, lit_8, lit_9, lit_10, lit_11, lit_12, lit_13, lit_14, lit_15, lit_16, lit_17, lit_18, lit_20, lit_24, lit_26, lit_30, lit_40, lit_45, lit_46, lit_47, lit_48, lit_60, lit_63, lit_64, lit_77, lit_100, lit_140, lit_168, lit_200, lit_300, lit_400, lit_900, lit_1000, lit_1168, lit_1997, lit_3333, lit_9999, lit_10000, nI_10, if_false, if_true, e_sa_n isB_3 hS hP hat, m_iS isB_3, g0, q1, g1], fun o ho => (g2 o (by omega) (by omega) (by omega)).trans (q2 o (by omega)), q3.up g2 g3 g4 o1 o2 o3 o4⟩
    · refine ac_0 (r := -nI 4) ng4 (fun X H K T hb => ?_)
      have hS : Rc X 3 s σ := hb.1
      have hw1 := hS.1.1 r (by omega)
      have g0 := e_isOpen (z := z) isB_3 hw1 (hS.2.1.2.1 r (by omega)) (by rw [eU]; exact hG.1.1)
      rw [eU, bI_f (decide_eq_false c2)] at g0
      simp (disch := first | assumption | omega) only [f_X7_cancel, m_rx0, m_rx1, m_rx2, m_rx3, m_rx4, m_ix, m_iO isB_3, m_iO isB_184, m_iO isB_365, m_iH, m_iX, m_iD, e_wi_t, e_wi_f, e_ro_t, e_ro_f, zbool_0, zbool_1, zb2_s, zif_t, zopt_n, zopt_s, b_s, znm_e, lit_0, lit_1, lit_2, lit_3, lit_4, lit_5, lit_6, lit_7, lit_8, lit_9, lit_10, lit_11, lit_12, lit_13, lit_14, lit_15, lit_16, lit_17, lit_18, lit_20, lit_24, lit_26, lit_30, lit_40, lit_45, lit_46, lit_47, lit_48, lit_60, lit_63, lit_64, lit_77, lit_100, lit_140, lit_168, lit_200, lit_300, lit_400, lit_900, lit_1000, lit_1168, lit_1997, lit_3333, lit_9999, lit_10000, nI_10, if_false, if_true, e_sa_n isB_3 hS hP hat, m_iS isB_3, g0]
  · exact ac_0 (r := -nI 1) (by unfold Ng; decide) (fun X H K T hb => (by have hS : Rc X 3 s σ := hb.1; simp (config := {maxSteps := 1000000}) (disch := first | assumption | omega) only [f_X7_cancel, e_sa_x isB_3 hS hP c1, m_rx0, m_rx1, m_rx2, m_rx3, m_rx4, m_ix, m_iO isB_3, m_iO isB_184, m_iO isB_365, m_iH, m_iX, m_iD, e_wi_t, e_wi_f, e_ro_t, e_ro_f, zbool_0, zbool_1, zb2_s, zif_t, zopt_n, zopt_s, b_s, znm_e, lit_0, lit_1, lit_2, lit_3, lit_4, lit_5, lit_6, lit_7, lit_8, lit_9, lit_10, lit_11, lit_12, lit_13, lit_14, lit_15, lit_16, lit_17, lit_18, lit_20, lit_24, lit_26, lit_30, lit_40, lit_45, lit_46, lit_47, lit_48, lit_60, lit_63, lit_64, lit_77, lit_100, lit_140, lit_168, lit_200, lit_300, lit_400, lit_900, lit_1000, lit_1168, lit_1997, lit_3333, lit_9999, lit_10000, nI_10, if_false, if_true]))
theorem ac_member {z : Nat} {s σ : Nat → Nat} (hI : Iv (s, σ)) (a1 a2 : Int32) : Ac Ng Nn (f_X7_member z a1 a2) z (s, σ) := by
  have hP : PS s σ := hI.1
  have hC : Cv s := hI.2
  have hB := hP.B
  have b1 := hP.W.n48
  have b2 := hP.W.m12
  by_cases c1 : nI 0 ≤ a1 ∧ a1 < nI 4
  · obtain ⟨q, hq, rfl⟩ := in_ex c1 (by omega)
    by_cases c2 : nI 0 ≤ a2 ∧ a2 ≤ nI 9999
    · obtain ⟨v, v0, v9, rfl⟩ := wi_ex c2 (by omega) (by omega)
      by_cases c3 : s 2 < 12
      · obtain ⟨o1, o2, o3, o4, o5⟩ := memb_eq (v := v) hP hq c3 (by omega)
        have eT : (s 2 < 12) = True := eq_true c3
        refine ac_w (p' := (memM s q v, σ)) (r := nI (s 2)) (nn0 (by omega)) ⟨o1, Cv_memb hP hC hq c3 o5⟩ (fun X H K T hb => ?_)
        have hS : Rc X 3 s σ := hb.1
        have s2 : X.1 3 4 = nI (s 2) := hS.2.1.1.2.2.1
        obtain ⟨V1, t1, q1, q2, q3⟩ := c_rec (z := z) hb
        obtain ⟨V2, g1, g2, g3, g4⟩ := e_addMem (z := z) (X := (V1, X.2.1, t1)) isB_3 q3.1 (q := q) (v := v) c3 hq (by omega) (hP.1.2.2.2.1 q hq).1 q3.2.1
        exact ⟨(V2, X.2.1, t1), by simp (disch := first | assumption | omega) only [f_X7_member, m_rx0, m_rx1, m_rx2, m_rx3, m_rx4, m_ix, m_iO isB_3, m_iO isB_184, m_iO isB_365, m_iH, m_iX, m_iD, e_wi_t, e_wi_f, e_ro_t, e_ro_f, zbool_0, zbool_1, zb2_s, zif_t, zopt_n, zopt_s, b_s, znm_e, lit_0, lit_1, lit_2, lit_3, lit_4, lit_5, lit_6, lit_7, lit_8, lit_9, lit_10, lit_11, lit_12, lit_13, lit_14, lit_15, lit_16, lit_17, lit_18, lit_20, lit_24, lit_26, lit_30, lit_40, lit_45, lit_46, lit_47, lit_48, lit_60, lit_63, lit_64, lit_77, lit_100, lit_140, lit_168, lit_200, lit_300, lit_400, lit_900, lit_1000, lit_1168, lit_1997, lit_3333, lit_9999, lit_10000, nI_10, if_false, if_true, m_gO4 isB_3, s2, nI_ltE, eT, q1, g1], fun o ho => (g2 o (by omega) (by omega) (by omega)).trans (q2 o (by omega)), q3.up g2 g3 g4 o1 o2 o3 o4⟩
      · have eT : (s 2 < 12) = False := eq_false c3
        refine ac_0 (r := -nI 3) ng3 (fun X H K T hb => ?_)
        have hS : Rc X 3 s σ := hb.1
        have s2 : X.1 3 4 = nI (s 2) := hS.2.1.1.2.2.1
        simp (disch := first | assumption | omega) only [f_X7_member, m_rx0, m_rx1, m_rx2, m_rx3, m_rx4, m_ix, m_iO isB_3, m_iO isB_184, m_iO isB_365, m_iH, m_iX, m_iD, e_wi_t, e_wi_f, e_ro_t, e_ro_f, zbool_0, zbool_1, zb2_s, zif_t, zopt_n, zopt_s, b_s, znm_e, lit_0, lit_1, lit_2, lit_3, lit_4, lit_5, lit_6, lit_7, lit_8, lit_9, lit_10, lit_11, lit_12, lit_13, lit_14, lit_15, lit_16, lit_17, lit_18, lit_20, lit_24, lit_26, lit_30, lit_40, lit_45, lit_46, lit_47, lit_48, lit_60, lit_63, lit_64, lit_77, lit_100, lit_140, lit_168, lit_200, lit_300, lit_400, lit_900, lit_1000, lit_1168, lit_1997, lit_3333, lit_9999, lit_10000, nI_10, if_false, if_true, m_gO4 isB_3, s2, nI_ltE, eT]
    · exact ac_0 (r := -nI 2) (by unfold Ng; decide) (fun X H K T hb => (by have hS : Rc X 3 s σ := hb.1; simp (config := {maxSteps := 1000000}) (disch := first | assumption | omega) only [f_X7_member, m_rx0, m_rx1, m_rx2, m_rx3, m_rx4, m_ix, m_iO isB_3, m_iO isB_184, m_iO isB_365, m_iH, m_iX, m_iD, e_wi_t, e_wi_f, e_ro_t, e_ro_f, zbool_0, zbool_1, zb2_s, zif_t, zopt_n, zopt_s, b_s, znm_e, lit_0, lit_1, lit_2, lit_3, lit_4, lit_5, lit_6, lit_7, lit_8, lit_9, lit_10, lit_11, lit_12, lit_13, lit_14, lit_15, lit_16, lit_17, lit_18, lit_20, lit_24, lit_26, lit_30, lit_40, lit_45, lit_46, lit_47, lit_48, lit_60, lit_63, lit_64, lit_77, lit_100, lit_140, lit_168, lit_200, lit_300, lit_400, lit_900, lit_1000, lit_1168, lit_1997, lit_3333, lit_9999, lit_10000, nI_10, if_false, if_true]))
  · exact ac_0 (r := -nI 1) (by unfold Ng; decide) (fun X H K T hb => (by have hS : Rc X 3 s σ := hb.1; simp (config := {maxSteps := 1000000}) (disch := first | assumption | omega) only [f_X7_member, m_rx0, m_rx1, m_rx2, m_rx3, m_rx4, m_ix, m_iO isB_3, m_iO isB_184, m_iO isB_365, m_iH, m_iX, m_iD, e_wi_t, e_wi_f, e_ro_t, e_ro_f, zbool_0, zbool_1, zb2_s, zif_t, zopt_n, zopt_s, b_s, znm_e, lit_0, lit_1, lit_2, lit_3, lit_4, lit_5, lit_6, lit_7, lit_8, lit_9, lit_10, lit_11, lit_12, lit_13, lit_14, lit_15, lit_16, lit_17, lit_18, lit_20, lit_24, lit_26, lit_30, lit_40, lit_45, lit_46, lit_47, lit_48, lit_60, lit_63, lit_64, lit_77, lit_100, lit_140, lit_168, lit_200, lit_300, lit_400, lit_900, lit_1000, lit_1168, lit_1997, lit_3333, lit_9999, lit_10000, nI_10, if_false, if_true]))
theorem ac_certify {z : Nat} {s σ : Nat → Nat} (hI : Iv (s, σ)) (a1 a2 a3 : Int32) : Ac Ng Nn (f_X7_certify z a1 a2 a3) z (s, σ) := by
  have hP : PS s σ := hI.1
  have hC : Cv s := hI.2
  have hB := hP.B
  have b1 := hP.W.n48
  have b2 := hP.W.m12
  by_cases c1 : nI 0 ≤ a1 ∧ a1 < nI (s 2)
  · obtain ⟨m, hm, rfl⟩ := in_ex c1 (by omega)
    have hm12 : m < 12 := by omega
    by_cases c2 : nI 0 ≤ a2 ∧ a2 < nI 4
    · obtain ⟨q, hq, rfl⟩ := in_ex c2 (by omega)
      by_cases c3 : nI 0 ≤ a3 ∧ a3 ≤ nI 9999
      · obtain ⟨v, v0, v9, rfl⟩ := wi_ex c3 (by omega) (by omega)
        cases c4 : oA (fun k => decide (recS s k 5 = 0 ∧ v < recS s k 3 ∧ recS s k (20 + m) = q + 1)) 0 (s 1) with
        | true =>
          refine ac_0 (r := -nI 4) ng4 (fun X H K T hb => ?_)
          have hS : Rc X 3 s σ := hb.1
          have g0 := e_needs (z := z) isB_3 hS (m := m) (q := q) (e := v) hm12 hq (by omega)
          rw [ndc_eq hP, bI_t c4] at g0
          simp (disch := first | assumption | omega) only [f_X7_certify, m_rx0, m_rx1, m_rx2, m_rx3, m_rx4, m_ix, m_iO isB_3, m_iO isB_184, m_iO isB_365, m_iH, m_iX, m_iD, e_wi_t, e_wi_f, e_ro_t, e_ro_f, zbool_0, zbool_1, zb2_s, zif_t, zopt_n, zopt_s, b_s, znm_e, lit_0, lit_1, lit_2, lit_3, lit_4, lit_5, lit_6, lit_7, lit_8, lit_9, lit_10, lit_11, lit_12, lit_13, lit_14, lit_15, lit_16, lit_17, lit_18, lit_20, lit_24, lit_26, lit_30, lit_40, lit_45, lit_46, lit_47, lit_48, lit_60, lit_63, lit_64, lit_77, lit_100, lit_140, lit_168, lit_200, lit_300, lit_400, lit_900, lit_1000, lit_1168, lit_1997, lit_3333, lit_9999, lit_10000, nI_10, if_false, if_true, e_memAt_n isB_3 hS, g0]
        | false =>
          obtain ⟨o1, o2, o3⟩ := upd_mem (q := q) (v := v) hP hm (by omega) (by omega)
          have l4 := hB.1.2.2.2.2 m hm12 q (by omega)
          refine ac_w (p' := (updN s (969 + 6 * m + q) v, σ)) (r := nI (s (969 + 6 * m + q))) (nn0 (by omega)) ⟨o1, Cv_cert hP hC hm12 hq c4⟩ (fun X H K T hb => ?_)
          have hS : Rc X 3 s σ := hb.1
          have g0 := e_needs (z := z) isB_3 hS (m := m) (q := q) (e := v) hm12 hq (by omega)
          rw [ndc_eq hP, bI_f c4] at g0
          obtain ⟨V1, t1, q1, q2, q3⟩ := c_rec (z := z) hb
          obtain ⟨V2, g1, g2, g3, g4⟩ := e_cert (z := z) (X := (V1, X.2.1, t1)) isB_3 q3.1 (m := m) (q := q) (v := v) hm12 hq (by omega) q3.2.1
          exact ⟨(V2, X.2.1, t1), by simp (disch := first | assumption | omega) only [f_X7_certify, m_rx0, m_rx1, m_rx2, m_rx3, m_rx4, m_ix, m_iO isB_3, m_iO isB_184, m_iO isB_365, m_iH, m_iX, m_iD, e_wi_t, e_wi_f, e_ro_t, e_ro_f, zbool_0, zbool_1, zb2_s, zif_t, zopt_n, zopt_s, b_s, znm_e, lit_0, lit_1, lit_2, lit_3, lit_4, lit_5, lit_6, lit_7, lit_8, lit_9, lit_10, lit_11, lit_12, lit_13, lit_14, lit_15, lit_16, lit_17, lit_18, lit_20, lit_24, lit_26, lit_30, lit_40, lit_45, lit_46, lit_47, lit_48, lit_60, lit_63, lit_64, lit_77, lit_100, lit_140, lit_168, lit_200, lit_300, lit_400, lit_900, lit_1000, lit_1168, lit_1997, lit_3333, lit_9999, lit_10000, nI_10, if_false, if_true, e_memAt_n isB_3 hS, g0, q1, m_iM isB_3, g1], fun o ho => (g2 o (by omega) (by omega) (by omega)).trans (q2 o (by omega)), q3.up g2 g3 g4 o1 (fun _ _ => rfl) o2 o3⟩
      · exact ac_0 (r := -nI 2) (by unfold Ng; decide) (fun X H K T hb => (by have hS : Rc X 3 s σ := hb.1; simp (config := {maxSteps := 1000000}) (disch := first | assumption | omega) only [f_X7_certify, e_memAt_n isB_3 hS, m_rx0, m_rx1, m_rx2, m_rx3, m_rx4, m_ix, m_iO isB_3, m_iO isB_184, m_iO isB_365, m_iH, m_iX, m_iD, e_wi_t, e_wi_f, e_ro_t, e_ro_f, zbool_0, zbool_1, zb2_s, zif_t, zopt_n, zopt_s, b_s, znm_e, lit_0, lit_1, lit_2, lit_3, lit_4, lit_5, lit_6, lit_7, lit_8, lit_9, lit_10, lit_11, lit_12, lit_13, lit_14, lit_15, lit_16, lit_17, lit_18, lit_20, lit_24, lit_26, lit_30, lit_40, lit_45, lit_46, lit_47, lit_48, lit_60, lit_63, lit_64, lit_77, lit_100, lit_140, lit_168, lit_200, lit_300, lit_400, lit_900, lit_1000, lit_1168, lit_1997, lit_3333, lit_9999, lit_10000, nI_10, if_false, if_true]))
    · exact ac_0 (r := -nI 1) (by unfold Ng; decide) (fun X H K T hb => (by have hS : Rc X 3 s σ := hb.1; simp (config := {maxSteps := 1000000}) (disch := first | assumption | omega) only [f_X7_certify, e_memAt_n isB_3 hS, m_rx0, m_rx1, m_rx2, m_rx3, m_rx4, m_ix, m_iO isB_3, m_iO isB_184, m_iO isB_365, m_iH, m_iX, m_iD, e_wi_t, e_wi_f, e_ro_t, e_ro_f, zbool_0, zbool_1, zb2_s, zif_t, zopt_n, zopt_s, b_s, znm_e, lit_0, lit_1, lit_2, lit_3, lit_4, lit_5, lit_6, lit_7, lit_8, lit_9, lit_10, lit_11, lit_12, lit_13, lit_14, lit_15, lit_16, lit_17, lit_18, lit_20, lit_24, lit_26, lit_30, lit_40, lit_45, lit_46, lit_47, lit_48, lit_60, lit_63, lit_64, lit_77, lit_100, lit_140, lit_168, lit_200, lit_300, lit_400, lit_900, lit_1000, lit_1168, lit_1997, lit_3333, lit_9999, lit_10000, nI_10, if_false, if_true]))
  · exact ac_0 (r := -nI 1) (by unfold Ng; decide) (fun X H K T hb => (by have hS : Rc X 3 s σ := hb.1; simp (config := {maxSteps := 1000000}) (disch := first | assumption | omega) only [f_X7_certify, e_memAt_x isB_3 hS c1, m_rx0, m_rx1, m_rx2, m_rx3, m_rx4, m_ix, m_iO isB_3, m_iO isB_184, m_iO isB_365, m_iH, m_iX, m_iD, e_wi_t, e_wi_f, e_ro_t, e_ro_f, zbool_0, zbool_1, zb2_s, zif_t, zopt_n, zopt_s, b_s, znm_e, lit_0, lit_1, lit_2, lit_3, lit_4, lit_5, lit_6, lit_7, lit_8, lit_9, lit_10, lit_11, lit_12, lit_13, lit_14, lit_15, lit_16, lit_17, lit_18, lit_20, lit_24, lit_26, lit_30, lit_40, lit_45, lit_46, lit_47, lit_48, lit_60, lit_63, lit_64, lit_77, lit_100, lit_140, lit_168, lit_200, lit_300, lit_400, lit_900, lit_1000, lit_1168, lit_1997, lit_3333, lit_9999, lit_10000, nI_10, if_false, if_true]))
theorem ac_sick {z : Nat} {s σ : Nat → Nat} (hI : Iv (s, σ)) (a1 a2 : Int32) : Ac Ng Nn (f_X7_sick z a1 a2) z (s, σ) := by
  have hP : PS s σ := hI.1
  have hC : Cv s := hI.2
  have hB := hP.B
  have b1 := hP.W.n48
  have b2 := hP.W.m12
  by_cases c1 : nI 0 ≤ a1 ∧ a1 < nI (s 2)
  · obtain ⟨m, hm, rfl⟩ := in_ex c1 (by omega)
    by_cases c2 : nI 1 ≤ a2 ∧ a2 ≤ nI 400
    · obtain ⟨h, h0, h9, rfl⟩ := wi_ex c2 (by omega) (by omega)
      obtain ⟨o1, o2, o3, o4⟩ := sick_eq hP hm (h := h) (by omega)
      obtain ⟨v1, v2⟩ := Cv_sick hP hC hm (h := h) (by omega)
      refine ac_w (p' := ((sickM s m h).1, σ)) (r := nI (sickM s m h).2) (nn0 (by omega)) ⟨o3, v1⟩ (fun X H K T hb => ?_)
      have hS : Rc X 3 s σ := hb.1
      obtain ⟨V1, t1, q1, q2, q3⟩ := c_rec (z := z) hb
      obtain ⟨V2, g1, g2, g3, g4⟩ := e_fallSick (z := z) (X := (V1, X.2.1, t1)) isB_3 q3.1 (m := m) (h := h) hm (by omega) q3.2.1
      rw [o2] at g1
      exact ⟨(V2, X.2.1, t1), by simp (disch := first | assumption | omega) only [f_X7_sick, m_rx0, m_rx1, m_rx2, m_rx3, m_rx4, m_ix, m_iO isB_3, m_iO isB_184, m_iO isB_365, m_iH, m_iX, m_iD, e_wi_t, e_wi_f, e_ro_t, e_ro_f, zbool_0, zbool_1, zb2_s, zif_t, zopt_n, zopt_s, b_s, znm_e, lit_0, lit_1, lit_2, lit_3, lit_4, lit_5, lit_6, lit_7, lit_8, lit_9, lit_10, lit_11, lit_12, lit_13, lit_14, lit_15, lit_16, lit_17, lit_18, lit_20, lit_24, lit_26, lit_30, lit_40, lit_45, lit_46, lit_47, lit_48, lit_60, lit_63, lit_64, lit_77, lit_100, lit_140, lit_168, lit_200, lit_300, lit_400, lit_900, lit_1000, lit_1168, lit_1997, lit_3333, lit_9999, lit_10000, nI_10, if_false, if_true, e_memAt_n isB_3 hS, q1, g1], fun o ho => (g2 o (by omega) (by omega) (by omega)).trans (q2 o (by omega)), q3.up g2 g3 g4 o3 o1.1 o1.2 o4⟩
    · exact ac_0 (r := -nI 2) (by unfold Ng; decide) (fun X H K T hb => (by have hS : Rc X 3 s σ := hb.1; simp (config := {maxSteps := 1000000}) (disch := first | assumption | omega) only [f_X7_sick, e_memAt_n isB_3 hS, m_rx0, m_rx1, m_rx2, m_rx3, m_rx4, m_ix, m_iO isB_3, m_iO isB_184, m_iO isB_365, m_iH, m_iX, m_iD, e_wi_t, e_wi_f, e_ro_t, e_ro_f, zbool_0, zbool_1, zb2_s, zif_t, zopt_n, zopt_s, b_s, znm_e, lit_0, lit_1, lit_2, lit_3, lit_4, lit_5, lit_6, lit_7, lit_8, lit_9, lit_10, lit_11, lit_12, lit_13, lit_14, lit_15, lit_16, lit_17, lit_18, lit_20, lit_24, lit_26, lit_30, lit_40, lit_45, lit_46, lit_47, lit_48, lit_60, lit_63, lit_64, lit_77, lit_100, lit_140, lit_168, lit_200, lit_300, lit_400, lit_900, lit_1000, lit_1168, lit_1997, lit_3333, lit_9999, lit_10000, nI_10, if_false, if_true]))
  · exact ac_0 (r := -nI 1) (by unfold Ng; decide) (fun X H K T hb => (by have hS : Rc X 3 s σ := hb.1; simp (config := {maxSteps := 1000000}) (disch := first | assumption | omega) only [f_X7_sick, e_memAt_x isB_3 hS c1, m_rx0, m_rx1, m_rx2, m_rx3, m_rx4, m_ix, m_iO isB_3, m_iO isB_184, m_iO isB_365, m_iH, m_iX, m_iD, e_wi_t, e_wi_f, e_ro_t, e_ro_f, zbool_0, zbool_1, zb2_s, zif_t, zopt_n, zopt_s, b_s, znm_e, lit_0, lit_1, lit_2, lit_3, lit_4, lit_5, lit_6, lit_7, lit_8, lit_9, lit_10, lit_11, lit_12, lit_13, lit_14, lit_15, lit_16, lit_17, lit_18, lit_20, lit_24, lit_26, lit_30, lit_40, lit_45, lit_46, lit_47, lit_48, lit_60, lit_63, lit_64, lit_77, lit_100, lit_140, lit_168, lit_200, lit_300, lit_400, lit_900, lit_1000, lit_1168, lit_1997, lit_3333, lit_9999, lit_10000, nI_10, if_false, if_true]))
theorem ac_well {z : Nat} {s σ : Nat → Nat} (hI : Iv (s, σ)) (a1 : Int32) : Ac Ng Nn (f_X7_well z a1) z (s, σ) := by
  have hP : PS s σ := hI.1
  have hC : Cv s := hI.2
  have hB := hP.B
  have b1 := hP.W.n48
  have b2 := hP.W.m12
  by_cases c1 : nI 0 ≤ a1 ∧ a1 < nI (s 2)
  · obtain ⟨m, hm, rfl⟩ := in_ex c1 (by omega)
    have hm12 : m < 12 := by omega
    have l0 := hB.1.1
    have l4 := hB.1.2.2.2.2 m hm12 4 (by omega)
    by_cases c2 : s 0 < s (969 + 6 * m + 4)
    · have eT : (s 0 < s (969 + 6 * m + 4)) = True := eq_true c2
      obtain ⟨o1, o2, o3⟩ := upd_mem (q := 4) (v := 0) hP hm (by omega) (by omega)
      refine ac_w (p' := (updN s (969 + 6 * m + 4) 0, σ)) (r := nI (s (969 + 6 * m + 4) - s 0)) (nn0 (by omega)) ⟨o1, Cv_well hP hC hm12⟩ (fun X H K T hb => ?_)
      have hS : Rc X 3 s σ := hb.1
      have hM := (hS.2.1.2.2.1 m hm12).2.1
      have s0 : X.1 3 2 = nI (s 0) := hS.2.1.1.1
      obtain ⟨V1, t1, q1, q2, q3⟩ := c_rec (z := z) hb
      have g4 := q3.1.sick isB_3 (m := m) (v := 0) hm12 (by omega)
      have e0 := nI_sub (a := s (969 + 6 * m + 4)) (b := s 0) (by omega)
      have eT2 : (nI 0 < nI (s (969 + 6 * m + 4) - s 0)) = True := by rw [nI_ltE (by omega) (by omega)]; exact eq_true (by omega)
      have kk : KpB 3 V1 (sV V1 (3 + (149 + 2 * m)) (upd (V1 (3 + (149 + 2 * m))) 1 (nI 0))) := fun o _ _ _ => sV_n (by omega)
      exact ⟨(sV V1 (3 + (149 + 2 * m)) (upd (V1 (3 + (149 + 2 * m))) 1 (nI 0)), X.2.1, t1), by simp (disch := first | assumption | omega) only [f_X7_well, m_rx0, m_rx1, m_rx2, m_rx3, m_rx4, m_ix, m_iO isB_3, m_iO isB_184, m_iO isB_365, m_iH, m_iX, m_iD, e_wi_t, e_wi_f, e_ro_t, e_ro_f, zbool_0, zbool_1, zb2_s, zif_t, zopt_n, zopt_s, b_s, znm_e, lit_0, lit_1, lit_2, lit_3, lit_4, lit_5, lit_6, lit_7, lit_8, lit_9, lit_10, lit_11, lit_12, lit_13, lit_14, lit_15, lit_16, lit_17, lit_18, lit_20, lit_24, lit_26, lit_30, lit_40, lit_45, lit_46, lit_47, lit_48, lit_60, lit_63, lit_64, lit_77, lit_100, lit_140, lit_168, lit_200, lit_300, lit_400, lit_900, lit_1000, lit_1168, lit_1997, lit_3333, lit_9999, lit_10000, nI_10, if_false, if_true, e_memAt_n isB_3 hS, m_gM1 isB_3, m_gO2 isB_3, s0, hM, eT2, q1, m_pM1 isB_3, e0], fun o ho => (kk o (by omega) (by omega) (by omega)).trans (q2 o (by omega)), q3.up kk (q3.2.1.kept (sV_n (by omega)) (sV_n (by omega))) g4 o1 (fun _ _ => rfl) o2 o3⟩
    · have eT : (s 0 < s (969 + 6 * m + 4)) = False := eq_false c2
      refine ac_0 (r := -nI 5) ng5 (fun X H K T hb => ?_)
      have hS : Rc X 3 s σ := hb.1
      have hM := (hS.2.1.2.2.1 m hm12).2.1
      have s0 : X.1 3 2 = nI (s 0) := hS.2.1.1.1
      simp (disch := first | assumption | omega) only [f_X7_well, m_rx0, m_rx1, m_rx2, m_rx3, m_rx4, m_ix, m_iO isB_3, m_iO isB_184, m_iO isB_365, m_iH, m_iX, m_iD, e_wi_t, e_wi_f, e_ro_t, e_ro_f, zbool_0, zbool_1, zb2_s, zif_t, zopt_n, zopt_s, b_s, znm_e, lit_0, lit_1, lit_2, lit_3, lit_4, lit_5, lit_6, lit_7, lit_8, lit_9, lit_10, lit_11, lit_12, lit_13, lit_14, lit_15, lit_16, lit_17, lit_18, lit_20, lit_24, lit_26, lit_30, lit_40, lit_45, lit_46, lit_47, lit_48, lit_60, lit_63, lit_64, lit_77, lit_100, lit_140, lit_168, lit_200, lit_300, lit_400, lit_900, lit_1000, lit_1168, lit_1997, lit_3333, lit_9999, lit_10000, nI_10, if_false, if_true, e_memAt_n isB_3 hS, m_gM1 isB_3, m_gO2 isB_3, s0, hM, sub_pos, eT]
  · exact ac_0 (r := -nI 1) (by unfold Ng; decide) (fun X H K T hb => (by have hS : Rc X 3 s σ := hb.1; simp (config := {maxSteps := 1000000}) (disch := first | assumption | omega) only [f_X7_well, e_memAt_x isB_3 hS c1, m_rx0, m_rx1, m_rx2, m_rx3, m_rx4, m_ix, m_iO isB_3, m_iO isB_184, m_iO isB_365, m_iH, m_iX, m_iD, e_wi_t, e_wi_f, e_ro_t, e_ro_f, zbool_0, zbool_1, zb2_s, zif_t, zopt_n, zopt_s, b_s, znm_e, lit_0, lit_1, lit_2, lit_3, lit_4, lit_5, lit_6, lit_7, lit_8, lit_9, lit_10, lit_11, lit_12, lit_13, lit_14, lit_15, lit_16, lit_17, lit_18, lit_20, lit_24, lit_26, lit_30, lit_40, lit_45, lit_46, lit_47, lit_48, lit_60, lit_63, lit_64, lit_77, lit_100, lit_140, lit_168, lit_200, lit_300, lit_400, lit_900, lit_1000, lit_1168, lit_1997, lit_3333, lit_9999, lit_10000, nI_10, if_false, if_true]))
theorem ac_pass {z : Nat} {s σ : Nat → Nat} (hI : Iv (s, σ)) (a1 : Int32) : Ac Ng Nn (f_X7_pass z a1) z (s, σ) := by
  have hP : PS s σ := hI.1
  have hC : Cv s := hI.2
  have hB := hP.B
  have b1 := hP.W.n48
  have b2 := hP.W.m12
  have l0 := hB.1.1
  by_cases c1 : nI 1 ≤ a1 ∧ a1 ≤ nI 200
  · obtain ⟨h, h0, h9, rfl⟩ := wi_ex c1 (by omega) (by omega)
    by_cases c2 : s 0 + h ≤ 1000
    · have eT : (s 0 + h ≤ 1000) = True := eq_true c2
      obtain ⟨o1, o2, o3, o4⟩ := go_eq hP c2
      refine ac_w (p' := (passN h s, σ)) (r := nI (s 0 + h)) (nn0 (by omega)) ⟨o1, Cv_pass hP hC c2⟩ (fun X H K T hb => ?_)
      have hS : Rc X 3 s σ := hb.1
      have s0 : X.1 3 2 = nI (s 0) := hS.2.1.1.1
      obtain ⟨V1, t1, q1, q2, q3⟩ := c_rec (z := z) hb
      obtain ⟨V2, g1, g2, g3, g4⟩ := e_goOn (z := z) (X := (V1, X.2.1, t1)) isB_3 q3.1 c2 q3.2.1
      exact ⟨(V2, X.2.1, t1), by simp (disch := first | assumption | omega) only [f_X7_pass, m_rx0, m_rx1, m_rx2, m_rx3, m_rx4, m_ix, m_iO isB_3, m_iO isB_184, m_iO isB_365, m_iH, m_iX, m_iD, e_wi_t, e_wi_f, e_ro_t, e_ro_f, zbool_0, zbool_1, zb2_s, zif_t, zopt_n, zopt_s, b_s, znm_e, lit_0, lit_1, lit_2, lit_3, lit_4, lit_5, lit_6, lit_7, lit_8, lit_9, lit_10, lit_11, lit_12, lit_13, lit_14, lit_15, lit_16, lit_17, lit_18, lit_20, lit_24, lit_26, lit_30, lit_40, lit_45, lit_46, lit_47, lit_48, lit_60, lit_63, lit_64, lit_77, lit_100, lit_140, lit_168, lit_200, lit_300, lit_400, lit_900, lit_1000, lit_1168, lit_1997, lit_3333, lit_9999, lit_10000, nI_10, if_false, if_true, m_gO2 isB_3, s0, nI_add, nI_leE, eT, q1, g1], fun o ho => (g2 o (by omega) (by omega) (by omega)).trans (q2 o (by omega)), q3.up g2 g3 g4 o1 o2 o3 o4⟩
    · have eT : (s 0 + h ≤ 1000) = False := eq_false c2
      refine ac_0 (r := -nI 3) ng3 (fun X H K T hb => ?_)
      have hS : Rc X 3 s σ := hb.1
      have s0 : X.1 3 2 = nI (s 0) := hS.2.1.1.1
      simp (disch := first | assumption | omega) only [f_X7_pass, m_rx0, m_rx1, m_rx2, m_rx3, m_rx4, m_ix, m_iO isB_3, m_iO isB_184, m_iO isB_365, m_iH, m_iX, m_iD, e_wi_t, e_wi_f, e_ro_t, e_ro_f, zbool_0, zbool_1, zb2_s, zif_t, zopt_n, zopt_s, b_s, znm_e, lit_0, lit_1, lit_2, lit_3, lit_4, lit_5, lit_6, lit_7, lit_8, lit_9, lit_10, lit_11, lit_12, lit_13, lit_14, lit_15, lit_16, lit_17, lit_18, lit_20, lit_24, lit_26, lit_30, lit_40, lit_45, lit_46, lit_47, lit_48, lit_60, lit_63, lit_64, lit_77, lit_100, lit_140, lit_168, lit_200, lit_300, lit_400, lit_900, lit_1000, lit_1168, lit_1997, lit_3333, lit_9999, lit_10000, nI_10, if_false, if_true, m_gO2 isB_3, s0, nI_add, nI_leE, eT]
  · exact ac_0 (r := -nI 2) (by unfold Ng; decide) (fun X H K T hb => (by have hS : Rc X 3 s σ := hb.1; simp (config := {maxSteps := 1000000}) (disch := first | assumption | omega) only [f_X7_pass, m_rx0, m_rx1, m_rx2, m_rx3, m_rx4, m_ix, m_iO isB_3, m_iO isB_184, m_iO isB_365, m_iH, m_iX, m_iD, e_wi_t, e_wi_f, e_ro_t, e_ro_f, zbool_0, zbool_1, zb2_s, zif_t, zopt_n, zopt_s, b_s, znm_e, lit_0, lit_1, lit_2, lit_3, lit_4, lit_5, lit_6, lit_7, lit_8, lit_9, lit_10, lit_11, lit_12, lit_13, lit_14, lit_15, lit_16, lit_17, lit_18, lit_20, lit_24, lit_26, lit_30, lit_40, lit_45, lit_46, lit_47, lit_48, lit_60, lit_63, lit_64, lit_77, lit_100, lit_140, lit_168, lit_200, lit_300, lit_400, lit_900, lit_1000, lit_1168, lit_1997, lit_3333, lit_9999, lit_10000, nI_10, if_false, if_true]))
theorem ac_fill {z : Nat} {s σ : Nat → Nat} (hI : Iv (s, σ)) (a1 : Int32) : Ac Ng Nn (f_X7_fill z a1) z (s, σ) := by
  have hP : PS s σ := hI.1
  have hC : Cv s := hI.2
  have hB := hP.B
  have b1 := hP.W.n48
  have b2 := hP.W.m12
  by_cases c1 : nI 0 ≤ a1 ∧ a1 < nI (s 1)
  · obtain ⟨k, hk, rfl⟩ := in_ex c1 (by omega)
    obtain ⟨r, hr1, hrk, hat⟩ := at_n hP hk
    have hk48 : k < 48 := by omega
    have hG := rec_G hP.W hk48 (hP.1.2.1 k hk)
    have eU : UU s σ r = recS s k := by rw [UU_lt hr1, hrk]
    have fl : ∀ s', RB s' → fo s' k < 100000 := fun s' hB' => by
      have := ned_le hB' hk48
      unfold fo
      omega
    have f1 := fl s hB
    by_cases c2 : recS s k 5 = 0
    · by_cases c3 : fo s k = 0
      · refine ac_0 (r := -nI 5) ng5 (fun X H K T hb => ?_)
        have hS : Rc X 3 s σ := hb.1
        have hw1 := hS.1.1 r (by omega)
        have hs := hS.2.1.2.1 r (by omega)
        have g0 := e_isOpen (z := z) isB_3 hw1 hs (by rw [eU]; exact hG.1.1)
        have g9 := e_freeN (z := z) isB_3 hw1 hs (by rw [eU]; exact hG.1)
        rw [eU, bI_t (decide_eq_true c2)] at g0
        rw [eU, fr_fo hP.W hk48, c3] at g9
        simp (disch := first | assumption | omega) only [f_X7_fill, m_rx0, m_rx1, m_rx2, m_rx3, m_rx4, m_ix, m_iO isB_3, m_iO isB_184, m_iO isB_365, m_iH, m_iX, m_iD, e_wi_t, e_wi_f, e_ro_t, e_ro_f, zbool_0, zbool_1, zb2_s, zif_t, zopt_n, zopt_s, b_s, znm_e, lit_0, lit_1, lit_2, lit_3, lit_4, lit_5, lit_6, lit_7, lit_8, lit_9, lit_10, lit_11, lit_12, lit_13, lit_14, lit_15, lit_16, lit_17, lit_18, lit_20, lit_24, lit_26, lit_30, lit_40, lit_45, lit_46, lit_47, lit_48, lit_60, lit_63, lit_64, lit_77, lit_100, lit_140, lit_168, lit_200, lit_300, lit_400, lit_900, lit_1000, lit_1168, lit_1997, lit_3333, lit_9999, lit_10000, nI_10, if_false, if_true, e_sa_n isB_3 hS hP hat, m_iS isB_3, g0, g9]
      · have nz := ne_eqF c3 (by omega) (by omega)
        obtain ⟨o1, o2, o3⟩ := cvA_eq (ls := lsS s) (r := r) 4 0 (s, UU s σ) s (by omega) hP EqA_rf hr1 (fun _ _ => rfl)
        have e1 := fr_A o2 o1 (by rw [o3 1 (by omega)]; exact hr1)
        rw [hrk] at e1 o1 o2 o3
        have f2 := fl _ o2.B
        refine ac_w (p' := (cMA k 0 4 s, σ)) (r := nI (fo (cMA k 0 4 s) k)) (nn0 (by omega)) ⟨o2, Cv_cA 4 0 s (by omega) hP hC hk⟩ (fun X H K T hb => ?_)
        have hS : Rc X 3 s σ := hb.1
        have hw1 := hS.1.1 r (by omega)
        have hs := hS.2.1.2.1 r (by omega)
        have g0 := e_isOpen (z := z) isB_3 hw1 hs (by rw [eU]; exact hG.1.1)
        have g9 := e_freeN (z := z) isB_3 hw1 hs (by rw [eU]; exact hG.1)
        rw [eU, bI_t (decide_eq_true c2)] at g0
        rw [eU, fr_fo hP.W hk48] at g9
        obtain ⟨V1, t1, q1, q2, q3⟩ := c_rec (z := z) hb
        obtain ⟨V2, g1, g2, g3, g4⟩ := e_coverAll (z := z) (X := (V1, X.2.1, t1)) isB_3 q3.1 (r := r) (by omega) q3.2.1
        dsimp only at g1
        rw [e1] at g1
        exact ⟨(V2, X.2.1, t1), by simp (disch := first | assumption | omega) only [f_X7_fill, m_rx0, m_rx1, m_rx2, m_rx3, m_rx4, m_ix, m_iO isB_3, m_iO isB_184, m_iO isB_365, m_iH, m_iX, m_iD, e_wi_t, e_wi_f, e_ro_t, e_ro_f, zbool_0, zbool_1, zb2_s, zif_t, zopt_n, zopt_s, b_s, znm_e, lit_0, lit_1, lit_2, lit_3, lit_4, lit_5, lit_6, lit_7, lit_8, lit_9, lit_10, lit_11, lit_12, lit_13, lit_14, lit_15, lit_16, lit_17, lit_18, lit_20, lit_24, lit_26, lit_30, lit_40, lit_45, lit_46, lit_47, lit_48, lit_60, lit_63, lit_64, lit_77, lit_100, lit_140, lit_168, lit_200, lit_300, lit_400, lit_900, lit_1000, lit_1168, lit_1997, lit_3333, lit_9999, lit_10000, nI_10, if_false, if_true, e_sa_n isB_3 hS hP hat, m_iS isB_3, g0, g9, nz, q1, g1], fun o ho => (g2 o (by omega) (by omega) (by omega)).trans (q2 o (by omega)), q3.up g2 g3 g4 o2 o1.1 o1.2 (fun q hq => (o3.ls q).symm)⟩
    · refine ac_0 (r := -nI 4) ng4 (fun X H K T hb => ?_)
      have hS : Rc X 3 s σ := hb.1
      have hw1 := hS.1.1 r (by omega)
      have g0 := e_isOpen (z := z) isB_3 hw1 (hS.2.1.2.1 r (by omega)) (by rw [eU]; exact hG.1.1)
      rw [eU, bI_f (decide_eq_false c2)] at g0
      simp (disch := first | assumption | omega) only [f_X7_fill, m_rx0, m_rx1, m_rx2, m_rx3, m_rx4, m_ix, m_iO isB_3, m_iO isB_184, m_iO isB_365, m_iH, m_iX, m_iD, e_wi_t, e_wi_f, e_ro_t, e_ro_f, zbool_0, zbool_1, zb2_s, zif_t, zopt_n, zopt_s, b_s, znm_e, lit_0, lit_1, lit_2, lit_3, lit_4, lit_5, lit_6, lit_7, lit_8, lit_9, lit_10, lit_11, lit_12, lit_13, lit_14, lit_15, lit_16, lit_17, lit_18, lit_20, lit_24, lit_26, lit_30, lit_40, lit_45, lit_46, lit_47, lit_48, lit_60, lit_63, lit_64, lit_77, lit_100, lit_140, lit_168, lit_200, lit_300, lit_400, lit_900, lit_1000, lit_1168, lit_1997, lit_3333, lit_9999, lit_10000, nI_10, if_false, if_true, e_sa_n isB_3 hS hP hat, m_iS isB_3, g0]
  · exact ac_0 (r := -nI 1) (by unfold Ng; decide) (fun X H K T hb => (by have hS : Rc X 3 s σ := hb.1; simp (config := {maxSteps := 1000000}) (disch := first | assumption | omega) only [f_X7_fill, e_sa_x isB_3 hS hP c1, m_rx0, m_rx1, m_rx2, m_rx3, m_rx4, m_ix, m_iO isB_3, m_iO isB_184, m_iO isB_365, m_iH, m_iX, m_iD, e_wi_t, e_wi_f, e_ro_t, e_ro_f, zbool_0, zbool_1, zb2_s, zif_t, zopt_n, zopt_s, b_s, znm_e, lit_0, lit_1, lit_2, lit_3, lit_4, lit_5, lit_6, lit_7, lit_8, lit_9, lit_10, lit_11, lit_12, lit_13, lit_14, lit_15, lit_16, lit_17, lit_18, lit_20, lit_24, lit_26, lit_30, lit_40, lit_45, lit_46, lit_47, lit_48, lit_60, lit_63, lit_64, lit_77, lit_100, lit_140, lit_168, lit_200, lit_300, lit_400, lit_900, lit_1000, lit_1168, lit_1997, lit_3333, lit_9999, lit_10000, nI_10, if_false, if_true]))
theorem ac_climb {z : Nat} {s σ : Nat → Nat} (hI : Iv (s, σ)) (a1 a2 : Int32) : Ac Ng Nn (f_X7_climb z a1 a2) z (s, σ) := by
  have hP : PS s σ := hI.1
  have hC : Cv s := hI.2
  have hB := hP.B
  have b1 := hP.W.n48
  have b2 := hP.W.m12
  by_cases c1 : nI 0 ≤ a1 ∧ a1 < nI (s 2)
  · obtain ⟨m, hm, rfl⟩ := in_ex c1 (by omega)
    by_cases c2 : nI 0 ≤ a2 ∧ a2 < nI 4
    · obtain ⟨q, hq, rfl⟩ := in_ex c2 (by omega)
      obtain ⟨o1, o2, o3, o4, o5, o6⟩ := climb_eq hP hq hm
      have l := less_ok (m := m) hB hP.1.2.2.2.1 hq
      refine ac_w (p' := (appM (lessM s q m) q m, σ)) (r := nI (lessM s q m (1041 + q) + 1)) (nn0 (by omega)) ⟨o1, Cv_lad hP.W hC (fun i hi => (appM_o hq o6 hi).trans (l.2.2.1 i hi))⟩ (fun X H K T hb => ?_)
      have hS : Rc X 3 s σ := hb.1
      obtain ⟨V1, t1, q1, q2, q3⟩ := c_rec (z := z) hb
      obtain ⟨V2, g1, g2, g3, g4⟩ := e_put (z := z) (X := (V1, X.2.1, t1)) isB_3 q3.1 (q := q) (m := m) hq hm (hP.1.2.2.2.1 q hq).1 q3.2.1
      exact ⟨(V2, X.2.1, t1), by rw [o5]; simp (disch := first | assumption | omega) only [f_X7_climb, m_rx0, m_rx1, m_rx2, m_rx3, m_rx4, m_ix, m_iO isB_3, m_iO isB_184, m_iO isB_365, m_iH, m_iX, m_iD, e_wi_t, e_wi_f, e_ro_t, e_ro_f, zbool_0, zbool_1, zb2_s, zif_t, zopt_n, zopt_s, b_s, znm_e, lit_0, lit_1, lit_2, lit_3, lit_4, lit_5, lit_6, lit_7, lit_8, lit_9, lit_10, lit_11, lit_12, lit_13, lit_14, lit_15, lit_16, lit_17, lit_18, lit_20, lit_24, lit_26, lit_30, lit_40, lit_45, lit_46, lit_47, lit_48, lit_60, lit_63, lit_64, lit_77, lit_100, lit_140, lit_168, lit_200, lit_300, lit_400, lit_900, lit_1000, lit_1168, lit_1997, lit_3333, lit_9999, lit_10000, nI_10, if_false, if_true, e_memAt_n isB_3 hS, e_ladOf_n isB_3 hS, q1, m_iL isB_3, g1], fun o ho => (g2 o (by omega) (by omega) (by omega)).trans (q2 o (by omega)), q3.up g2 g3 g4 o1 o2 o3 o4⟩
    · exact ac_0 (r := -nI 1) (by unfold Ng; decide) (fun X H K T hb => (by have hS : Rc X 3 s σ := hb.1; simp (config := {maxSteps := 1000000}) (disch := first | assumption | omega) only [f_X7_climb, e_memAt_n isB_3 hS, e_ladOf_x c2, m_rx0, m_rx1, m_rx2, m_rx3, m_rx4, m_ix, m_iO isB_3, m_iO isB_184, m_iO isB_365, m_iH, m_iX, m_iD, e_wi_t, e_wi_f, e_ro_t, e_ro_f, zbool_0, zbool_1, zb2_s, zif_t, zopt_n, zopt_s, b_s, znm_e, lit_0, lit_1, lit_2, lit_3, lit_4, lit_5, lit_6, lit_7, lit_8, lit_9, lit_10, lit_11, lit_12, lit_13, lit_14, lit_15, lit_16, lit_17, lit_18, lit_20, lit_24, lit_26, lit_30, lit_40, lit_45, lit_46, lit_47, lit_48, lit_60, lit_63, lit_64, lit_77, lit_100, lit_140, lit_168, lit_200, lit_300, lit_400, lit_900, lit_1000, lit_1168, lit_1997, lit_3333, lit_9999, lit_10000, nI_10, if_false, if_true]))
  · by_cases c2 : nI 0 ≤ a2 ∧ a2 < nI 4
    · obtain ⟨q, hq, rfl⟩ := in_ex c2 (by omega)
      exact ac_0 (r := -nI 1) (by unfold Ng; decide) (fun X H K T hb => (by have hS : Rc X 3 s σ := hb.1; simp (config := {maxSteps := 1000000}) (disch := first | assumption | omega) only [f_X7_climb, e_memAt_x isB_3 hS c1, e_ladOf_n isB_3 hS, m_rx0, m_rx1, m_rx2, m_rx3, m_rx4, m_ix, m_iO isB_3, m_iO isB_184, m_iO isB_365, m_iH, m_iX, m_iD, e_wi_t, e_wi_f, e_ro_t, e_ro_f, zbool_0, zbool_1, zb2_s, zif_t, zopt_n, zopt_s, b_s, znm_e, lit_0, lit_1, lit_2, lit_3, lit_4, lit_5, lit_6, lit_7, lit_8, lit_9, lit_10, lit_11, lit_12, lit_13, lit_14, lit_15, lit_16, lit_17, lit_18, lit_20, lit_24, lit_26, lit_30, lit_40, lit_45, lit_46, lit_47, lit_48, lit_60, lit_63, lit_64, lit_77, lit_100, lit_140, lit_168, lit_200, lit_300, lit_400, lit_900, lit_1000, lit_1168, lit_1997, lit_3333, lit_9999, lit_10000, nI_10, if_false, if_true]))
    · exact ac_0 (r := -nI 1) (by unfold Ng; decide) (fun X H K T hb => (by have hS : Rc X 3 s σ := hb.1; simp (config := {maxSteps := 1000000}) (disch := first | assumption | omega) only [f_X7_climb, e_memAt_x isB_3 hS c1, e_ladOf_x c2, m_rx0, m_rx1, m_rx2, m_rx3, m_rx4, m_ix, m_iO isB_3, m_iO isB_184, m_iO isB_365, m_iH, m_iX, m_iD, e_wi_t, e_wi_f, e_ro_t, e_ro_f, zbool_0, zbool_1, zb2_s, zif_t, zopt_n, zopt_s, b_s, znm_e, lit_0, lit_1, lit_2, lit_3, lit_4, lit_5, lit_6, lit_7, lit_8, lit_9, lit_10, lit_11, lit_12, lit_13, lit_14, lit_15, lit_16, lit_17, lit_18, lit_20, lit_24, lit_26, lit_30, lit_40, lit_45, lit_46, lit_47, lit_48, lit_60, lit_63, lit_64, lit_77, lit_100, lit_140, lit_168, lit_200, lit_300, lit_400, lit_900, lit_1000, lit_1168, lit_1997, lit_3333, lit_9999, lit_10000, nI_10, if_false, if_true]))
theorem ac_leave {z : Nat} {s σ : Nat → Nat} (hI : Iv (s, σ)) (a1 a2 : Int32) : Ac Ng Nn (f_X7_leave z a1 a2) z (s, σ) := by
  have hP : PS s σ := hI.1
  have hC : Cv s := hI.2
  have hB := hP.B
  have b1 := hP.W.n48
  have b2 := hP.W.m12
  by_cases c1 : nI 0 ≤ a1 ∧ a1 < nI (s 2)
  · obtain ⟨m, hm, rfl⟩ := in_ex c1 (by omega)
    by_cases c2 : nI 0 ≤ a2 ∧ a2 < nI 4
    · obtain ⟨q, hq, rfl⟩ := in_ex c2 (by omega)
      by_cases c3 : m ∈ lsS s q
      · obtain ⟨o1, o2, o3, o4⟩ := leave_eq (m := m) hP hq
        obtain ⟨_, _, _, _, o5, o6⟩ := climb_eq (m := m) hP hq hm
        have l := less_ok (m := m) hB hP.1.2.2.2.1 hq
        refine ac_w (p' := (lessM s q m, σ)) (r := nI (lessM s q m (1041 + q))) (nn0 (by omega)) ⟨o1, Cv_lad hP.W hC l.2.2.1⟩ (fun X H K T hb => ?_)
        have hS : Rc X 3 s σ := hb.1
        have hl := hS.2.2.2.2 q hq
        have g0 := e_lHas (z := z) isB_3 hq (hS.2.1.2.2.2 q hq) hl.1 (m := m) (by omega) (fun x hx => by have := hl.2 x hx; omega)
        rw [bI_t (decide_eq_true c3)] at g0
        obtain ⟨V1, t1, q1, q2, q3⟩ := c_rec (z := z) hb
        obtain ⟨V2, g1, g2, g3, g4⟩ := e_off1 (z := z) (X := (V1, X.2.1, t1)) isB_3 q3.1 (q := q) (m := m) hq hm (hP.1.2.2.2.1 q hq).1 q3.2.1
        exact ⟨(V2, X.2.1, t1), by rw [o5]; simp (disch := first | assumption | omega) only [f_X7_leave, m_rx0, m_rx1, m_rx2, m_rx3, m_rx4, m_ix, m_iO isB_3, m_iO isB_184, m_iO isB_365, m_iH, m_iX, m_iD, e_wi_t, e_wi_f, e_ro_t, e_ro_f, zbool_0, zbool_1, zb2_s, zif_t, zopt_n, zopt_s, b_s, znm_e, lit_0, lit_1, lit_2, lit_3, lit_4, lit_5, lit_6, lit_7, lit_8, lit_9, lit_10, lit_11, lit_12, lit_13, lit_14, lit_15, lit_16, lit_17, lit_18, lit_20, lit_24, lit_26, lit_30, lit_40, lit_45, lit_46, lit_47, lit_48, lit_60, lit_63, lit_64, lit_77, lit_100, lit_140, lit_168, lit_200, lit_300, lit_400, lit_900, lit_1000, lit_1168, lit_1997, lit_3333, lit_9999, lit_10000, nI_10, if_false, if_true, e_memAt_n isB_3 hS, e_ladOf_n isB_3 hS, m_iL isB_3, g0, q1, g1], fun o ho => (g2 o (by omega) (by omega) (by omega)).trans (q2 o (by omega)), q3.up g2 g3 g4 o1 o2 o3 o4⟩
      · refine ac_0 (r := -nI 5) ng5 (fun X H K T hb => ?_)
        have hS : Rc X 3 s σ := hb.1
        have hl := hS.2.2.2.2 q hq
        have g0 := e_lHas (z := z) isB_3 hq (hS.2.1.2.2.2 q hq) hl.1 (m := m) (by omega) (fun x hx => by have := hl.2 x hx; omega)
        rw [bI_f (decide_eq_false c3)] at g0
        simp (disch := first | assumption | omega) only [f_X7_leave, m_rx0, m_rx1, m_rx2, m_rx3, m_rx4, m_ix, m_iO isB_3, m_iO isB_184, m_iO isB_365, m_iH, m_iX, m_iD, e_wi_t, e_wi_f, e_ro_t, e_ro_f, zbool_0, zbool_1, zb2_s, zif_t, zopt_n, zopt_s, b_s, znm_e, lit_0, lit_1, lit_2, lit_3, lit_4, lit_5, lit_6, lit_7, lit_8, lit_9, lit_10, lit_11, lit_12, lit_13, lit_14, lit_15, lit_16, lit_17, lit_18, lit_20, lit_24, lit_26, lit_30, lit_40, lit_45, lit_46, lit_47, lit_48, lit_60, lit_63, lit_64, lit_77, lit_100, lit_140, lit_168, lit_200, lit_300, lit_400, lit_900, lit_1000, lit_1168, lit_1997, lit_3333, lit_9999, lit_10000, nI_10, if_false, if_true, e_memAt_n isB_3 hS, e_ladOf_n isB_3 hS, m_iL isB_3, g0]
    · exact ac_0 (r := -nI 1) (by unfold Ng; decide) (fun X H K T hb => (by have hS : Rc X 3 s σ := hb.1; simp (config := {maxSteps := 1000000}) (disch := first | assumption | omega) only [f_X7_leave, e_memAt_n isB_3 hS, e_ladOf_x c2, m_rx0, m_rx1, m_rx2, m_rx3, m_rx4, m_ix, m_iO isB_3, m_iO isB_184, m_iO isB_365, m_iH, m_iX, m_iD, e_wi_t, e_wi_f, e_ro_t, e_ro_f, zbool_0, zbool_1, zb2_s, zif_t, zopt_n, zopt_s, b_s, znm_e, lit_0, lit_1, lit_2, lit_3, lit_4, lit_5, lit_6, lit_7, lit_8, lit_9, lit_10, lit_11, lit_12, lit_13, lit_14, lit_15, lit_16, lit_17, lit_18, lit_20, lit_24, lit_26, lit_30, lit_40, lit_45, lit_46, lit_47, lit_48, lit_60, lit_63, lit_64, lit_77, lit_100, lit_140, lit_168, lit_200, lit_300, lit_400, lit_900, lit_1000, lit_1168, lit_1997, lit_3333, lit_9999, lit_10000, nI_10, if_false, if_true]))
  · by_cases c2 : nI 0 ≤ a2 ∧ a2 < nI 4
    · obtain ⟨q, hq, rfl⟩ := in_ex c2 (by omega)
      exact ac_0 (r := -nI 1) (by unfold Ng; decide) (fun X H K T hb => (by have hS : Rc X 3 s σ := hb.1; simp (config := {maxSteps := 1000000}) (disch := first | assumption | omega) only [f_X7_leave, e_memAt_x isB_3 hS c1, e_ladOf_n isB_3 hS, m_rx0, m_rx1, m_rx2, m_rx3, m_rx4, m_ix, m_iO isB_3, m_iO isB_184, m_iO isB_365, m_iH, m_iX, m_iD, e_wi_t, e_wi_f, e_ro_t, e_ro_f, zbool_0, zbool_1, zb2_s, zif_t, zopt_n, zopt_s, b_s, znm_e, lit_0, lit_1, lit_2, lit_3, lit_4, lit_5, lit_6, lit_7, lit_8, lit_9, lit_10, lit_11, lit_12, lit_13, lit_14, lit_15, lit_16, lit_17, lit_18, lit_20, lit_24, lit_26, lit_30, lit_40, lit_45, lit_46, lit_47, lit_48, lit_60, lit_63, lit_64, lit_77, lit_100, lit_140, lit_168, lit_200, lit_300, lit_400, lit_900, lit_1000, lit_1168, lit_1997, lit_3333, lit_9999, lit_10000, nI_10, if_false, if_true]))
    · exact ac_0 (r := -nI 1) (by unfold Ng; decide) (fun X H K T hb => (by have hS : Rc X 3 s σ := hb.1; simp (config := {maxSteps := 1000000}) (disch := first | assumption | omega) only [f_X7_leave, e_memAt_x isB_3 hS c1, e_ladOf_x c2, m_rx0, m_rx1, m_rx2, m_rx3, m_rx4, m_ix, m_iO isB_3, m_iO isB_184, m_iO isB_365, m_iH, m_iX, m_iD, e_wi_t, e_wi_f, e_ro_t, e_ro_f, zbool_0, zbool_1, zb2_s, zif_t, zopt_n, zopt_s, b_s, znm_e, lit_0, lit_1, lit_2, lit_3, lit_4, lit_5, lit_6, lit_7, lit_8, lit_9, lit_10, lit_11, lit_12, lit_13, lit_14, lit_15, lit_16, lit_17, lit_18, lit_20, lit_24, lit_26, lit_30, lit_40, lit_45, lit_46, lit_47, lit_48, lit_60, lit_63, lit_64, lit_77, lit_100, lit_140, lit_168, lit_200, lit_300, lit_400, lit_900, lit_1000, lit_1168, lit_1997, lit_3333, lit_9999, lit_10000, nI_10, if_false, if_true]))
def NgP (r : Int32) : Prop := r < nI 0 ∨ ∃ j, 0 < j ∧ j ≤ 6 ∧ r = nI j
theorem np1 : NgP (-nI 1) := Or.inl ng1
theorem ac_give {z : Nat} {s σ : Nat → Nat} (hI : Iv (s, σ)) (a1 a2 a3 : Int32) : Ac NgP Ze (f_X7_give z a1 a2 a3) z (s, σ) := by
  have hP : PS s σ := hI.1
  have hC : Cv s := hI.2
  have hB := hP.B
  have b1 := hP.W.n48
  have b2 := hP.W.m12
  by_cases c1 : nI 0 ≤ a1 ∧ a1 < nI (s 2)
  · obtain ⟨m, hm, rfl⟩ := in_ex c1 (by omega)
    by_cases c2 : nI 0 ≤ a2 ∧ a2 < nI (s 1)
    · obtain ⟨k, hk, rfl⟩ := in_ex c2 (by omega)
      obtain ⟨r, hr, hrk, hat⟩ := at_n hP hk
      by_cases c3 : nI 0 ≤ a3 ∧ a3 < nI 4
      · obtain ⟨q, hq, rfl⟩ := in_ex c3 (by omega)
        have b6 := rsnM_le s m k q
        by_cases c4 : rsnM s m k q = 0
        · have hP0 : PS (updN s (393 + 12 * σ r + m) (q + 1)) σ := PS_pl hP hm (by rw [hrk]; exact hk) hq (by rw [hrk]; exact c4)
          obtain ⟨o2, o3, o4, o5⟩ := pl_eq hP hr (by omega) hP0
          have hP' := hP0
          rw [hrk] at o2 o3 o4 hP'
          refine ac_w (p' := (updN s (393 + 12 * k + m) (q + 1), σ)) (r := nI 0) rfl ⟨hP', Cv_pl hP.W hC (by omega) hk hq c4⟩ (fun X H K T hb => ?_)
          have hS : Rc X 3 s σ := hb.1
          have hw1 := hS.1.1 r (by omega)
          obtain ⟨V0, g1, g2, g3⟩ := e_reason (z := z) isB_3 hS (m := m) (r := r) (q := q) hm (by omega) hq hb.2.1
          rw [rsn_eq hP hm hr hq, hrk, c4] at g1
          have hb0 := hb.kd g2 g3
          obtain ⟨V1, t1, q1, q2, q3⟩ := c_rec (z := z) hb0
          dsimp only at q1
          have g5 := e_seat (z := z) (X := (V1, X.2.1, t1)) isB_3 hw1 (m := m) (by omega) (nI q)
          have g4 := StC.seat (X := (V1, X.2.1, t1)) isB_3 q3.1 (r := r) (m := m) (v := q + 1) (by omega) (by omega) (by omega) o5
          rw [rl_s] at g4
          dsimp only at g4
          have kk : KpB 3 V1 (sV V1 (3 + (7 + 3 * X.2.1 3 r)) (upd (V1 (3 + (7 + 3 * X.2.1 3 r))) m (nI q))) := fun o _ _ _ => sV_n (by omega)
          exact ⟨(sV V1 (3 + (7 + 3 * X.2.1 3 r)) (upd (V1 (3 + (7 + 3 * X.2.1 3 r))) m (nI q)), X.2.1, t1), by simp (disch := first | assumption | omega) only [f_X7_give, m_rx0, m_rx1, m_rx2, m_rx3, m_rx4, m_ix, m_iO isB_3, m_iO isB_184, m_iO isB_365, m_iH, m_iX, m_iD, e_wi_t, e_wi_f, e_ro_t, e_ro_f, zbool_0, zbool_1, zb2_s, zif_t, zopt_n, zopt_s, b_s, znm_e, lit_0, lit_1, lit_2, lit_3, lit_4, lit_5, lit_6, lit_7, lit_8, lit_9, lit_10, lit_11, lit_12, lit_13, lit_14, lit_15, lit_16, lit_17, lit_18, lit_20, lit_24, lit_26, lit_30, lit_40, lit_45, lit_46, lit_47, lit_48, lit_60, lit_63, lit_64, lit_77, lit_100, lit_140, lit_168, lit_200, lit_300, lit_400, lit_900, lit_1000, lit_1168, lit_1997, lit_3333, lit_9999, lit_10000, nI_10, if_false, if_true, e_sa_n isB_3 hS hP hat, e_memAt_n isB_3 hS, g1, q1, m_iS isB_3, g5], fun o ho => (kk o (by omega) (by omega) (by omega)).trans ((q2 o (by omega)).trans (g2 o (by omega) (by omega))), q3.up kk (q3.2.1.kept (sV_n (by omega)) (sV_n (by omega))) g4 hP' o2 o3 o4⟩
        · have nz := ne_eqF c4 (by omega) (by omega)
          refine Or.inl ⟨nI (rsnM s m k q), Or.inr ⟨rsnM s m k q, by omega, b6, rfl⟩, fun X H K T hb => ?_⟩
          have hS : Rc X 3 s σ := hb.1
          have hw1 := hS.1.1 r (by omega)
          obtain ⟨V0, g1, g2, g3⟩ := e_reason (z := z) isB_3 hS (m := m) (r := r) (q := q) hm (by omega) hq hb.2.1
          rw [rsn_eq hP hm hr hq, hrk] at g1
          exact ⟨V0, by simp (disch := first | assumption | omega) only [f_X7_give, m_rx0, m_rx1, m_rx2, m_rx3, m_rx4, m_ix, m_iO isB_3, m_iO isB_184, m_iO isB_365, m_iH, m_iX, m_iD, e_wi_t, e_wi_f, e_ro_t, e_ro_f, zbool_0, zbool_1, zb2_s, zif_t, zopt_n, zopt_s, b_s, znm_e, lit_0, lit_1, lit_2, lit_3, lit_4, lit_5, lit_6, lit_7, lit_8, lit_9, lit_10, lit_11, lit_12, lit_13, lit_14, lit_15, lit_16, lit_17, lit_18, lit_20, lit_24, lit_26, lit_30, lit_40, lit_45, lit_46, lit_47, lit_48, lit_60, lit_63, lit_64, lit_77, lit_100, lit_140, lit_168, lit_200, lit_300, lit_400, lit_900, lit_1000, lit_1168, lit_1997, lit_3333, lit_9999, lit_10000, nI_10, if_false, if_true, e_sa_n isB_3 hS hP hat, e_memAt_n isB_3 hS, g1, nz], fun o x y _ => g2 o x y, g3⟩
      · exact ac_0 (r := -nI 1) np1 (fun X H K T hb => (by have hS : Rc X 3 s σ := hb.1; simp (config := {maxSteps := 1000000}) (disch := first | assumption | omega) only [f_X7_give, e_sa_n isB_3 hS hP hat, e_memAt_n isB_3 hS, neg10, m_rx0, m_rx1, m_rx2, m_rx3, m_rx4, m_ix, m_iO isB_3, m_iO isB_184, m_iO isB_365, m_iH, m_iX, m_iD, e_wi_t, e_wi_f, e_ro_t, e_ro_f, zbool_0, zbool_1, zb2_s, zif_t, zopt_n, zopt_s, b_s, znm_e, lit_0, lit_1, lit_2, lit_3, lit_4, lit_5, lit_6, lit_7, lit_8, lit_9, lit_10, lit_11, lit_12, lit_13, lit_14, lit_15, lit_16, lit_17, lit_18, lit_20, lit_24, lit_26, lit_30, lit_40, lit_45, lit_46, lit_47, lit_48, lit_60, lit_63, lit_64, lit_77, lit_100, lit_140, lit_168, lit_200, lit_300, lit_400, lit_900, lit_1000, lit_1168, lit_1997, lit_3333, lit_9999, lit_10000, nI_10, if_false, if_true]))
    · exact ac_0 (r := -nI 1) np1 (fun X H K T hb => (by have hS : Rc X 3 s σ := hb.1; simp (config := {maxSteps := 1000000}) (disch := first | assumption | omega) only [f_X7_give, e_sa_x isB_3 hS hP c2, e_memAt_n isB_3 hS, neg10, m_rx0, m_rx1, m_rx2, m_rx3, m_rx4, m_ix, m_iO isB_3, m_iO isB_184, m_iO isB_365, m_iH, m_iX, m_iD, e_wi_t, e_wi_f, e_ro_t, e_ro_f, zbool_0, zbool_1, zb2_s, zif_t, zopt_n, zopt_s, b_s, znm_e, lit_0, lit_1, lit_2, lit_3, lit_4, lit_5, lit_6, lit_7, lit_8, lit_9, lit_10, lit_11, lit_12, lit_13, lit_14, lit_15, lit_16, lit_17, lit_18, lit_20, lit_24, lit_26, lit_30, lit_40, lit_45, lit_46, lit_47, lit_48, lit_60, lit_63, lit_64, lit_77, lit_100, lit_140, lit_168, lit_200, lit_300, lit_400, lit_900, lit_1000, lit_1168, lit_1997, lit_3333, lit_9999, lit_10000, nI_10, if_false, if_true]))
  · by_cases c2 : nI 0 ≤ a2 ∧ a2 < nI (s 1)
    · obtain ⟨k, hk, rfl⟩ := in_ex c2 (by omega)
      obtain ⟨r, hr, hrk, hat⟩ := at_n hP hk
      exact ac_0 (r := -nI 1) np1 (fun X H K T hb => (by have hS : Rc X 3 s σ := hb.1; simp (config := {maxSteps := 1000000}) (disch := first | assumption | omega) only [f_X7_give, e_sa_n isB_3 hS hP hat, e_memAt_x isB_3 hS c1, neg10, m_rx0, m_rx1, m_rx2, m_rx3, m_rx4, m_ix, m_iO isB_3, m_iO isB_184, m_iO isB_365, m_iH, m_iX, m_iD, e_wi_t, e_wi_f, e_ro_t, e_ro_f, zbool_0, zbool_1, zb2_s, zif_t, zopt_n, zopt_s, b_s, znm_e, lit_0, lit_1, lit_2, lit_3, lit_4, lit_5, lit_6, lit_7, lit_8, lit_9, lit_10, lit_11, lit_12, lit_13, lit_14, lit_15, lit_16, lit_17, lit_18, lit_20, lit_24, lit_26, lit_30, lit_40, lit_45, lit_46, lit_47, lit_48, lit_60, lit_63, lit_64, lit_77, lit_100, lit_140, lit_168, lit_200, lit_300, lit_400, lit_900, lit_1000, lit_1168, lit_1997, lit_3333, lit_9999, lit_10000, nI_10, if_false, if_true]))
    · exact ac_0 (r := -nI 1) np1 (fun X H K T hb => (by have hS : Rc X 3 s σ := hb.1; simp (config := {maxSteps := 1000000}) (disch := first | assumption | omega) only [f_X7_give, e_sa_x isB_3 hS hP c2, e_memAt_x isB_3 hS c1, neg10, m_rx0, m_rx1, m_rx2, m_rx3, m_rx4, m_ix, m_iO isB_3, m_iO isB_184, m_iO isB_365, m_iH, m_iX, m_iD, e_wi_t, e_wi_f, e_ro_t, e_ro_f, zbool_0, zbool_1, zb2_s, zif_t, zopt_n, zopt_s, b_s, znm_e, lit_0, lit_1, lit_2, lit_3, lit_4, lit_5, lit_6, lit_7, lit_8, lit_9, lit_10, lit_11, lit_12, lit_13, lit_14, lit_15, lit_16, lit_17, lit_18, lit_20, lit_24, lit_26, lit_30, lit_40, lit_45, lit_46, lit_47, lit_48, lit_60, lit_63, lit_64, lit_77, lit_100, lit_140, lit_168, lit_200, lit_300, lit_400, lit_900, lit_1000, lit_1168, lit_1997, lit_3333, lit_9999, lit_10000, nI_10, if_false, if_true]))
theorem ac_giveUp {z : Nat} {s σ : Nat → Nat} (hI : Iv (s, σ)) (a1 a2 : Int32) : Ac Ng Nn (f_X7_giveUp z a1 a2) z (s, σ) := by
  have hP : PS s σ := hI.1
  have hC : Cv s := hI.2
  have hB := hP.B
  have b1 := hP.W.n48
  have b2 := hP.W.m12
  by_cases c1 : nI 0 ≤ a1 ∧ a1 < nI (s 2)
  · obtain ⟨m, hm, rfl⟩ := in_ex c1 (by omega)
    have hm12 : m < 12 := by omega
    by_cases c2 : nI 0 ≤ a2 ∧ a2 < nI (s 1)
    · obtain ⟨k, hk, rfl⟩ := in_ex c2 (by omega)
      obtain ⟨r, hr1, hrk, hat⟩ := at_n hP hk
      have hk48 : k < 48 := by omega
      have hG := rec_G hP.W hk48 (hP.1.2.1 k hk)
      have eU : UU s σ r = recS s k := by rw [UU_lt hr1, hrk]
      have b4 := rec_le4 hB (k := k) (m := m) hk48 hm12
      by_cases c3 : recS s k 5 = 0
      · by_cases c4 : recS s k (20 + m) = 0
        · refine ac_0 (r := -nI 5) ng5 (fun X H K T hb => ?_)
          have hS : Rc X 3 s σ := hb.1
          have hw1 := hS.1.1 r (by omega)
          have hs := hS.2.1.2.1 r (by omega)
          have g0 := e_isOpen (z := z) isB_3 hw1 hs (by rw [eU]; exact hG.1.1)
          have g9 := e_seats (z := z) isB_3 hw1 hs (by rw [eU]; exact hG.1.1) hm12
          rw [eU, bI_t (decide_eq_true c3)] at g0
          rw [eU, bI_f (by simp [c4])] at g9
          simp (disch := first | assumption | omega) only [f_X7_giveUp, m_rx0, m_rx1, m_rx2, m_rx3, m_rx4, m_ix, m_iO isB_3, m_iO isB_184, m_iO isB_365, m_iH, m_iX, m_iD, e_wi_t, e_wi_f, e_ro_t, e_ro_f, zbool_0, zbool_1, zb2_s, zif_t, zopt_n, zopt_s, b_s, znm_e, lit_0, lit_1, lit_2, lit_3, lit_4, lit_5, lit_6, lit_7, lit_8, lit_9, lit_10, lit_11, lit_12, lit_13, lit_14, lit_15, lit_16, lit_17, lit_18, lit_20, lit_24, lit_26, lit_30, lit_40, lit_45, lit_46, lit_47, lit_48, lit_60, lit_63, lit_64, lit_77, lit_100, lit_140, lit_168, lit_200, lit_300, lit_400, lit_900, lit_1000, lit_1168, lit_1997, lit_3333, lit_9999, lit_10000, nI_10, if_false, if_true, e_sa_n isB_3 hS hP hat, e_memAt_n isB_3 hS, m_iS isB_3, g0, g9]
        · have hP0 : PS (updN s (393 + 12 * σ r + m) 0) σ := by
            rw [hrk]
            refine PS_less hP (hB.pl hk48 hm12 (by omega)) (updN_n (by omega)) (fun i hi => updN_n (by omega)) (fun k' w hk' h1 h2 => updN_n (by omega)) (fun k' hk' h => ?_) (fun k' hk' h => ?_) (fun k' m' hk' hm' => ?_) (fun k' m' hk' hm' h => ?_)
            · rw [rec_pl_lo hk48 (by omega) hm12 (by omega)] at h; exact h
            · rw [rec_pl_lo hk48 (by omega) hm12 (by omega)] at h
              rw [updN_n (by omega)]
              exact (hP.W.2.2.1 k' hk').2 h
            · rw [rec_pl hm12 hm']; split
              · exact Or.inl rfl
              · exact Or.inr rfl
            · rw [rec_pl_lo hk48 (by omega) hm12 (by omega)] at h
              rw [rec_pl hm12 hm']; split
              · rfl
              · exact hP.W.2.1 k' m' hk' hm' (Or.inr (Or.inr h))
          obtain ⟨o2, o3, o4, o5⟩ := pl_eq hP hr1 hm12 hP0
          have hP' := hP0
          rw [hrk] at o2 o3 o4 hP'
          obtain ⟨q, hq⟩ : ∃ q, recS s k (20 + m) = q + 1 := ⟨recS s k (20 + m) - 1, by omega⟩
          refine ac_w (p' := (updN s (393 + 12 * k + m) 0, σ)) (r := nI q) (nn0 (by omega)) ⟨hP', Cv_up hP.W hC hm12 hk c3⟩ (fun X H K T hb => ?_)
          have hS : Rc X 3 s σ := hb.1
          have hw1 := hS.1.1 r (by omega)
          have hs := hS.2.1.2.1 r (by omega)
          have g0 := e_isOpen (z := z) isB_3 hw1 hs (by rw [eU]; exact hG.1.1)
          have g9 := e_seats (z := z) isB_3 hw1 hs (by rw [eU]; exact hG.1.1) hm12
          rw [eU, bI_t (decide_eq_true c3)] at g0
          rw [eU, bI_t (by simp [c4])] at g9
          obtain ⟨V1, t1, q1, q2, q3⟩ := c_rec (z := z) hb
          have g5 := e_unseat (z := z) (X := (V1, X.2.1, t1)) isB_3 hw1 (q3.1.2.1.2.1 r (by omega)) (by dsimp only; rw [eU]; exact hG.1.1) hm12
          dsimp only at g5
          have g4 := StC.seat (X := (V1, X.2.1, t1)) isB_3 q3.1 (r := r) (m := m) (v := 0) (by omega) hm12 (by omega) o5
          dsimp only at g4
          rw [eU, hq, rl_s] at g5
          have kk : KpB 3 V1 (sV V1 (3 + (7 + 3 * X.2.1 3 r)) (upd (V1 (3 + (7 + 3 * X.2.1 3 r))) m (rl 0))) := fun o _ _ _ => sV_n (by omega)
          exact ⟨(sV V1 (3 + (7 + 3 * X.2.1 3 r)) (upd (V1 (3 + (7 + 3 * X.2.1 3 r))) m (rl 0)), X.2.1, t1), by simp (disch := first | assumption | omega) only [f_X7_giveUp, m_rx0, m_rx1, m_rx2, m_rx3, m_rx4, m_ix, m_iO isB_3, m_iO isB_184, m_iO isB_365, m_iH, m_iX, m_iD, e_wi_t, e_wi_f, e_ro_t, e_ro_f, zbool_0, zbool_1, zb2_s, zif_t, zopt_n, zopt_s, b_s, znm_e, lit_0, lit_1, lit_2, lit_3, lit_4, lit_5, lit_6, lit_7, lit_8, lit_9, lit_10, lit_11, lit_12, lit_13, lit_14, lit_15, lit_16, lit_17, lit_18, lit_20, lit_24, lit_26, lit_30, lit_40, lit_45, lit_46, lit_47, lit_48, lit_60, lit_63, lit_64, lit_77, lit_100, lit_140, lit_168, lit_200, lit_300, lit_400, lit_900, lit_1000, lit_1168, lit_1997, lit_3333, lit_9999, lit_10000, nI_10, if_false, if_true, e_sa_n isB_3 hS hP hat, e_memAt_n isB_3 hS, m_iS isB_3, g0, g9, q1, g5], fun o ho => (kk o (by omega) (by omega) (by omega)).trans (q2 o (by omega)), q3.up kk (q3.2.1.kept (sV_n (by omega)) (sV_n (by omega))) g4 hP' o2 o3 o4⟩
      · refine ac_0 (r := -nI 4) ng4 (fun X H K T hb => ?_)
        have hS : Rc X 3 s σ := hb.1
        have hw1 := hS.1.1 r (by omega)
        have g0 := e_isOpen (z := z) isB_3 hw1 (hS.2.1.2.1 r (by omega)) (by rw [eU]; exact hG.1.1)
        rw [eU, bI_f (decide_eq_false c3)] at g0
        simp (disch := first | assumption | omega) only [f_X7_giveUp, m_rx0, m_rx1, m_rx2, m_rx3, m_rx4, m_ix, m_iO isB_3, m_iO isB_184, m_iO isB_365, m_iH, m_iX, m_iD, e_wi_t, e_wi_f, e_ro_t, e_ro_f, zbool_0, zbool_1, zb2_s, zif_t, zopt_n, zopt_s, b_s, znm_e, lit_0, lit_1, lit_2, lit_3, lit_4, lit_5, lit_6, lit_7, lit_8, lit_9, lit_10, lit_11, lit_12, lit_13, lit_14, lit_15, lit_16, lit_17, lit_18, lit_20, lit_24, lit_26, lit_30, lit_40, lit_45, lit_46, lit_47, lit_48, lit_60, lit_63, lit_64, lit_77, lit_100, lit_140, lit_168, lit_200, lit_300, lit_400, lit_900, lit_1000, lit_1168, lit_1997, lit_3333, lit_9999, lit_10000, nI_10, if_false, if_true, e_sa_n isB_3 hS hP hat, e_memAt_n isB_3 hS, m_iS isB_3, g0]
    · exact ac_0 (r := -nI 1) (by unfold Ng; decide) (fun X H K T hb => (by have hS : Rc X 3 s σ := hb.1; simp (config := {maxSteps := 1000000}) (disch := first | assumption | omega) only [f_X7_giveUp, e_sa_x isB_3 hS hP c2, e_memAt_n isB_3 hS, m_rx0, m_rx1, m_rx2, m_rx3, m_rx4, m_ix, m_iO isB_3, m_iO isB_184, m_iO isB_365, m_iH, m_iX, m_iD, e_wi_t, e_wi_f, e_ro_t, e_ro_f, zbool_0, zbool_1, zb2_s, zif_t, zopt_n, zopt_s, b_s, znm_e, lit_0, lit_1, lit_2, lit_3, lit_4, lit_5, lit_6, lit_7, lit_8, lit_9, lit_10, lit_11, lit_12, lit_13, lit_14, lit_15, lit_16, lit_17, lit_18, lit_20, lit_24, lit_26, lit_30, lit_40, lit_45, lit_46, lit_47, lit_48, lit_60, lit_63, lit_64, lit_77, lit_100, lit_140, lit_168, lit_200, lit_300, lit_400, lit_900, lit_1000, lit_1168, lit_1997, lit_3333, lit_9999, lit_10000, nI_10, if_false, if_true]))
  · by_cases c2 : nI 0 ≤ a2 ∧ a2 < nI (s 1)
    · obtain ⟨k, hk, rfl⟩ := in_ex c2 (by omega)
      obtain ⟨r, hr, hrk, hat⟩ := at_n hP hk
      exact ac_0 (r := -nI 1) (by unfold Ng; decide) (fun X H K T hb => (by have hS : Rc X 3 s σ := hb.1; simp (config := {maxSteps := 1000000}) (disch := first | assumption | omega) only [f_X7_giveUp, e_sa_n isB_3 hS hP hat, e_memAt_x isB_3 hS c1, m_rx0, m_rx1, m_rx2, m_rx3, m_rx4, m_ix, m_iO isB_3, m_iO isB_184, m_iO isB_365, m_iH, m_iX, m_iD, e_wi_t, e_wi_f, e_ro_t, e_ro_f, zbool_0, zbool_1, zb2_s, zif_t, zopt_n, zopt_s, b_s, znm_e, lit_0, lit_1, lit_2, lit_3, lit_4, lit_5, lit_6, lit_7, lit_8, lit_9, lit_10, lit_11, lit_12, lit_13, lit_14, lit_15, lit_16, lit_17, lit_18, lit_20, lit_24, lit_26, lit_30, lit_40, lit_45, lit_46, lit_47, lit_48, lit_60, lit_63, lit_64, lit_77, lit_100, lit_140, lit_168, lit_200, lit_300, lit_400, lit_900, lit_1000, lit_1168, lit_1997, lit_3333, lit_9999, lit_10000, nI_10, if_false, if_true]))
    · exact ac_0 (r := -nI 1) (by unfold Ng; decide) (fun X H K T hb => (by have hS : Rc X 3 s σ := hb.1; simp (config := {maxSteps := 1000000}) (disch := first | assumption | omega) only [f_X7_giveUp, e_sa_x isB_3 hS hP c2, e_memAt_x isB_3 hS c1, m_rx0, m_rx1, m_rx2, m_rx3, m_rx4, m_ix, m_iO isB_3, m_iO isB_184, m_iO isB_365, m_iH, m_iX, m_iD, e_wi_t, e_wi_f, e_ro_t, e_ro_f, zbool_0, zbool_1, zb2_s, zif_t, zopt_n, zopt_s, b_s, znm_e, lit_0, lit_1, lit_2, lit_3, lit_4, lit_5, lit_6, lit_7, lit_8, lit_9, lit_10, lit_11, lit_12, lit_13, lit_14, lit_15, lit_16, lit_17, lit_18, lit_20, lit_24, lit_26, lit_30, lit_40, lit_45, lit_46, lit_47, lit_48, lit_60, lit_63, lit_64, lit_77, lit_100, lit_140, lit_168, lit_200, lit_300, lit_400, lit_900, lit_1000, lit_1168, lit_1997, lit_3333, lit_9999, lit_10000, nI_10, if_false, if_true]))
theorem pos_ex (g : Nat → Nat) (st : Nat) : ∀ n, ∃ p, p ≤ n ∧ (∀ i, p ≤ i → i < n → st < g i) ∧ ∀ i, p = i + 1 → g i ≤ st
  | 0 => ⟨0, Nat.le_refl _, fun i a b => by omega, fun i a => by omega⟩
  | n + 1 => by
    by_cases c : g n ≤ st
    · refine ⟨n + 1, Nat.le_refl _, fun i a b => by omega, fun i a => ?_⟩
      have e : i = n := by omega
      rw [e]
      exact c
    · obtain ⟨p, a, b, d⟩ := pos_ex g st n
      refine ⟨p, by omega, fun i x y => ?_, d⟩
      by_cases e : i = n
      · rw [e]; omega
      · exact b i x (by omega)
theorem pos_un {g : Nat → Nat} {st n p p' : Nat} (h1 : p ≤ n) (h2 : ∀ i, p ≤ i → i < n → st < g i) (h3 : ∀ i, p = i + 1 → g i ≤ st) (k1 : p' ≤ n) (k2 : ∀ i, p' ≤ i → i < n → st < g i) (k3 : ∀ i, p' = i + 1 → g i ≤ st) : p = p' := by
  rcases (show p = p' ∨ p < p' ∨ p' < p by omega) with c | c | c
  · exact c
  · have a := h2 (p' - 1) (by omega) (by omega)
    have b := k3 (p' - 1) (by omega)
    omega
  · have a := k2 (p - 1) (by omega) (by omega)
    have b := h3 (p - 1) (by omega)
    omega
theorem ac_sailing {z : Nat} {s σ : Nat → Nat} (hI : Iv (s, σ)) (a1 a2 a3 a4 : Int32) : Ac Ng Nn (f_X7_sailing z a1 a2 a3 a4) z (s, σ) := by
  have hP : PS s σ := hI.1
  have hC : Cv s := hI.2
  have hB := hP.B
  have b1 := hP.W.n48
  have b2 := hP.W.m12
  by_cases c : refM s a1 a2 a3 a4 = nI 0
  · obtain ⟨f, st, h, v, rfl, rfl, rfl, rfl, x1, x2, x3, x4, x5, x6, x7, x8, x9⟩ := ref_ok hB c
    obtain ⟨pp, p1, p2, p3⟩ := pos_ex (fun i => UU s σ i 2) st (s 1)
    obtain ⟨o1, o2, o3, o4⟩ := PS_new hP x1 x2 x3 x4 x5 x6 x7 x8 x9 p1 p2 p3
    have l0 : (nI 0 ≤ nI 0) = True := eq_true (by decide)
    refine ac_w (p' := (newM s f st h v, insS σ (s 1) pp)) (r := nI (s 1)) (nn0 (by omega)) ⟨o1, Cv_new hP hC x1 x7⟩ (fun X H K T hb => ?_)
    have hS : Rc X 3 s σ := hb.1
    have g0 := e_refusal (z := z) isB_3 hS (nI f) (nI st) (nI h) (nI v)
    rw [ref_eq hP, c] at g0
    obtain ⟨V1, t1, q1, q2, q3⟩ := c_rec (z := z) hb
    have hz : ∀ m, m < 12 → UU s σ (s 1) (20 + m) = 0 := fun m hm => by rw [UU_ge (Nat.le_refl _)]; exact emp_n (by omega)
    obtain ⟨V2, pq, g1, g2, g3, g4, g5, g6, g7⟩ := e_addSail (z := z) (X := (V1, X.2.1, t1)) isB_3 q3.1 (f := f) (st := st) (h := h) (v := v) x1 hz x2 (by omega) (by omega) q3.2.1
    have ep : pq = pp := pos_un (g := fun i => UU s σ i 2) g5 g6 g7 p1 p2 p3
    subst ep
    dsimp only at g1 g4
    exact ⟨(V2, sW X.2.1 3 (insW (X.2.1 3) (s 1) pq), t1), by simp (disch := first | assumption | omega) only [f_X7_sailing, m_rx0, m_rx1, m_rx2, m_rx3, m_rx4, m_ix, m_iO isB_3, m_iO isB_184, m_iO isB_365, m_iH, m_iX, m_iD, e_wi_t, e_wi_f, e_ro_t, e_ro_f, zbool_0, zbool_1, zb2_s, zif_t, zopt_n, zopt_s, b_s, znm_e, lit_0, lit_1, lit_2, lit_3, lit_4, lit_5, lit_6, lit_7, lit_8, lit_9, lit_10, lit_11, lit_12, lit_13, lit_14, lit_15, lit_16, lit_17, lit_18, lit_20, lit_24, lit_26, lit_30, lit_40, lit_45, lit_46, lit_47, lit_48, lit_60, lit_63, lit_64, lit_77, lit_100, lit_140, lit_168, lit_200, lit_300, lit_400, lit_900, lit_1000, lit_1168, lit_1997, lit_3333, lit_9999, lit_10000, nI_10, if_false, if_true, g0, l0, q1, g1], fun o ho => (g2 o (by omega) (by omega) (by omega)).trans (q2 o (by omega)), q3.upW g2 g3 g4 o1 o2 o3 o4⟩
  · have l0 := ref_neg c
    refine ac_0 (r := refM s a1 a2 a3 a4) (Int32.not_le.mp (fun e => by rw [l0] at e; exact e)) (fun X H K T hb => ?_)
    have hS : Rc X 3 s σ := hb.1
    have g0 := e_refusal (z := z) isB_3 hS a1 a2 a3 a4
    rw [ref_eq hP] at g0
    simp (disch := first | assumption | omega) only [f_X7_sailing, m_rx0, m_rx1, m_rx2, m_rx3, m_rx4, m_ix, m_iO isB_3, m_iO isB_184, m_iO isB_365, m_iH, m_iX, m_iD, e_wi_t, e_wi_f, e_ro_t, e_ro_f, zbool_0, zbool_1, zb2_s, zif_t, zopt_n, zopt_s, b_s, znm_e, lit_0, lit_1, lit_2, lit_3, lit_4, lit_5, lit_6, lit_7, lit_8, lit_9, lit_10, lit_11, lit_12, lit_13, lit_14, lit_15, lit_16, lit_17, lit_18, lit_20, lit_24, lit_26, lit_30, lit_40, lit_45, lit_46, lit_47, lit_48, lit_60, lit_63, lit_64, lit_77, lit_100, lit_140, lit_168, lit_200, lit_300, lit_400, lit_900, lit_1000, lit_1168, lit_1997, lit_3333, lit_9999, lit_10000, nI_10, if_false, if_true, g0, l0]
theorem ac_set {z : Nat} {s σ : Nat → Nat} (hI : Iv (s, σ)) (a1 a2 : Int32) : Ac Ng Nn (f_X7_set z a1 a2) z (s, σ) := by
  have hP : PS s σ := hI.1
  have hC : Cv s := hI.2
  have hB := hP.B
  have b1 := hP.W.n48
  have b2 := hP.W.m12
  by_cases c1 : nI 0 ≤ a1 ∧ a1 ≤ nI 4
  · obtain ⟨i, i0, i9, rfl⟩ := wi_ex c1 (by omega) (by omega)
    have hi : i < 5 := by omega
    have hml := mxN_l (i := i)
    have g0 := e_tab hi
    by_cases c2 : nI 0 ≤ a2 ∧ a2 ≤ nI (mxN i)
    · obtain ⟨v, v0, v9, rfl⟩ := wi_ex c2 (by omega) (by omega)
      have lt0 : s (4 + i) < 1000 := by
        obtain ⟨_, _, _, ⟨d1, d2, d3, d4, d5⟩, _⟩ := hB.1
        rcases (show i = 0 ∨ i = 1 ∨ i = 2 ∨ i = 3 ∨ i = 4 by omega) with rfl | rfl | rfl | rfl | rfl
        · show s 4 < 1000; omega
        · show s 5 < 1000; omega
        · show s 6 < 1000; omega
        · show s 7 < 1000; omega
        · show s 8 < 1000; omega
      by_cases c3 : v = s (4 + i)
      · have eT : (nI v = nI (s (4 + i))) = True := eq_true (by rw [c3])
        refine ac_0 (r := -nI 5) ng5 (fun X H K T hb => ?_)
        have hS : Rc X 3 s σ := hb.1
        have st0 := hS.2.1.1.2.2.2 i hi
        simp (config := {maxSteps := 1000000}) (disch := first | assumption | omega) only [f_X7_set, m_rx0, m_rx1, m_rx2, m_rx3, m_rx4, m_ix, m_iO isB_3, m_iO isB_184, m_iO isB_365, m_iH, m_iX, m_iD, e_wi_t, e_wi_f, e_ro_t, e_ro_f, zbool_0, zbool_1, zb2_s, zif_t, zopt_n, zopt_s, b_s, znm_e, lit_0, lit_1, lit_2, lit_3, lit_4, lit_5, lit_6, lit_7, lit_8, lit_9, lit_10, lit_11, lit_12, lit_13, lit_14, lit_15, lit_16, lit_17, lit_18, lit_20, lit_24, lit_26, lit_30, lit_40, lit_45, lit_46, lit_47, lit_48, lit_60, lit_63, lit_64, lit_77, lit_100, lit_140, lit_168, lit_200, lit_300, lit_400, lit_900, lit_1000, lit_1168, lit_1997, lit_3333, lit_9999, lit_10000, nI_10, if_false, if_true, g0, m_rO1 isB_3, m_ldT isB_3, st0, eT]
      · have eT := ne_eqF c3 (by omega) (by omega)
        obtain ⟨s', hs'⟩ : ∃ s', s' = updN s (4 + i) v := ⟨_, rfl⟩
        have hB' : RB s' := by rw [hs']; exact hB.set hi v9
        have hG' : SG (updN s (4 + i) v) := by rw [← hs']; exact hB'.1
        have ho : ∀ j, ¬ (4 ≤ j ∧ j < 9) → s' j = s j := fun j hj => by rw [hs', updN_n (by omega)]
        have hh : ∀ j, 9 ≤ j → j < 969 → s' j = s j := fun j a b => ho j (by omega)
        have hW' := W0_cg hP.W hB' (ho 0 (by omega)) (ho 1 (by omega)) (ho 2 (by omega)) hh
        have hU' := UU_same hP (ho 1 (by omega)) hh
        have eA : aA (armB s' (UU s σ)) 0 (s' 2) = aA (fun m => rsM s' (dcN s' m)) 0 (s 2) := by
          rw [ho 2 (by omega)]
          exact aA_cg2 _ _ (fun m _ hm => by rw [← hU']; exact arm_eq hW' (by rw [ho 1 (by omega)]; exact hP.2.1) (by omega))
        have PRE : ∀ X H K T, Bc X (s, σ) H K T → ∃ V1 V2, f_X5_copyFrom (z + 365) (z + 3) (hp z X) = some (hp z (V1, X.2)) ∧ (∀ x, zst (hp z (V1, X.2)) (z + (365 + 1)) 0 (nI i) x = some (hp z (sV V1 (365 + 1) (upd (V1 (365 + 1)) i x), X.2))) ∧ f_X5_allRestsHold (z + 365) (hp z (sV V1 (365 + 1) (upd (V1 (365 + 1)) i (nI v)), X.2)) = some (bI (aA (fun m => rsM s' (dcN s' m)) 0 (s 2)), hp z (V2, X.2)) ∧ KpT X.1 V2 ∧ DuE V2 := fun X H K T hb => by
          have hS : Rc X 3 s σ := hb.1
          obtain ⟨V1, p1, p2, p3⟩ := e_copy (z := z) isB_365 isB_3 (by omega) hS hb.2.2.2.1
          have p4 := StC.setg (i := i) (v := v) isB_365 p3 hi hG'
          dsimp only at p4
          rw [← hs'] at p4
          have d1 : DuE V1 := hb.2.1.kept (p2 1 (by omega)) (p2 2 (by omega))
          have d2 : DuE (sV V1 (365 + 1) (upd (V1 (365 + 1)) i (nI v))) := d1.kept (sV_n (by omega)) (sV_n (by omega))
          obtain ⟨V2, j1, j2, j3⟩ := e_allRests (z := z) isB_365 p4 d2
          try dsimp only at j1
          rw [eA] at j1
          have kT : KpT X.1 V2 := fun o a b c => by rw [j2 o a b]; exact (sV_n (by omega)).trans (p2 o (by omega))
          exact ⟨V1, V2, p1, fun x => m_stT isB_365 hi, j1, kT, j3⟩
        cases c4 : aA (fun m => rsM s' (dcN s' m)) 0 (s 2) with
        | false =>
          refine Or.inl ⟨-nI 4, ng4, fun X H K T hb => ?_⟩
          have hS : Rc X 3 s σ := hb.1
          have st0 := hS.2.1.1.2.2.2 i hi
          obtain ⟨V1, V2, p1, st1, j1, kT, j3⟩ := PRE X H K T hb
          rw [bI_f c4] at j1
          exact ⟨V2, by simp (config := {maxSteps := 1000000}) (disch := first | assumption | omega) only [f_X7_set, m_rx0, m_rx1, m_rx2, m_rx3, m_rx4, m_ix, m_iO isB_3, m_iO isB_184, m_iO isB_365, m_iH, m_iX, m_iD, e_wi_t, e_wi_f, e_ro_t, e_ro_f, zbool_0, zbool_1, zb2_s, zif_t, zopt_n, zopt_s, b_s, znm_e, lit_0, lit_1, lit_2, lit_3, lit_4, lit_5, lit_6, lit_7, lit_8, lit_9, lit_10, lit_11, lit_12, lit_13, lit_14, lit_15, lit_16, lit_17, lit_18, lit_20, lit_24, lit_26, lit_30, lit_40, lit_45, lit_46, lit_47, lit_48, lit_60, lit_63, lit_64, lit_77, lit_100, lit_140, lit_168, lit_200, lit_300, lit_400, lit_900, lit_1000, lit_1168, lit_1997, lit_3333, lit_9999, lit_10000, nI_10, if_false, if_true, g0, m_rO1 isB_3, m_rO1 isB_365, m_ldT isB_3, st0, eT, p1, st1, j1], kT, j3⟩
        | true =>
          have hP' : PS s' σ := PS_set hP hB' ho (fun m hm => aA_all _ _ c4 m (Nat.zero_le _) (by omega))
          have hC' : Cv s' := Cv_cg hP.W hC (ho 1 (by omega)) hh (fun m w a b => ho _ (by omega))
          refine ac_w (p' := (s', σ)) (r := nI (s (4 + i))) (nn0 (by omega)) ⟨hP', hC'⟩ (fun X H K T hb => ?_)
          have hS : Rc X 3 s σ := hb.1
          have st0 := hS.2.1.1.2.2.2 i hi
          obtain ⟨V1, V2, p1, st1, j1, kT, j3⟩ := PRE X H K T hb
          rw [bI_t c4] at j1
          have hb0 := hb.kt kT j3
          obtain ⟨V4, t1, q1, q2, q3⟩ := c_rec (z := z) hb0
          dsimp only at q1
          have g4 := StC.setg (i := i) (v := v) isB_3 q3.1 hi hG'
          dsimp only at g4
          rw [← hs'] at g4
          have kk : KpB 3 V4 (sV V4 (3 + 1) (upd (V4 (3 + 1)) i (nI v))) := fun o _ _ _ => sV_n (by omega)
          have st2 : ∀ x, zst (hp z (V4, X.2.1, t1)) (z + (3 + 1)) 0 (nI i) x = some (hp z (sV V4 (3 + 1) (upd (V4 (3 + 1)) i x), X.2.1, t1)) := fun x => m_stT isB_3 hi
          exact ⟨(sV V4 (3 + 1) (upd (V4 (3 + 1)) i (nI v)), X.2.1, t1), by simp (config := {maxSteps := 1000000}) (disch := first | assumption | omega) only [f_X7_set, m_rx0, m_rx1, m_rx2, m_rx3, m_rx4, m_ix, m_iO isB_3, m_iO isB_184, m_iO isB_365, m_iH, m_iX, m_iD, e_wi_t, e_wi_f, e_ro_t, e_ro_f, zbool_0, zbool_1, zb2_s, zif_t, zopt_n, zopt_s, b_s, znm_e, lit_0, lit_1, lit_2, lit_3, lit_4, lit_5, lit_6, lit_7, lit_8, lit_9, lit_10, lit_11, lit_12, lit_13, lit_14, lit_15, lit_16, lit_17, lit_18, lit_20, lit_24, lit_26, lit_30, lit_40, lit_45, lit_46, lit_47, lit_48, lit_60, lit_63, lit_64, lit_77, lit_100, lit_140, lit_168, lit_200, lit_300, lit_400, lit_900, lit_1000, lit_1168, lit_1997, lit_3333, lit_9999, lit_10000, nI_10, if_false, if_true, g0, m_rO1 isB_3, m_rO1 isB_365, m_ldT isB_3, st0, eT, p1, st1, j1, q1, st2], fun o h => (kk o (by omega) (by omega) (by omega)).trans ((q2 o (by omega)).trans (kT o (by omega) (by omega) (by omega))), q3.up kk (q3.2.1.kept (sV_n (by omega)) (sV_n (by omega))) g4 hP' (fun _ _ => rfl) (by dsimp only; rw [hU']; exact fun _ _ _ _ => rfl) (fun q _ => (lsS_cg (fun j hj => ho j (by omega)) q).symm)⟩
    · exact ac_0 (r := -nI 2) (by unfold Ng; decide) (fun X H K T hb => (by have hS : Rc X 3 s σ := hb.1; simp (config := {maxSteps := 1000000}) (disch := first | assumption | omega) only [f_X7_set, g0, m_rx0, m_rx1, m_rx2, m_rx3, m_rx4, m_ix, m_iO isB_3, m_iO isB_184, m_iO isB_365, m_iH, m_iX, m_iD, e_wi_t, e_wi_f, e_ro_t, e_ro_f, zbool_0, zbool_1, zb2_s, zif_t, zopt_n, zopt_s, b_s, znm_e, lit_0, lit_1, lit_2, lit_3, lit_4, lit_5, lit_6, lit_7, lit_8, lit_9, lit_10, lit_11, lit_12, lit_13, lit_14, lit_15, lit_16, lit_17, lit_18, lit_20, lit_24, lit_26, lit_30, lit_40, lit_45, lit_46, lit_47, lit_48, lit_60, lit_63, lit_64, lit_77, lit_100, lit_140, lit_168, lit_200, lit_300, lit_400, lit_900, lit_1000, lit_1168, lit_1997, lit_3333, lit_9999, lit_10000, nI_10, if_false, if_true]))
  · exact ac_0 (r := -nI 2) (by unfold Ng; decide) (fun X H K T hb => (by have hS : Rc X 3 s σ := hb.1; simp (config := {maxSteps := 1000000}) (disch := first | assumption | omega) only [f_X7_set, m_rx0, m_rx1, m_rx2, m_rx3, m_rx4, m_ix, m_iO isB_3, m_iO isB_184, m_iO isB_365, m_iH, m_iX, m_iD, e_wi_t, e_wi_f, e_ro_t, e_ro_f, zbool_0, zbool_1, zb2_s, zif_t, zopt_n, zopt_s, b_s, znm_e, lit_0, lit_1, lit_2, lit_3, lit_4, lit_5, lit_6, lit_7, lit_8, lit_9, lit_10, lit_11, lit_12, lit_13, lit_14, lit_15, lit_16, lit_17, lit_18, lit_20, lit_24, lit_26, lit_30, lit_40, lit_45, lit_46, lit_47, lit_48, lit_60, lit_63, lit_64, lit_77, lit_100, lit_140, lit_168, lit_200, lit_300, lit_400, lit_900, lit_1000, lit_1168, lit_1997, lit_3333, lit_9999, lit_10000, nI_10, if_false, if_true]))
