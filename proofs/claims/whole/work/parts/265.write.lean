/-! the calls that change -/
theorem sm_w {F G : zHp → Option (Int32 × zHp)} {z : Nat} {X : pX} {p p' : sS} {H : List sS} {K : Option sS} {T : List Int32} {r : Int32} {V2 : pV} {W : Nat → Nat → Nat} {t1 : Nat → Nat} (hp' : Pp p H K T) (h1 : F (hp z X) = some (r, hp z (V2, W, t1))) (hk : ∀ o, 1278 ≤ o → V2 o = X.1 o) (hb2 : Bc (V2, W, t1) p' (rec4 H p) K T) (hP : PS p'.1 p'.2) (h2 : ∀ Y : pX, Bm Y.1 p H K T → ∀ V1, f_X8_record (z + 1278) (hp z Y) = some (hp z (V1, Y.2)) → (∀ o, o < 1278 → V1 o = Y.1 o) → RoC V1 p.1 → ∃ V3, G (hp z Y) = some (r, hp z (V3, Y.2)) ∧ KpA V1 V3 ∧ RoC V3 p'.1) : SmT F G z X p H K T := by
  refine ⟨r, (V2, W, t1), p', rec4 H p, K, T, h1, hk, hp'.rec.st hP, hb2, fun Y hY => ?_⟩
  obtain ⟨V1, k1, k2, k3⟩ := m_rec (z := z) hY
  obtain ⟨V3, g1, g2, g3⟩ := h2 Y hY V1 k1 k2 k3.1
  exact ⟨V3, g1, fun o ho => (g2.lo o ho).trans (k2 o ho), k3.up g2.up g3⟩
theorem sm_cancel {z : Nat} {X : pX} {p : sS} {H : List sS} {K : Option sS} {T : List Int32} (hp' : Pp p H K T) (hb : Bc X p H K T) (a1 : Int32) : SmT (f_X7_cancel z a1) (f_X8_cancel (z + 1278) a1) z X p H K T := by
  obtain ⟨s, σ⟩ := p
  have hP : PS s σ := hp'.1
  have hS : Rc X 3 s σ := hb.1
  have hB := hP.B
  have b1 := hP.W.n48
  have b2 := hP.W.m12
  by_cases c1 : nI 0 ≤ a1 ∧ a1 < nI (s 1)
  · obtain ⟨k, hk, rfl⟩ := in_ex c1 (by omega)
    obtain ⟨r, hr1, hrk, hat⟩ := at_n hP hk
    have hk48 : k < 48 := by omega
    have hw1 := hS.1.1 r (by omega)
    have hs := hS.2.1.2.1 r (by omega)
    have hG := rec_G hP.W hk48 (hP.1.2.1 k hk)
    have eU : UU s σ r = recS s k := by rw [UU_lt hr1, hrk]
    have g0 := e_isOpen (z := z) isB_3 hw1 hs (by rw [eU]; exact hG.1.1)
    rw [eU] at g0
    by_cases c2 : recS s k 5 = 0
    · rw [bI_t (decide_eq_true c2)] at g0
      obtain ⟨V1, t1, q1, q2, q3⟩ := c_rec (z := z) hb
      obtain ⟨V2, g1, g2, g3, g4⟩ := e_off (z := z) (X := (V1, X.2.1, t1)) isB_3 q3.1 (r := r) (by omega) q3.2.1
      dsimp only at g1
      have e1 : tkU (UU s σ r) = tkO s k := by rw [eU, tkU_O hP.W hk48]
      rw [e1] at g1
      obtain ⟨o1, o2, o3, o4⟩ := off_ok hP hr1 (by rw [hrk]; exact c2)
      rw [hrk] at o1 o2 o3 o4
      refine sm_w (p' := (clrM (updN s (9 + 8 * k + 0) 2) k 12, σ)) hp' (r := nI (tkO s k)) ?_ (fun o ho => (g2 o (by omega) (by omega) (by omega)).trans (q2 o (by omega))) (q3.up g2 g3 g4 o1 o2 o3 o4) o1 (fun Y hY V1 k1 k2 k3 => ?_)
      · simp (disch := first | assumption | omega) only [f_X7_cancel, m_rx0, m_rx1, m_rx2, m_rx3, m_rx4, m_ix, m_iO isB_3, m_iO isB_184, m_iO isB_365, m_iH, m_iX, m_iD, m_im, m_rm0, e_wi_t, e_wi_f, e_ro_t, e_ro_f, e8_wi_t, e8_wi_f, e8_ro_t, e8_ro_f, zbool_0, zbool_1, zb2_s, zif_t, zopt_n, zopt_s, b_s, znm_e, lit_0, lit_1, lit_2, lit_3, lit_4, lit_5, lit_6, lit_7, lit_8, lit_9, lit_10, lit_11, lit_12, lit_13, lit_17, lit_20, lit_23, lit_24, lit_43, lit_48, lit_51, lit_57, lit_58, lit_59, lit_60, lit_61, lit_63, lit_77, lit_100, lit_140, lit_168, lit_200, lit_393, lit_400, lit_900, lit_969, lit_1000, lit_1041, lit_1045, lit_1093, lit_1168, lit_1200, lit_3279, lit_3333, lit_4372, lit_9999, nI_10, if_false, if_true, e_sa_n isB_3 hS hP hat, m_iS isB_3, g0, q1, g1]
      · have hr : RoC Y.1 s := hY.1
        obtain ⟨V3, m1, m2, m3⟩ := e8_cancelNow (z := z) (X := (V1, Y.2)) k3 hk48
        have m4 := e8_is (z := z) hr hB hk48 (v := 0) (by omega)
        rw [bI_t (decide_eq_true c2)] at m4
        have m5 := e8_takenOf (z := z) hr hB hk48
        refine ⟨V3, ?_, m2.A, m3⟩
        simp (disch := first | assumption | omega) only [f_X8_cancel, m_rx0, m_rx1, m_rx2, m_rx3, m_rx4, m_ix, m_iO isB_3, m_iO isB_184, m_iO isB_365, m_iH, m_iX, m_iD, m_im, m_rm0, e_wi_t, e_wi_f, e_ro_t, e_ro_f, e8_wi_t, e8_wi_f, e8_ro_t, e8_ro_f, zbool_0, zbool_1, zb2_s, zif_t, zopt_n, zopt_s, b_s, znm_e, lit_0, lit_1, lit_2, lit_3, lit_4, lit_5, lit_6, lit_7, lit_8, lit_9, lit_10, lit_11, lit_12, lit_13, lit_17, lit_20, lit_23, lit_24, lit_43, lit_48, lit_51, lit_57, lit_58, lit_59, lit_60, lit_61, lit_63, lit_77, lit_100, lit_140, lit_168, lit_200, lit_393, lit_400, lit_900, lit_969, lit_1000, lit_1041, lit_1045, lit_1093, lit_1168, lit_1200, lit_3279, lit_3333, lit_4372, lit_9999, nI_10, if_false, if_true, e8_sa_t hr hB c1, m4, m5, k1, m1]
    · rw [bI_f (decide_eq_false c2)] at g0
      refine sm_0 (r := -nI 4) hp' hb (by simp (disch := first | assumption | omega) only [f_X7_cancel, m_rx0, m_rx1, m_rx2, m_rx3, m_rx4, m_ix, m_iO isB_3, m_iO isB_184, m_iO isB_365, m_iH, m_iX, m_iD, m_im, m_rm0, e_wi_t, e_wi_f, e_ro_t, e_ro_f, e8_wi_t, e8_wi_f, e8_ro_t, e8_ro_f, zbool_0, zbool_1, zb2_s, zif_t, zopt_n, zopt_s, b_s, znm_e, lit_0, lit_1, lit_2, lit_3, lit_4, lit_5, lit_6, lit_7, lit_8, lit_9, lit_10, lit_11, lit_12, lit_13, lit_17, lit_20, lit_23, lit_24, lit_43, lit_48, lit_51, lit_57, lit_58, lit_59, lit_60, lit_61, lit_63, lit_77, lit_100, lit_140, lit_168, lit_200, lit_393, lit_400, lit_900, lit_969, lit_1000, lit_1041, lit_1045, lit_1093, lit_1168, lit_1200, lit_3279, lit_3333, lit_4372, lit_9999, nI_10, if_false, if_true, e_sa_n isB_3 hS hP hat, m_iS isB_3, g0]) (fun Y hY => ?_)
      have hr : RoC Y.1 s := hY.1
      have m4 := e8_is (z := z) hr hB hk48 (v := 0) (by omega)
      rw [bI_f (decide_eq_false c2)] at m4
      simp (disch := first | assumption | omega) only [f_X8_cancel, m_rx0, m_rx1, m_rx2, m_rx3, m_rx4, m_ix, m_iO isB_3, m_iO isB_184, m_iO isB_365, m_iH, m_iX, m_iD, m_im, m_rm0, e_wi_t, e_wi_f, e_ro_t, e_ro_f, e8_wi_t, e8_wi_f, e8_ro_t, e8_ro_f, zbool_0, zbool_1, zb2_s, zif_t, zopt_n, zopt_s, b_s, znm_e, lit_0, lit_1, lit_2, lit_3, lit_4, lit_5, lit_6, lit_7, lit_8, lit_9, lit_10, lit_11, lit_12, lit_13, lit_17, lit_20, lit_23, lit_24, lit_43, lit_48, lit_51, lit_57, lit_58, lit_59, lit_60, lit_61, lit_63, lit_77, lit_100, lit_140, lit_168, lit_200, lit_393, lit_400, lit_900, lit_969, lit_1000, lit_1041, lit_1045, lit_1093, lit_1168, lit_1200, lit_3279, lit_3333, lit_4372, lit_9999, nI_10, if_false, if_true, e8_sa_t hr hB c1, m4]
  · exact sm_0 (r := -nI 1) hp' hb (by simp (config := {maxSteps := 1000000}) (disch := first | assumption | omega) only [f_X7_cancel, e_sa_x isB_3 hS hP c1, m_rx0, m_rx1, m_rx2, m_rx3, m_rx4, m_ix, m_iO isB_3, m_iO isB_184, m_iO isB_365, m_iH, m_iX, m_iD, m_im, m_rm0, e_wi_t, e_wi_f, e_ro_t, e_ro_f, e8_wi_t, e8_wi_f, e8_ro_t, e8_ro_f, zbool_0, zbool_1, zb2_s, zif_t, zopt_n, zopt_s, b_s, znm_e, lit_0, lit_1, lit_2, lit_3, lit_4, lit_5, lit_6, lit_7, lit_8, lit_9, lit_10, lit_11, lit_12, lit_13, lit_17, lit_20, lit_23, lit_24, lit_43, lit_48, lit_51, lit_57, lit_58, lit_59, lit_60, lit_61, lit_63, lit_77, lit_100, lit_140, lit_168, lit_200, lit_393, lit_400, lit_900, lit_969, lit_1000, lit_1041, lit_1045, lit_1093, lit_1168, lit_1200, lit_3279, lit_3333, lit_4372, lit_9999, nI_10, if_false, if_true]) (fun Y hY => (by have hr : RoC Y.1 s := hY.1; simp (config := {maxSteps := 1000000}) (disch := first | assumption | omega) only [f_X8_cancel, e8_sa_f hr hB c1, m_rx0, m_rx1, m_rx2, m_rx3, m_rx4, m_ix, m_iO isB_3, m_iO isB_184, m_iO isB_365, m_iH, m_iX, m_iD, m_im, m_rm0, e_wi_t, e_wi_f, e_ro_t, e_ro_f, e8_wi_t, e8_wi_f, e8_ro_t, e8_ro_f, zbool_0, zbool_1, zb2_s, zif_t, zopt_n, zopt_s, b_s, znm_e, lit_0, lit_1, lit_2, lit_3, lit_4, lit_5, lit_6, lit_7, lit_8, lit_9, lit_10, lit_11, lit_12, lit_13, lit_17, lit_20, lit_23, lit_24, lit_43, lit_48, lit_51, lit_57, lit_58, lit_59, lit_60, lit_61, lit_63, lit_77, lit_100, lit_140, lit_168, lit_200, lit_393, lit_400, lit_900, lit_969, lit_1000, lit_1041, lit_1045, lit_1093, lit_1168, lit_1200, lit_3279, lit_3333, lit_4372, lit_9999, nI_10, if_false, if_true]))
theorem ne_eqF {a b : Nat} (h : a ≠ b) (ha : a < 2 ^ 31) (hb : b < 2 ^ 31) : (nI a = nI b) = False := eq_false (fun e => h ((nI_eq ha hb).mp e))
theorem r_ldV {z : Nat} {V : pV} {W : (Nat → Nat → Nat) × (Nat → Nat)} {s : Nat → Nat} (hr : RoC V s) {i : Nat} (hi : i < 1093) : zld (hp z (V, W)) (z + 1279) 0 (nI i) = some (nI (s i)) := r_ld (X := (V, W)) hr hi
theorem sm_member {z : Nat} {X : pX} {p : sS} {H : List sS} {K : Option sS} {T : List Int32} (hp' : Pp p H K T) (hb : Bc X p H K T) (a1 a2 : Int32) : SmT (f_X7_member z a1 a2) (f_X8_member (z + 1278) a1 a2) z X p H K T := by
  obtain ⟨s, σ⟩ := p
  have hP : PS s σ := hp'.1
  have hS : Rc X 3 s σ := hb.1
  have hB := hP.B
  have b1 := hP.W.n48
  have b2 := hP.W.m12
  have s2 : X.1 3 4 = nI (s 2) := hS.2.1.1.2.2.1
  by_cases c1 : nI 0 ≤ a1 ∧ a1 < nI 4
  · obtain ⟨q, hq, rfl⟩ := in_ex c1 (by omega)
    by_cases c2 : nI 0 ≤ a2 ∧ a2 ≤ nI 9999
    · obtain ⟨v, v0, v9, rfl⟩ := wi_ex c2 (by omega) (by omega)
      by_cases c3 : s 2 < 12
      · obtain ⟨V1, t1, q1, q2, q3⟩ := c_rec (z := z) hb
        obtain ⟨V2, g1, g2, g3, g4⟩ := e_addMem (z := z) (X := (V1, X.2.1, t1)) isB_3 q3.1 (q := q) (v := v) c3 hq (by omega) (hP.1.2.2.2.1 q hq).1 q3.2.1
        obtain ⟨o1, o2, o3, o4, o5⟩ := memb_eq (v := v) hP hq c3 (by omega)
        have eT : (s 2 < 12) = True := eq_true c3
        refine sm_w (p' := (memM s q v, σ)) hp' (r := nI (s 2)) ?_ (fun o ho => (g2 o (by omega) (by omega) (by omega)).trans (q2 o (by omega))) (q3.up g2 g3 g4 o1 o2 o3 o4) o1 (fun Y hY V1 k1 k2 k3 => ?_)
        · simp (disch := first | assumption | omega) only [f_X7_member, m_rx0, m_rx1, m_rx2, m_rx3, m_rx4, m_ix, m_iO isB_3, m_iO isB_184, m_iO isB_365, m_iH, m_iX, m_iD, m_im, m_rm0, e_wi_t, e_wi_f, e_ro_t, e_ro_f, e8_wi_t, e8_wi_f, e8_ro_t, e8_ro_f, zbool_0, zbool_1, zb2_s, zif_t, zopt_n, zopt_s, b_s, znm_e, lit_0, lit_1, lit_2, lit_3, lit_4, lit_5, lit_6, lit_7, lit_8, lit_9, lit_10, lit_11, lit_12, lit_13, lit_17, lit_20, lit_23, lit_24, lit_43, lit_48, lit_51, lit_57, lit_58, lit_59, lit_60, lit_61, lit_63, lit_77, lit_100, lit_140, lit_168, lit_200, lit_393, lit_400, lit_900, lit_969, lit_1000, lit_1041, lit_1045, lit_1093, lit_1168, lit_1200, lit_3279, lit_3333, lit_4372, lit_9999, nI_10, if_false, if_true, m_gO4 isB_3, s2, nI_ltE, eT, q1, g1]
        · have hr : RoC Y.1 s := hY.1
          have r0 := fun i (hi : i < 1093) => r_ld (z := z) hr hi
          have r1 := fun i (hi : i < 1093) => r_ld (z := z) (X := (V1, Y.2)) k3 hi
          have h1 := k3.st 2 (s 2 + 1)
          have h2 := h1.st (969 + 6 * s 2 + q) v
          have r2 := fun i (hi : i < 1093) => r_ldV (z := z) (W := Y.2) h2 hi
          have h3 := h2.st (1045 + 12 * q + s (1041 + q)) (s 2)
          have r3 := fun i (hi : i < 1093) => r_ldV (z := z) (W := Y.2) h3 hi
          have h4 := h3.st (1041 + q) (s (1041 + q) + 1)
          have e2 : updN (updN s 2 (s 2 + 1)) (969 + 6 * s 2 + q) v (1041 + q) = s (1041 + q) := by rw [updN_n (by omega), updN_n (by omega)]
          have e3 : updN (updN (updN s 2 (s 2 + 1)) (969 + 6 * s 2 + q) v) (1045 + 12 * q + s (1041 + q)) (s 2) (1041 + q) = s (1041 + q) := by rw [updN_n (by omega), e2]
          have nt := fun V => e8_note (z := z) (X := (V, Y.2)) (m := s 2) (w := q) c3 (by omega) (nI v)
          have e4 : memM s q v = updN (updN (updN (updN s 2 (s 2 + 1)) (969 + 6 * s 2 + q) v) (1045 + 12 * q + s (1041 + q)) (s 2)) (1041 + q) (s (1041 + q) + 1) := by
            unfold memM appM
            rw [e2]
          refine ⟨_, ?_, ?_, by dsimp only; rw [e4]; exact h4⟩
          · simp (config := {maxSteps := 1000000}) (disch := first | assumption | omega) only [f_X8_member, m_rx0, m_rx1, m_rx2, m_rx3, m_rx4, m_ix, m_iO isB_3, m_iO isB_184, m_iO isB_365, m_iH, m_iX, m_iD, m_im, m_rm0, e_wi_t, e_wi_f, e_ro_t, e_ro_f, e8_wi_t, e8_wi_f, e8_ro_t, e8_ro_f, zbool_0, zbool_1, zb2_s, zif_t, zopt_n, zopt_s, b_s, znm_e, lit_0, lit_1, lit_2, lit_3, lit_4, lit_5, lit_6, lit_7, lit_8, lit_9, lit_10, lit_11, lit_12, lit_13, lit_17, lit_20, lit_23, lit_24, lit_43, lit_48, lit_51, lit_57, lit_58, lit_59, lit_60, lit_61, lit_63, lit_77, lit_100, lit_140, lit_168, lit_200, lit_393, lit_400, lit_900, lit_969, lit_1000, lit_1041, lit_1045, lit_1093, lit_1168, lit_1200, lit_3279, lit_3333, lit_4372, lit_9999, nI_10, if_false, if_true, r0, r1, r2, r3, e2, e3, ne_eqF, k1, m_st1279, nt, nI_add, nI_mul]
          · exact (((KpM.up.tr KpM.up).tr KpM.up).tr KpM.up).A
      · have e12 : s 2 = 12 := by omega
        have eT : (s 2 < 12) = False := eq_false c3
        have eU : (12 < 12) = False := eq_false (Nat.lt_irrefl _)
        refine sm_0 (r := -nI 3) hp' hb (by simp (disch := first | assumption | omega) only [f_X7_member, m_rx0, m_rx1, m_rx2, m_rx3, m_rx4, m_ix, m_iO isB_3, m_iO isB_184, m_iO isB_365, m_iH, m_iX, m_iD, m_im, m_rm0, e_wi_t, e_wi_f, e_ro_t, e_ro_f, e8_wi_t, e8_wi_f, e8_ro_t, e8_ro_f, zbool_0, zbool_1, zb2_s, zif_t, zopt_n, zopt_s, b_s, znm_e, lit_0, lit_1, lit_2, lit_3, lit_4, lit_5, lit_6, lit_7, lit_8, lit_9, lit_10, lit_11, lit_12, lit_13, lit_17, lit_20, lit_23, lit_24, lit_43, lit_48, lit_51, lit_57, lit_58, lit_59, lit_60, lit_61, lit_63, lit_77, lit_100, lit_140, lit_168, lit_200, lit_393, lit_400, lit_900, lit_969, lit_1000, lit_1041, lit_1045, lit_1093, lit_1168, lit_1200, lit_3279, lit_3333, lit_4372, lit_9999, nI_10, if_false, if_true, m_gO4 isB_3, s2, nI_ltE, eT]) (fun Y hY => ?_)
        have hr : RoC Y.1 s := hY.1
        simp (disch := first | assumption | omega) only [f_X8_member, m_rx0, m_rx1, m_rx2, m_rx3, m_rx4, m_ix, m_iO isB_3, m_iO isB_184, m_iO isB_365, m_iH, m_iX, m_iD, m_im, m_rm0, e_wi_t, e_wi_f, e_ro_t, e_ro_f, e8_wi_t, e8_wi_f, e8_ro_t, e8_ro_f, zbool_0, zbool_1, zb2_s, zif_t, zopt_n, zopt_s, b_s, znm_e, lit_0, lit_1, lit_2, lit_3, lit_4, lit_5, lit_6, lit_7, lit_8, lit_9, lit_10, lit_11, lit_12, lit_13, lit_17, lit_20, lit_23, lit_24, lit_43, lit_48, lit_51, lit_57, lit_58, lit_59, lit_60, lit_61, lit_63, lit_77, lit_100, lit_140, lit_168, lit_200, lit_393, lit_400, lit_900, lit_969, lit_1000, lit_1041, lit_1045, lit_1093, lit_1168, lit_1200, lit_3279, lit_3333, lit_4372, lit_9999, nI_10, if_false, if_true, r_ld hr, e12]
    · exact sm_0 (r := -nI 2) hp' hb (by simp (config := {maxSteps := 1000000}) (disch := first | assumption | omega) only [f_X7_member, m_rx0, m_rx1, m_rx2, m_rx3, m_rx4, m_ix, m_iO isB_3, m_iO isB_184, m_iO isB_365, m_iH, m_iX, m_iD, m_im, m_rm0, e_wi_t, e_wi_f, e_ro_t, e_ro_f, e8_wi_t, e8_wi_f, e8_ro_t, e8_ro_f, zbool_0, zbool_1, zb2_s, zif_t, zopt_n, zopt_s, b_s, znm_e, lit_0, lit_1, lit_2, lit_3, lit_4, lit_5, lit_6, lit_7, lit_8, lit_9, lit_10, lit_11, lit_12, lit_13, lit_17, lit_20, lit_23, lit_24, lit_43, lit_48, lit_51, lit_57, lit_58, lit_59, lit_60, lit_61, lit_63, lit_77, lit_100, lit_140, lit_168, lit_200, lit_393, lit_400, lit_900, lit_969, lit_1000, lit_1041, lit_1045, lit_1093, lit_1168, lit_1200, lit_3279, lit_3333, lit_4372, lit_9999, nI_10, if_false, if_true]) (fun Y hY => (by have hr : RoC Y.1 s := hY.1; simp (config := {maxSteps := 1000000}) (disch := first | assumption | omega) only [f_X8_member, m_rx0, m_rx1, m_rx2, m_rx3, m_rx4, m_ix, m_iO isB_3, m_iO isB_184, m_iO isB_365, m_iH, m_iX, m_iD, m_im, m_rm0, e_wi_t, e_wi_f, e_ro_t, e_ro_f, e8_wi_t, e8_wi_f, e8_ro_t, e8_ro_f, zbool_0, zbool_1, zb2_s, zif_t, zopt_n, zopt_s, b_s, znm_e, lit_0, lit_1, lit_2, lit_3, lit_4, lit_5, lit_6, lit_7, lit_8, lit_9, lit_10, lit_11, lit_12, lit_13, lit_17, lit_20, lit_23, lit_24, lit_43, lit_48, lit_51, lit_57, lit_58, lit_59, lit_60, lit_61, lit_63, lit_77, lit_100, lit_140, lit_168, lit_200, lit_393, lit_400, lit_900, lit_969, lit_1000, lit_1041, lit_1045, lit_1093, lit_1168, lit_1200, lit_3279, lit_3333, lit_4372, lit_9999, nI_10, if_false, if_true]))
  · exact sm_0 (r := -nI 1) hp' hb (by simp (config := {maxSteps := 1000000}) (disch := first | assumption | omega) only [f_X7_member, m_rx0, m_rx1, m_rx2, m_rx3, m_rx4, m_ix, m_iO isB_3, m_iO isB_184, m_iO isB_365, m_iH, m_iX, m_iD, m_im, m_rm0, e_wi_t, e_wi_f, e_ro_t, e_ro_f, e8_wi_t, e8_wi_f, e8_ro_t, e8_ro_f, zbool_0, zbool_1, zb2_s, zif_t, zopt_n, zopt_s, b_s, znm_e, lit_0, lit_1, lit_2, lit_3, lit_4, lit_5, lit_6, lit_7, lit_8, lit_9, lit_10, lit_11, lit_12, lit_13, lit_17, lit_20, lit_23, lit_24, lit_43, lit_48, lit_51, lit_57, lit_58, lit_59, lit_60, lit_61, lit_63, lit_77, lit_100, lit_140, lit_168, lit_200, lit_393, lit_400, lit_900, lit_969, lit_1000, lit_1041, lit_1045, lit_1093, lit_1168, lit_1200, lit_3279, lit_3333, lit_4372, lit_9999, nI_10, if_false, if_true]) (fun Y hY => (by have hr : RoC Y.1 s := hY.1; simp (config := {maxSteps := 1000000}) (disch := first | assumption | omega) only [f_X8_member, m_rx0, m_rx1, m_rx2, m_rx3, m_rx4, m_ix, m_iO isB_3, m_iO isB_184, m_iO isB_365, m_iH, m_iX, m_iD, m_im, m_rm0, e_wi_t, e_wi_f, e_ro_t, e_ro_f, e8_wi_t, e8_wi_f, e8_ro_t, e8_ro_f, zbool_0, zbool_1, zb2_s, zif_t, zopt_n, zopt_s, b_s, znm_e, lit_0, lit_1, lit_2, lit_3, lit_4, lit_5, lit_6, lit_7, lit_8, lit_9, lit_10, lit_11, lit_12, lit_13, lit_17, lit_20, lit_23, lit_24, lit_43, lit_48, lit_51, lit_57, lit_58, lit_59, lit_60, lit_61, lit_63, lit_77, lit_100, lit_140, lit_168, lit_200, lit_393, lit_400, lit_900, lit_969, lit_1000, lit_1041, lit_1045, lit_1093, lit_1168, lit_1200, lit_3279, lit_3333, lit_4372, lit_9999, nI_10, if_false, if_true]))
theorem sm_certify {z : Nat} {X : pX} {p : sS} {H : List sS} {K : Option sS} {T : List Int32} (hp' : Pp p H K T) (hb : Bc X p H K T) (a1 a2 a3 : Int32) : SmT (f_X7_certify z a1 a2 a3) (f_X8_certify (z + 1278) a1 a2 a3) z X p H K T := by
  obtain ⟨s, σ⟩ := p
  have hP : PS s σ := hp'.1
  have hS : Rc X 3 s σ := hb.1
  have hB := hP.B
  have b1 := hP.W.n48
  have b2 := hP.W.m12
  by_cases c1 : nI 0 ≤ a1 ∧ a1 < nI (s 2)
  · obtain ⟨m, hm, rfl⟩ := in_ex c1 (by omega)
    have hm12 : m < 12 := by omega
    by_cases c2 : nI 0 ≤ a2 ∧ a2 < nI 4
    · obtain ⟨q, hq, rfl⟩ := in_ex c2 (by omega)
      by_cases c3 : nI 0 ≤ a3 ∧ a3 ≤ nI 9999
      · obtain ⟨v, v0, v9, rfl⟩ := wi_ex c3 (by omega) (by omega)
        have g0 := e_needs (z := z) isB_3 hS (m := m) (q := q) (e := v) hm12 hq (by omega)
        rw [ndc_eq hP] at g0
        cases c4 : oA (fun k => decide (recS s k 5 = 0 ∧ v < recS s k 3 ∧ recS s k (20 + m) = q + 1)) 0 (s 1) with
        | true =>
          rw [bI_t c4] at g0
          refine sm_0 (r := -nI 4) hp' hb (by simp (disch := first | assumption | omega) only [f_X7_certify, m_rx0, m_rx1, m_rx2, m_rx3, m_rx4, m_ix, m_iO isB_3, m_iO isB_184, m_iO isB_365, m_iH, m_iX, m_iD, m_im, m_rm0, e_wi_t, e_wi_f, e_ro_t, e_ro_f, e8_wi_t, e8_wi_f, e8_ro_t, e8_ro_f, zbool_0, zbool_1, zb2_s, zif_t, zopt_n, zopt_s, b_s, znm_e, lit_0, lit_1, lit_2, lit_3, lit_4, lit_5, lit_6, lit_7, lit_8, lit_9, lit_10, lit_11, lit_12, lit_13, lit_17, lit_20, lit_23, lit_24, lit_43, lit_48, lit_51, lit_57, lit_58, lit_59, lit_60, lit_61, lit_63, lit_77, lit_100, lit_140, lit_168, lit_200, lit_393, lit_400, lit_900, lit_969, lit_1000, lit_1041, lit_1045, lit_1093, lit_1168, lit_1200, lit_3279, lit_3333, lit_4372, lit_9999, nI_10, if_false, if_true, e_memAt_n isB_3 hS, g0]) (fun Y hY => ?_)
          have hr : RoC Y.1 s := hY.1
          obtain ⟨V1, k1, k2, k3⟩ := m_rec (z := z) hY
          have k4 := e8_ceL (z := z) hr hB (m := m) (q := q) (e := v) hm12 hq (by omega) k1 (s 1) zN 0 (by omega) (zN_lt (by omega))
          rw [if_pos c4] at k4
          simp (disch := first | assumption | omega) only [f_X8_certify, m_rx0, m_rx1, m_rx2, m_rx3, m_rx4, m_ix, m_iO isB_3, m_iO isB_184, m_iO isB_365, m_iH, m_iX, m_iD, m_im, m_rm0, e_wi_t, e_wi_f, e_ro_t, e_ro_f, e8_wi_t, e8_wi_f, e8_ro_t, e8_ro_f, zbool_0, zbool_1, zb2_s, zif_t, zopt_n, zopt_s, b_s, znm_e, lit_0, lit_1, lit_2, lit_3, lit_4, lit_5, lit_6, lit_7, lit_8, lit_9, lit_10, lit_11, lit_12, lit_13, lit_17, lit_20, lit_23, lit_24, lit_43, lit_48, lit_51, lit_57, lit_58, lit_59, lit_60, lit_61, lit_63, lit_77, lit_100, lit_140, lit_168, lit_200, lit_393, lit_400, lit_900, lit_969, lit_1000, lit_1041, lit_1045, lit_1093, lit_1168, lit_1200, lit_3279, lit_3333, lit_4372, lit_9999, nI_10, if_false, if_true, e8_me_t hr hB c1, k4]
        | false =>
          rw [bI_f c4] at g0
          obtain ⟨V1, t1, q1, q2, q3⟩ := c_rec (z := z) hb
          obtain ⟨V2, g1, g2, g3, g4⟩ := e_cert (z := z) (X := (V1, X.2.1, t1)) isB_3 q3.1 (m := m) (q := q) (v := v) hm12 hq (by omega) q3.2.1
          obtain ⟨o1, o2, o3⟩ := upd_mem (q := q) (v := v) hP hm (by omega) (by omega)
          refine sm_w (p' := (updN s (969 + 6 * m + q) v, σ)) hp' (r := nI (s (969 + 6 * m + q))) ?_ (fun o ho => (g2 o (by omega) (by omega) (by omega)).trans (q2 o (by omega))) (q3.up g2 g3 g4 o1 (fun _ _ => rfl) o2 o3) o1 (fun Y hY V1 k1 k2 k3 => ?_)
          · simp (disch := first | assumption | omega) only [f_X7_certify, m_rx0, m_rx1, m_rx2, m_rx3, m_rx4, m_ix, m_iO isB_3, m_iO isB_184, m_iO isB_365, m_iH, m_iX, m_iD, m_im, m_rm0, e_wi_t, e_wi_f, e_ro_t, e_ro_f, e8_wi_t, e8_wi_f, e8_ro_t, e8_ro_f, zbool_0, zbool_1, zb2_s, zif_t, zopt_n, zopt_s, b_s, znm_e, lit_0, lit_1, lit_2, lit_3, lit_4, lit_5, lit_6, lit_7, lit_8, lit_9, lit_10, lit_11, lit_12, lit_13, lit_17, lit_20, lit_23, lit_24, lit_43, lit_48, lit_51, lit_57, lit_58, lit_59, lit_60, lit_61, lit_63, lit_77, lit_100, lit_140, lit_168, lit_200, lit_393, lit_400, lit_900, lit_969, lit_1000, lit_1041, lit_1045, lit_1093, lit_1168, lit_1200, lit_3279, lit_3333, lit_4372, lit_9999, nI_10, if_false, if_true, e_memAt_n isB_3 hS, g0, q1, m_iM isB_3, g1]
          · have hr : RoC Y.1 s := hY.1
            have k4 := e8_ceL (z := z) hr hB (m := m) (q := q) (e := v) hm12 hq (by omega) k1 (s 1) zN 0 (by omega) (zN_lt (by omega))
            rw [if_neg (by rw [c4]; decide)] at k4
            refine ⟨_, ?_, KpM.up.A, k3.st _ _⟩
            simp (disch := first | assumption | omega) only [f_X8_certify, m_rx0, m_rx1, m_rx2, m_rx3, m_rx4, m_ix, m_iO isB_3, m_iO isB_184, m_iO isB_365, m_iH, m_iX, m_iD, m_im, m_rm0, e_wi_t, e_wi_f, e_ro_t, e_ro_f, e8_wi_t, e8_wi_f, e8_ro_t, e8_ro_f, zbool_0, zbool_1, zb2_s, zif_t, zopt_n, zopt_s, b_s, znm_e, lit_0, lit_1, lit_2, lit_3, lit_4, lit_5, lit_6, lit_7, lit_8, lit_9, lit_10, lit_11, lit_12, lit_13, lit_17, lit_20, lit_23, lit_24, lit_43, lit_48, lit_51, lit_57, lit_58, lit_59, lit_60, lit_61, lit_63, lit_77, lit_100, lit_140, lit_168, lit_200, lit_393, lit_400, lit_900, lit_969, lit_1000, lit_1041, lit_1045, lit_1093, lit_1168, lit_1200, lit_3279, lit_3333, lit_4372, lit_9999, nI_10, if_false, if_true, e8_me_t hr hB c1, k4]
      · exact sm_0 (r := -nI 2) hp' hb (by simp (config := {maxSteps := 1000000}) (disch := first | assumption | omega) only [f_X7_certify, e_memAt_n isB_3 hS, m_rx0, m_rx1, m_rx2, m_rx3, m_rx4, m_ix, m_iO isB_3, m_iO isB_184, m_iO isB_365, m_iH, m_iX, m_iD, m_im, m_rm0, e_wi_t, e_wi_f, e_ro_t, e_ro_f, e8_wi_t, e8_wi_f, e8_ro_t, e8_ro_f, zbool_0, zbool_1, zb2_s, zif_t, zopt_n, zopt_s, b_s, znm_e, lit_0, lit_1, lit_2, lit_3, lit_4, lit_5, lit_6, lit_7, lit_8, lit_9, lit_10, lit_11, lit_12, lit_13, lit_17, lit_20, lit_23, lit_24, lit_43, lit_48, lit_51, lit_57, lit_58, lit_59, lit_60, lit_61, lit_63, lit_77, lit_100, lit_140, lit_168, lit_200, lit_393, lit_400, lit_900, lit_969, lit_1000, lit_1041, lit_1045, lit_1093, lit_1168, lit_1200, lit_3279, lit_3333, lit_4372, lit_9999, nI_10, if_false, if_true]) (fun Y hY => (by have hr : RoC Y.1 s := hY.1; simp (config := {maxSteps := 1000000}) (disch := first | assumption | omega) only [f_X8_certify, e8_me_t hr hB c1, m_rx0, m_rx1, m_rx2, m_rx3, m_rx4, m_ix, m_iO isB_3, m_iO isB_184, m_iO isB_365, m_iH, m_iX, m_iD, m_im, m_rm0, e_wi_t, e_wi_f, e_ro_t, e_ro_f, e8_wi_t, e8_wi_f, e8_ro_t, e8_ro_f, zbool_0, zbool_1, zb2_s, zif_t, zopt_n, zopt_s, b_s, znm_e, lit_0, lit_1, lit_2, lit_3, lit_4, lit_5, lit_6, lit_7, lit_8, lit_9, lit_10, lit_11, lit_12, lit_13, lit_17, lit_20, lit_23, lit_24, lit_43, lit_48, lit_51, lit_57, lit_58, lit_59, lit_60, lit_61, lit_63, lit_77, lit_100, lit_140, lit_168, lit_200, lit_393, lit_400, lit_900, lit_969, lit_1000, lit_1041, lit_1045, lit_1093, lit_1168, lit_1200, lit_3279, lit_3333, lit_4372, lit_9999, nI_10, if_false, if_true]))
    · exact sm_0 (r := -nI 1) hp' hb (by simp (config := {maxSteps := 1000000}) (disch := first | assumption | omega) only [f_X7_certify, e_memAt_n isB_3 hS, m_rx0, m_rx1, m_rx2, m_rx3, m_rx4, m_ix, m_iO isB_3, m_iO isB_184, m_iO isB_365, m_iH, m_iX, m_iD, m_im, m_rm0, e_wi_t, e_wi_f, e_ro_t, e_ro_f, e8_wi_t, e8_wi_f, e8_ro_t, e8_ro_f, zbool_0, zbool_1, zb2_s, zif_t, zopt_n, zopt_s, b_s, znm_e, lit_0, lit_1, lit_2, lit_3, lit_4, lit_5, lit_6, lit_7, lit_8, lit_9, lit_10, lit_11, lit_12, lit_13, lit_17, lit_20, lit_23, lit_24, lit_43, lit_48, lit_51, lit_57, lit_58, lit_59, lit_60, lit_61, lit_63, lit_77, lit_100, lit_140, lit_168, lit_200, lit_393, lit_400, lit_900, lit_969, lit_1000, lit_1041, lit_1045, lit_1093, lit_1168, lit_1200, lit_3279, lit_3333, lit_4372, lit_9999, nI_10, if_false, if_true]) (fun Y hY => (by have hr : RoC Y.1 s := hY.1; simp (config := {maxSteps := 1000000}) (disch := first | assumption | omega) only [f_X8_certify, e8_me_t hr hB c1, m_rx0, m_rx1, m_rx2, m_rx3, m_rx4, m_ix, m_iO isB_3, m_iO isB_184, m_iO isB_365, m_iH, m_iX, m_iD, m_im, m_rm0, e_wi_t, e_wi_f, e_ro_t, e_ro_f, e8_wi_t, e8_wi_f, e8_ro_t, e8_ro_f, zbool_0, zbool_1, zb2_s, zif_t, zopt_n, zopt_s, b_s, znm_e, lit_0, lit_1, lit_2, lit_3, lit_4, lit_5, lit_6, lit_7, lit_8, lit_9, lit_10, lit_11, lit_12, lit_13, lit_17, lit_20, lit_23, lit_24, lit_43, lit_48, lit_51, lit_57, lit_58, lit_59, lit_60, lit_61, lit_63, lit_77, lit_100, lit_140, lit_168, lit_200, lit_393, lit_400, lit_900, lit_969, lit_1000, lit_1041, lit_1045, lit_1093, lit_1168, lit_1200, lit_3279, lit_3333, lit_4372, lit_9999, nI_10, if_false, if_true]))
  · exact sm_0 (r := -nI 1) hp' hb (by simp (config := {maxSteps := 1000000}) (disch := first | assumption | omega) only [f_X7_certify, e_memAt_x isB_3 hS c1, m_rx0, m_rx1, m_rx2, m_rx3, m_rx4, m_ix, m_iO isB_3, m_iO isB_184, m_iO isB_365, m_iH, m_iX, m_iD, m_im, m_rm0, e_wi_t, e_wi_f, e_ro_t, e_ro_f, e8_wi_t, e8_wi_f, e8_ro_t, e8_ro_f, zbool_0, zbool_1, zb2_s, zif_t, zopt_n, zopt_s, b_s, znm_e, lit_0, lit_1, lit_2, lit_3, lit_4, lit_5, lit_6, lit_7, lit_8, lit_9, lit_10, lit_11, lit_12, lit_13, lit_17, lit_20, lit_23, lit_24, lit_43, lit_48, lit_51, lit_57, lit_58, lit_59, lit_60, lit_61, lit_63, lit_77, lit_100, lit_140, lit_168, lit_200, lit_393, lit_400, lit_900, lit_969, lit_1000, lit_1041, lit_1045, lit_1093, lit_1168, lit_1200, lit_3279, lit_3333, lit_4372, lit_9999, nI_10, if_false, if_true]) (fun Y hY => (by have hr : RoC Y.1 s := hY.1; simp (config := {maxSteps := 1000000}) (disch := first | assumption | omega) only [f_X8_certify, e8_me_f hr hB c1, m_rx0, m_rx1, m_rx2, m_rx3, m_rx4, m_ix, m_iO isB_3, m_iO isB_184, m_iO isB_365, m_iH, m_iX, m_iD, m_im, m_rm0, e_wi_t, e_wi_f, e_ro_t, e_ro_f, e8_wi_t, e8_wi_f, e8_ro_t, e8_ro_f, zbool_0, zbool_1, zb2_s, zif_t, zopt_n, zopt_s, b_s, znm_e, lit_0, lit_1, lit_2, lit_3, lit_4, lit_5, lit_6, lit_7, lit_8, lit_9, lit_10, lit_11, lit_12, lit_13, lit_17, lit_20, lit_23, lit_24, lit_43, lit_48, lit_51, lit_57, lit_58, lit_59, lit_60, lit_61, lit_63, lit_77, lit_100, lit_140, lit_168, lit_200, lit_393, lit_400, lit_900, lit_969, lit_1000, lit_1041, lit_1045, lit_1093, lit_1168, lit_1200, lit_3279, lit_3333, lit_4372, lit_9999, nI_10, if_false, if_true]))
theorem sm_sick {z : Nat} {X : pX} {p : sS} {H : List sS} {K : Option sS} {T : List Int32} (hp' : Pp p H K T) (hb : Bc X p H K T) (a1 a2 : Int32) : SmT (f_X7_sick z a1 a2) (f_X8_sick (z + 1278) a1 a2) z X p H K T := by
  obtain ⟨s, σ⟩ := p
  have hP : PS s σ := hp'.1
  have hS : Rc X 3 s σ := hb.1
  have hB := hP.B
  have b1 := hP.W.n48
  have b2 := hP.W.m12
  by_cases c1 : nI 0 ≤ a1 ∧ a1 < nI (s 2)
  · obtain ⟨m, hm, rfl⟩ := in_ex c1 (by omega)
    by_cases c2 : nI 1 ≤ a2 ∧ a2 ≤ nI 400
    · obtain ⟨h, h0, h9, rfl⟩ := wi_ex c2 (by omega) (by omega)
      obtain ⟨V1, t1, q1, q2, q3⟩ := c_rec (z := z) hb
      obtain ⟨V2, g1, g2, g3, g4⟩ := e_fallSick (z := z) (X := (V1, X.2.1, t1)) isB_3 q3.1 (m := m) (h := h) hm (by omega) q3.2.1
      obtain ⟨o1, o2, o3, o4⟩ := sick_eq hP hm (h := h) (by omega)
      rw [o2] at g1
      refine sm_w (p' := ((sickM s m h).1, σ)) hp' (r := nI (sickM s m h).2) ?_ (fun o ho => (g2 o (by omega) (by omega) (by omega)).trans (q2 o (by omega))) (q3.up g2 g3 g4 o3 o1.1 o1.2 o4) o3 (fun Y hY V1 k1 k2 k3 => ?_)
      · simp (disch := first | assumption | omega) only [f_X7_sick, m_rx0, m_rx1, m_rx2, m_rx3, m_rx4, m_ix, m_iO isB_3, m_iO isB_184, m_iO isB_365, m_iH, m_iX, m_iD, m_im, m_rm0, e_wi_t, e_wi_f, e_ro_t, e_ro_f, e8_wi_t, e8_wi_f, e8_ro_t, e8_ro_f, zbool_0, zbool_1, zb2_s, zif_t, zopt_n, zopt_s, b_s, znm_e, lit_0, lit_1, lit_2, lit_3, lit_4, lit_5, lit_6, lit_7, lit_8, lit_9, lit_10, lit_11, lit_12, lit_13, lit_17, lit_20, lit_23, lit_24, lit_43, lit_48, lit_51, lit_57, lit_58, lit_59, lit_60, lit_61, lit_63, lit_77, lit_100, lit_140, lit_168, lit_200, lit_393, lit_400, lit_900, lit_969, lit_1000, lit_1041, lit_1045, lit_1093, lit_1168, lit_1200, lit_3279, lit_3333, lit_4372, lit_9999, nI_10, if_false, if_true, e_memAt_n isB_3 hS, q1, g1]
      · have hr : RoC Y.1 s := hY.1
        obtain ⟨V3, m1, m2, m3, _⟩ := e8_sickNow (z := z) (X := (V1, Y.2)) k3 hB (m := m) (h := h) (by omega) (by omega)
        refine ⟨V3, ?_, m2.A, m3⟩
        simp (disch := first | assumption | omega) only [f_X8_sick, m_rx0, m_rx1, m_rx2, m_rx3, m_rx4, m_ix, m_iO isB_3, m_iO isB_184, m_iO isB_365, m_iH, m_iX, m_iD, m_im, m_rm0, e_wi_t, e_wi_f, e_ro_t, e_ro_f, e8_wi_t, e8_wi_f, e8_ro_t, e8_ro_f, zbool_0, zbool_1, zb2_s, zif_t, zopt_n, zopt_s, b_s, znm_e, lit_0, lit_1, lit_2, lit_3, lit_4, lit_5, lit_6, lit_7, lit_8, lit_9, lit_10, lit_11, lit_12, lit_13, lit_17, lit_20, lit_23, lit_24, lit_43, lit_48, lit_51, lit_57, lit_58, lit_59, lit_60, lit_61, lit_63, lit_77, lit_100, lit_140, lit_168, lit_200, lit_393, lit_400, lit_900, lit_969, lit_1000, lit_1041, lit_1045, lit_1093, lit_1168, lit_1200, lit_3279, lit_3333, lit_4372, lit_9999, nI_10, if_false, if_true, e8_me_t hr hB c1, k1, m1]
    · exact sm_0 (r := -nI 2) hp' hb (by simp (config := {maxSteps := 1000000}) (disch := first | assumption | omega) only [f_X7_sick, e_memAt_n isB_3 hS, m_rx0, m_rx1, m_rx2, m_rx3, m_rx4, m_ix, m_iO isB_3, m_iO isB_184, m_iO isB_365, m_iH, m_iX, m_iD, m_im, m_rm0, e_wi_t, e_wi_f, e_ro_t, e_ro_f, e8_wi_t, e8_wi_f, e8_ro_t, e8_ro_f, zbool_0, zbool_1, zb2_s, zif_t, zopt_n, zopt_s, b_s, znm_e, lit_0, lit_1, lit_2, lit_3, lit_4, lit_5, lit_6, lit_7, lit_8, lit_9, lit_10, lit_11, lit_12, lit_13, lit_17, lit_20, lit_23, lit_24, lit_43, lit_48, lit_51, lit_57, lit_58, lit_59, lit_60, lit_61, lit_63, lit_77, lit_100, lit_140, lit_168, lit_200, lit_393, lit_400, lit_900, lit_969, lit_1000, lit_1041, lit_1045, lit_1093, lit_1168, lit_1200, lit_3279, lit_3333, lit_4372, lit_9999, nI_10, if_false, if_true]) (fun Y hY => (by have hr : RoC Y.1 s := hY.1; simp (config := {maxSteps := 1000000}) (disch := first | assumption | omega) only [f_X8_sick, e8_me_t hr hB c1, m_rx0, m_rx1, m_rx2, m_rx3, m_rx4, m_ix, m_iO isB_3, m_iO isB_184, m_iO isB_365, m_iH, m_iX, m_iD, m_im, m_rm0, e_wi_t, e_wi_f, e_ro_t, e_ro_f, e8_wi_t, e8_wi_f, e8_ro_t, e8_ro_f, zbool_0, zbool_1, zb2_s, zif_t, zopt_n, zopt_s, b_s, znm_e, lit_0, lit_1, lit_2, lit_3, lit_4, lit_5, lit_6, lit_7, lit_8, lit_9, lit_10, lit_11, lit_12, lit_13, lit_17, lit_20, lit_23, lit_24, lit_43, lit_48, lit_51, lit_57, lit_58, lit_59, lit_60, lit_61, lit_63, lit_77, lit_100, lit_140, lit_168, lit_200, lit_393, lit_400, lit_900, lit_969, lit_1000, lit_1041, lit_1045, lit_1093, lit_1168, lit_1200, lit_3279, lit_3333, lit_4372, lit_9999, nI_10, if_false, if_true]))
  · exact sm_0 (r := -nI 1) hp' hb (by simp (config := {maxSteps := 1000000}) (disch := first | assumption | omega) only [f_X7_sick, e_memAt_x isB_3 hS c1, m_rx0, m_rx1, m_rx2, m_rx3, m_rx4, m_ix, m_iO isB_3, m_iO isB_184, m_iO isB_365, m_iH, m_iX, m_iD, m_im, m_rm0, e_wi_t, e_wi_f, e_ro_t, e_ro_f, e8_wi_t, e8_wi_f, e8_ro_t, e8_ro_f, zbool_0, zbool_1, zb2_s, zif_t, zopt_n, zopt_s, b_s, znm_e, lit_0, lit_1, lit_2, lit_3, lit_4, lit_5, lit_6, lit_7, lit_8, lit_9, lit_10, lit_11, lit_12, lit_13, lit_17, lit_20, lit_23, lit_24, lit_43, lit_48, lit_51, lit_57, lit_58, lit_59, lit_60, lit_61, lit_63, lit_77, lit_100, lit_140, lit_168, lit_200, lit_393, lit_400, lit_900, lit_969, lit_1000, lit_1041, lit_1045, lit_1093, lit_1168, lit_1200, lit_3279, lit_3333, lit_4372, lit_9999, nI_10, if_false, if_true]) (fun Y hY => (by have hr : RoC Y.1 s := hY.1; simp (config := {maxSteps := 1000000}) (disch := first | assumption | omega) only [f_X8_sick, e8_me_f hr hB c1, m_rx0, m_rx1, m_rx2, m_rx3, m_rx4, m_ix, m_iO isB_3, m_iO isB_184, m_iO isB_365, m_iH, m_iX, m_iD, m_im, m_rm0, e_wi_t, e_wi_f, e_ro_t, e_ro_f, e8_wi_t, e8_wi_f, e8_ro_t, e8_ro_f, zbool_0, zbool_1, zb2_s, zif_t, zopt_n, zopt_s, b_s, znm_e, lit_0, lit_1, lit_2, lit_3, lit_4, lit_5, lit_6, lit_7, lit_8, lit_9, lit_10, lit_11, lit_12, lit_13, lit_17, lit_20, lit_23, lit_24, lit_43, lit_48, lit_51, lit_57, lit_58, lit_59, lit_60, lit_61, lit_63, lit_77, lit_100, lit_140, lit_168, lit_200, lit_393, lit_400, lit_900, lit_969, lit_1000, lit_1041, lit_1045, lit_1093, lit_1168, lit_1200, lit_3279, lit_3333, lit_4372, lit_9999, nI_10, if_false, if_true]))
theorem sm_well {z : Nat} {X : pX} {p : sS} {H : List sS} {K : Option sS} {T : List Int32} (hp' : Pp p H K T) (hb : Bc X p H K T) (a1 : Int32) : SmT (f_X7_well z a1) (f_X8_well (z + 1278) a1) z X p H K T := by
  obtain ⟨s, σ⟩ := p
  have hP : PS s σ := hp'.1
  have hS : Rc X 3 s σ := hb.1
  have hB := hP.B
  have b1 := hP.W.n48
  have b2 := hP.W.m12
  by_cases c1 : nI 0 ≤ a1 ∧ a1 < nI (s 2)
  · obtain ⟨m, hm, rfl⟩ := in_ex c1 (by omega)
    have hm12 : m < 12 := by omega
    have hM := (hS.2.1.2.2.1 m hm12).2.1
    have s0 : X.1 3 2 = nI (s 0) := hS.2.1.1.1
    have l0 := hB.1.1
    have l4 := hB.1.2.2.2.2 m hm12 4 (by omega)
    by_cases c2 : s 0 < s (969 + 6 * m + 4)
    · obtain ⟨V1, t1, q1, q2, q3⟩ := c_rec (z := z) hb
      have eT : (s 0 < s (969 + 6 * m + 4)) = True := eq_true c2
      obtain ⟨o1, o2, o3⟩ := upd_mem (q := 4) (v := 0) hP hm (by omega) (by omega)
      have g4 := q3.1.sick isB_3 (m := m) (v := 0) hm12 (by omega)
      have e0 := nI_sub (a := s (969 + 6 * m + 4)) (b := s 0) (by omega)
      have eT2 : (nI 0 < nI (s (969 + 6 * m + 4) - s 0)) = True := by rw [nI_ltE (by omega) (by omega)]; exact eq_true (by omega)
      have kk : KpB 3 V1 (sV V1 (3 + (149 + 2 * m)) (upd (V1 (3 + (149 + 2 * m))) 1 (nI 0))) := fun o _ _ _ => sV_n (by omega)
      refine sm_w (p' := (updN s (969 + 6 * m + 4) 0, σ)) hp' (r := nI (s (969 + 6 * m + 4) - s 0)) (V2 := sV V1 (3 + (149 + 2 * m)) (upd (V1 (3 + (149 + 2 * m))) 1 (nI 0))) (W := X.2.1) (t1 := t1) ?_ (fun o ho => (kk o (by omega) (by omega) (by omega)).trans (q2 o (by omega))) (q3.up kk (q3.2.1.kept (sV_n (by omega)) (sV_n (by omega))) g4 o1 (fun _ _ => rfl) o2 o3) o1 (fun Y hY V1 k1 k2 k3 => ?_)
      · simp (disch := first | assumption | omega) only [f_X7_well, m_rx0, m_rx1, m_rx2, m_rx3, m_rx4, m_ix, m_iO isB_3, m_iO isB_184, m_iO isB_365, m_iH, m_iX, m_iD, m_im, m_rm0, e_wi_t, e_wi_f, e_ro_t, e_ro_f, e8_wi_t, e8_wi_f, e8_ro_t, e8_ro_f, zbool_0, zbool_1, zb2_s, zif_t, zopt_n, zopt_s, b_s, znm_e, lit_0, lit_1, lit_2, lit_3, lit_4, lit_5, lit_6, lit_7, lit_8, lit_9, lit_10, lit_11, lit_12, lit_13, lit_17, lit_20, lit_23, lit_24, lit_43, lit_48, lit_51, lit_57, lit_58, lit_59, lit_60, lit_61, lit_63, lit_77, lit_100, lit_140, lit_168, lit_200, lit_393, lit_400, lit_900, lit_969, lit_1000, lit_1041, lit_1045, lit_1093, lit_1168, lit_1200, lit_3279, lit_3333, lit_4372, lit_9999, nI_10, if_false, if_true, e_memAt_n isB_3 hS, m_gM1 isB_3, m_gO2 isB_3, s0, hM, eT2, q1, m_pM1 isB_3, e0]
      · have hr : RoC Y.1 s := hY.1
        have k4 := e8_isSick (z := z) hr hB (m := m) hm12
        rw [bI_t (decide_eq_true c2)] at k4
        have k5 := e8_has (z := z) hr (m := m) (w := 4) hm12 (by omega)
        have k6 := e8_note (z := z) (X := (V1, Y.2)) (m := m) (w := 4) hm12 (by omega) (nI 0)
        refine ⟨_, ?_, KpM.up.A, k3.st _ _⟩
        simp (disch := first | assumption | omega) only [f_X8_well, m_rx0, m_rx1, m_rx2, m_rx3, m_rx4, m_ix, m_iO isB_3, m_iO isB_184, m_iO isB_365, m_iH, m_iX, m_iD, m_im, m_rm0, e_wi_t, e_wi_f, e_ro_t, e_ro_f, e8_wi_t, e8_wi_f, e8_ro_t, e8_ro_f, zbool_0, zbool_1, zb2_s, zif_t, zopt_n, zopt_s, b_s, znm_e, lit_0, lit_1, lit_2, lit_3, lit_4, lit_5, lit_6, lit_7, lit_8, lit_9, lit_10, lit_11, lit_12, lit_13, lit_17, lit_20, lit_23, lit_24, lit_43, lit_48, lit_51, lit_57, lit_58, lit_59, lit_60, lit_61, lit_63, lit_77, lit_100, lit_140, lit_168, lit_200, lit_393, lit_400, lit_900, lit_969, lit_1000, lit_1041, lit_1045, lit_1093, lit_1168, lit_1200, lit_3279, lit_3333, lit_4372, lit_9999, nI_10, if_false, if_true, e8_me_t hr hB c1, k4, k5, r_ld hr, k1, k6, e0]
    · have eT : (s 0 < s (969 + 6 * m + 4)) = False := eq_false c2
      refine sm_0 (r := -nI 5) hp' hb (by simp (disch := first | assumption | omega) only [f_X7_well, m_rx0, m_rx1, m_rx2, m_rx3, m_rx4, m_ix, m_iO isB_3, m_iO isB_184, m_iO isB_365, m_iH, m_iX, m_iD, m_im, m_rm0, e_wi_t, e_wi_f, e_ro_t, e_ro_f, e8_wi_t, e8_wi_f, e8_ro_t, e8_ro_f, zbool_0, zbool_1, zb2_s, zif_t, zopt_n, zopt_s, b_s, znm_e, lit_0, lit_1, lit_2, lit_3, lit_4, lit_5, lit_6, lit_7, lit_8, lit_9, lit_10, lit_11, lit_12, lit_13, lit_17, lit_20, lit_23, lit_24, lit_43, lit_48, lit_51, lit_57, lit_58, lit_59, lit_60, lit_61, lit_63, lit_77, lit_100, lit_140, lit_168, lit_200, lit_393, lit_400, lit_900, lit_969, lit_1000, lit_1041, lit_1045, lit_1093, lit_1168, lit_1200, lit_3279, lit_3333, lit_4372, lit_9999, nI_10, if_false, if_true, e_memAt_n isB_3 hS, m_gM1 isB_3, m_gO2 isB_3, s0, hM, sub_pos, eT]) (fun Y hY => ?_)
      have hr : RoC Y.1 s := hY.1
      have k4 := e8_isSick (z := z) hr hB (m := m) hm12
      rw [bI_f (decide_eq_false c2)] at k4
      simp (disch := first | assumption | omega) only [f_X8_well, m_rx0, m_rx1, m_rx2, m_rx3, m_rx4, m_ix, m_iO isB_3, m_iO isB_184, m_iO isB_365, m_iH, m_iX, m_iD, m_im, m_rm0, e_wi_t, e_wi_f, e_ro_t, e_ro_f, e8_wi_t, e8_wi_f, e8_ro_t, e8_ro_f, zbool_0, zbool_1, zb2_s, zif_t, zopt_n, zopt_s, b_s, znm_e, lit_0, lit_1, lit_2, lit_3, lit_4, lit_5, lit_6, lit_7, lit_8, lit_9, lit_10, lit_11, lit_12, lit_13, lit_17, lit_20, lit_23, lit_24, lit_43, lit_48, lit_51, lit_57, lit_58, lit_59, lit_60, lit_61, lit_63, lit_77, lit_100, lit_140, lit_168, lit_200, lit_393, lit_400, lit_900, lit_969, lit_1000, lit_1041, lit_1045, lit_1093, lit_1168, lit_1200, lit_3279, lit_3333, lit_4372, lit_9999, nI_10, if_false, if_true, e8_me_t hr hB c1, k4]
  · exact sm_0 (r := -nI 1) hp' hb (by simp (config := {maxSteps := 1000000}) (disch := first | assumption | omega) only [f_X7_well, e_memAt_x isB_3 hS c1, m_rx0, m_rx1, m_rx2, m_rx3, m_rx4, m_ix, m_iO isB_3, m_iO isB_184, m_iO isB_365, m_iH, m_iX, m_iD, m_im, m_rm0, e_wi_t, e_wi_f, e_ro_t, e_ro_f, e8_wi_t, e8_wi_f, e8_ro_t, e8_ro_f, zbool_0, zbool_1, zb2_s, zif_t, zopt_n, zopt_s, b_s, znm_e, lit_0, lit_1, lit_2, lit_3, lit_4, lit_5, lit_6, lit_7, lit_8, lit_9, lit_10, lit_11, lit_12, lit_13, lit_17, lit_20, lit_23, lit_24, lit_43, lit_48, lit_51, lit_57, lit_58, lit_59, lit_60, lit_61, lit_63, lit_77, lit_100, lit_140, lit_168, lit_200, lit_393, lit_400, lit_900, lit_969, lit_1000, lit_1041, lit_1045, lit_1093, lit_1168, lit_1200, lit_3279, lit_3333, lit_4372, lit_9999, nI_10, if_false, if_true]) (fun Y hY => (by have hr : RoC Y.1 s := hY.1; simp (config := {maxSteps := 1000000}) (disch := first | assumption | omega) only [f_X8_well, e8_me_f hr hB c1, m_rx0, m_rx1, m_rx2, m_rx3, m_rx4, m_ix, m_iO isB_3, m_iO isB_184, m_iO isB_365, m_iH, m_iX, m_iD, m_im, m_rm0, e_wi_t, e_wi_f, e_ro_t, e_ro_f, e8_wi_t, e8_wi_f, e8_ro_t, e8_ro_f, zbool_0, zbool_1, zb2_s, zif_t, zopt_n, zopt_s, b_s, znm_e, lit_0, lit_1, lit_2, lit_3, lit_4, lit_5, lit_6, lit_7, lit_8, lit_9, lit_10, lit_11, lit_12, lit_13, lit_17, lit_20, lit_23, lit_24, lit_43, lit_48, lit_51, lit_57, lit_58, lit_59, lit_60, lit_61, lit_63, lit_77, lit_100, lit_140, lit_168, lit_200, lit_393, lit_400, lit_900, lit_969, lit_1000, lit_1041, lit_1045, lit_1093, lit_1168, lit_1200, lit_3279, lit_3333, lit_4372, lit_9999, nI_10, if_false, if_true]))
theorem sm_pass {z : Nat} {X : pX} {p : sS} {H : List sS} {K : Option sS} {T : List Int32} (hp' : Pp p H K T) (hb : Bc X p H K T) (a1 : Int32) : SmT (f_X7_pass z a1) (f_X8_pass (z + 1278) a1) z X p H K T := by
  obtain ⟨s, σ⟩ := p
  have hP : PS s σ := hp'.1
  have hS : Rc X 3 s σ := hb.1
  have hB := hP.B
  have b1 := hP.W.n48
  have b2 := hP.W.m12
  have s0 : X.1 3 2 = nI (s 0) := hS.2.1.1.1
  have l0 := hB.1.1
  by_cases c1 : nI 1 ≤ a1 ∧ a1 ≤ nI 200
  · obtain ⟨h, h0, h9, rfl⟩ := wi_ex c1 (by omega) (by omega)
    by_cases c2 : s 0 + h ≤ 1000
    · have eT : (s 0 + h ≤ 1000) = True := eq_true c2
      obtain ⟨V1, t1, q1, q2, q3⟩ := c_rec (z := z) hb
      obtain ⟨V2, g1, g2, g3, g4⟩ := e_goOn (z := z) (X := (V1, X.2.1, t1)) isB_3 q3.1 c2 q3.2.1
      obtain ⟨o1, o2, o3, o4⟩ := go_eq hP c2
      refine sm_w (p' := (passN h s, σ)) hp' (r := nI (s 0 + h)) ?_ (fun o ho => (g2 o (by omega) (by omega) (by omega)).trans (q2 o (by omega))) (q3.up g2 g3 g4 o1 o2 o3 o4) o1 (fun Y hY V1 k1 k2 k3 => ?_)
      · simp (disch := first | assumption | omega) only [f_X7_pass, m_rx0, m_rx1, m_rx2, m_rx3, m_rx4, m_ix, m_iO isB_3, m_iO isB_184, m_iO isB_365, m_iH, m_iX, m_iD, m_im, m_rm0, e_wi_t, e_wi_f, e_ro_t, e_ro_f, e8_wi_t, e8_wi_f, e8_ro_t, e8_ro_f, zbool_0, zbool_1, zb2_s, zif_t, zopt_n, zopt_s, b_s, znm_e, lit_0, lit_1, lit_2, lit_3, lit_4, lit_5, lit_6, lit_7, lit_8, lit_9, lit_10, lit_11, lit_12, lit_13, lit_17, lit_20, lit_23, lit_24, lit_43, lit_48, lit_51, lit_57, lit_58, lit_59, lit_60, lit_61, lit_63, lit_77, lit_100, lit_140, lit_168, lit_200, lit_393, lit_400, lit_900, lit_969, lit_1000, lit_1041, lit_1045, lit_1093, lit_1168, lit_1200, lit_3279, lit_3333, lit_4372, lit_9999, nI_10, if_false, if_true, m_gO2 isB_3, s0, nI_add, nI_leE, eT, q1, g1]
      · have hr : RoC Y.1 s := hY.1
        obtain ⟨V3, m1, m2, m3, _⟩ := e8_psL (z := z) (H := h) (by omega) h zN 0 (V1, Y.2) s k3 hB c2 (by omega) (zN_lt (by omega))
        refine ⟨V3, ?_, m2.A, m3⟩
        simp (disch := first | assumption | omega) only [f_X8_pass, m_rx0, m_rx1, m_rx2, m_rx3, m_rx4, m_ix, m_iO isB_3, m_iO isB_184, m_iO isB_365, m_iH, m_iX, m_iD, m_im, m_rm0, e_wi_t, e_wi_f, e_ro_t, e_ro_f, e8_wi_t, e8_wi_f, e8_ro_t, e8_ro_f, zbool_0, zbool_1, zb2_s, zif_t, zopt_n, zopt_s, b_s, znm_e, lit_0, lit_1, lit_2, lit_3, lit_4, lit_5, lit_6, lit_7, lit_8, lit_9, lit_10, lit_11, lit_12, lit_13, lit_17, lit_20, lit_23, lit_24, lit_43, lit_48, lit_51, lit_57, lit_58, lit_59, lit_60, lit_61, lit_63, lit_77, lit_100, lit_140, lit_168, lit_200, lit_393, lit_400, lit_900, lit_969, lit_1000, lit_1041, lit_1045, lit_1093, lit_1168, lit_1200, lit_3279, lit_3333, lit_4372, lit_9999, nI_10, if_false, if_true, r_ld hr, nI_add, nI_leE, eT, k1, m1]
    · have eT : (s 0 + h ≤ 1000) = False := eq_false c2
      refine sm_0 (r := -nI 3) hp' hb (by simp (disch := first | assumption | omega) only [f_X7_pass, m_rx0, m_rx1, m_rx2, m_rx3, m_rx4, m_ix, m_iO isB_3, m_iO isB_184, m_iO isB_365, m_iH, m_iX, m_iD, m_im, m_rm0, e_wi_t, e_wi_f, e_ro_t, e_ro_f, e8_wi_t, e8_wi_f, e8_ro_t, e8_ro_f, zbool_0, zbool_1, zb2_s, zif_t, zopt_n, zopt_s, b_s, znm_e, lit_0, lit_1, lit_2, lit_3, lit_4, lit_5, lit_6, lit_7, lit_8, lit_9, lit_10, lit_11, lit_12, lit_13, lit_17, lit_20, lit_23, lit_24, lit_43, lit_48, lit_51, lit_57, lit_58, lit_59, lit_60, lit_61, lit_63, lit_77, lit_100, lit_140, lit_168, lit_200, lit_393, lit_400, lit_900, lit_969, lit_1000, lit_1041, lit_1045, lit_1093, lit_1168, lit_1200, lit_3279, lit_3333, lit_4372, lit_9999, nI_10, if_false, if_true, m_gO2 isB_3, s0, nI_add, nI_leE, eT]) (fun Y hY => ?_)
      have hr : RoC Y.1 s := hY.1
      simp (disch := first | assumption | omega) only [f_X8_pass, m_rx0, m_rx1, m_rx2, m_rx3, m_rx4, m_ix, m_iO isB_3, m_iO isB_184, m_iO isB_365, m_iH, m_iX, m_iD, m_im, m_rm0, e_wi_t, e_wi_f, e_ro_t, e_ro_f, e8_wi_t, e8_wi_f, e8_ro_t, e8_ro_f, zbool_0, zbool_1, zb2_s, zif_t, zopt_n, zopt_s, b_s, znm_e, lit_0, lit_1, lit_2, lit_3, lit_4, lit_5, lit_6, lit_7, lit_8, lit_9, lit_10, lit_11, lit_12, lit_13, lit_17, lit_20, lit_23, lit_24, lit_43, lit_48, lit_51, lit_57, lit_58, lit_59, lit_60, lit_61, lit_63, lit_77, lit_100, lit_140, lit_168, lit_200, lit_393, lit_400, lit_900, lit_969, lit_1000, lit_1041, lit_1045, lit_1093, lit_1168, lit_1200, lit_3279, lit_3333, lit_4372, lit_9999, nI_10, if_false, if_true, r_ld hr, nI_add, nI_leE, eT]
  · exact sm_0 (r := -nI 2) hp' hb (by simp (config := {maxSteps := 1000000}) (disch := first | assumption | omega) only [f_X7_pass, m_rx0, m_rx1, m_rx2, m_rx3, m_rx4, m_ix, m_iO isB_3, m_iO isB_184, m_iO isB_365, m_iH, m_iX, m_iD, m_im, m_rm0, e_wi_t, e_wi_f, e_ro_t, e_ro_f, e8_wi_t, e8_wi_f, e8_ro_t, e8_ro_f, zbool_0, zbool_1, zb2_s, zif_t, zopt_n, zopt_s, b_s, znm_e, lit_0, lit_1, lit_2, lit_3, lit_4, lit_5, lit_6, lit_7, lit_8, lit_9, lit_10, lit_11, lit_12, lit_13, lit_17, lit_20, lit_23, lit_24, lit_43, lit_48, lit_51, lit_57, lit_58, lit_59, lit_60, lit_61, lit_63, lit_77, lit_100, lit_140, lit_168, lit_200, lit_393, lit_400, lit_900, lit_969, lit_1000, lit_1041, lit_1045, lit_1093, lit_1168, lit_1200, lit_3279, lit_3333, lit_4372, lit_9999, nI_10, if_false, if_true]) (fun Y hY => (by have hr : RoC Y.1 s := hY.1; simp (config := {maxSteps := 1000000}) (disch := first | assumption | omega) only [f_X8_pass, m_rx0, m_rx1, m_rx2, m_rx3, m_rx4, m_ix, m_iO isB_3, m_iO isB_184, m_iO isB_365, m_iH, m_iX, m_iD, m_im, m_rm0, e_wi_t, e_wi_f, e_ro_t, e_ro_f, e8_wi_t, e8_wi_f, e8_ro_t, e8_ro_f, zbool_0, zbool_1, zb2_s, zif_t, zopt_n, zopt_s, b_s, znm_e, lit_0, lit_1, lit_2, lit_3, lit_4, lit_5, lit_6, lit_7, lit_8, lit_9, lit_10, lit_11, lit_12, lit_13, lit_17, lit_20, lit_23, lit_24, lit_43, lit_48, lit_51, lit_57, lit_58, lit_59, lit_60, lit_61, lit_63, lit_77, lit_100, lit_140, lit_168, lit_200, lit_393, lit_400, lit_900, lit_969, lit_1000, lit_1041, lit_1045, lit_1093, lit_1168, lit_1200, lit_3279, lit_3333, lit_4372, lit_9999, nI_10, if_false, if_true]))
theorem sm_fill {z : Nat} {X : pX} {p : sS} {H : List sS} {K : Option sS} {T : List Int32} (hp' : Pp p H K T) (hb : Bc X p H K T) (a1 : Int32) : SmT (f_X7_fill z a1) (f_X8_fill (z + 1278) a1) z X p H K T := by
  obtain ⟨s, σ⟩ := p
  have hP : PS s σ := hp'.1
  have hS : Rc X 3 s σ := hb.1
  have hB := hP.B
  have b1 := hP.W.n48
  have b2 := hP.W.m12
  by_cases c1 : nI 0 ≤ a1 ∧ a1 < nI (s 1)
  · obtain ⟨k, hk, rfl⟩ := in_ex c1 (by omega)
    obtain ⟨r, hr1, hrk, hat⟩ := at_n hP hk
    have hk48 : k < 48 := by omega
    have hw1 := hS.1.1 r (by omega)
    have hs := hS.2.1.2.1 r (by omega)
    have hG := rec_G hP.W hk48 (hP.1.2.1 k hk)
    have eU : UU s σ r = recS s k := by rw [UU_lt hr1, hrk]
    have g0 := e_isOpen (z := z) isB_3 hw1 hs (by rw [eU]; exact hG.1.1)
    have g9 := e_freeN (z := z) isB_3 hw1 hs (by rw [eU]; exact hG.1)
    rw [eU] at g0
    rw [eU, fr_fo hP.W hk48] at g9
    have fl : fo s k < 100000 := by
      have : ned (recS s k) ≤ 12 := by
        have b := hB.2.1 k hk48
        show s (9 + 8 * k + 4) + s (9 + 8 * k + 5) + s (9 + 8 * k + 6) + s (9 + 8 * k + 7) ≤ 12
        omega
      unfold fo
      omega
    by_cases c2 : recS s k 5 = 0
    · rw [bI_t (decide_eq_true c2)] at g0
      by_cases c3 : fo s k = 0
      · rw [c3] at g9
        refine sm_0 (r := -nI 5) hp' hb (by simp (disch := first | assumption | omega) only [f_X7_fill, m_rx0, m_rx1, m_rx2, m_rx3, m_rx4, m_ix, m_iO isB_3, m_iO isB_184, m_iO isB_365, m_iH, m_iX, m_iD, m_im, m_rm0, e_wi_t, e_wi_f, e_ro_t, e_ro_f, e8_wi_t, e8_wi_f, e8_ro_t, e8_ro_f, zbool_0, zbool_1, zb2_s, zif_t, zopt_n, zopt_s, b_s, znm_e, lit_0, lit_1, lit_2, lit_3, lit_4, lit_5, lit_6, lit_7, lit_8, lit_9, lit_10, lit_11, lit_12, lit_13, lit_17, lit_20, lit_23, lit_24, lit_43, lit_48, lit_51, lit_57, lit_58, lit_59, lit_60, lit_61, lit_63, lit_77, lit_100, lit_140, lit_168, lit_200, lit_393, lit_400, lit_900, lit_969, lit_1000, lit_1041, lit_1045, lit_1093, lit_1168, lit_1200, lit_3279, lit_3333, lit_4372, lit_9999, nI_10, if_false, if_true, e_sa_n isB_3 hS hP hat, m_iS isB_3, g0, g9]) (fun Y hY => ?_)
        have hr : RoC Y.1 s := hY.1
        have m4 := e8_is (z := z) hr hB hk48 (v := 0) (by omega)
        rw [bI_t (decide_eq_true c2)] at m4
        have m5 := e8_free (z := z) hr hB hP.fo hk
        rw [c3] at m5
        simp (disch := first | assumption | omega) only [f_X8_fill, m_rx0, m_rx1, m_rx2, m_rx3, m_rx4, m_ix, m_iO isB_3, m_iO isB_184, m_iO isB_365, m_iH, m_iX, m_iD, m_im, m_rm0, e_wi_t, e_wi_f, e_ro_t, e_ro_f, e8_wi_t, e8_wi_f, e8_ro_t, e8_ro_f, zbool_0, zbool_1, zb2_s, zif_t, zopt_n, zopt_s, b_s, znm_e, lit_0, lit_1, lit_2, lit_3, lit_4, lit_5, lit_6, lit_7, lit_8, lit_9, lit_10, lit_11, lit_12, lit_13, lit_17, lit_20, lit_23, lit_24, lit_43, lit_48, lit_51, lit_57, lit_58, lit_59, lit_60, lit_61, lit_63, lit_77, lit_100, lit_140, lit_168, lit_200, lit_393, lit_400, lit_900, lit_969, lit_1000, lit_1041, lit_1045, lit_1093, lit_1168, lit_1200, lit_3279, lit_3333, lit_4372, lit_9999, nI_10, if_false, if_true, e8_sa_t hr hB c1, m4, m5]
      · have nz := ne_eqF c3 (by omega) (by omega)
        obtain ⟨V1, t1, q1, q2, q3⟩ := c_rec (z := z) hb
        obtain ⟨V2, g1, g2, g3, g4⟩ := e_coverAll (z := z) (X := (V1, X.2.1, t1)) isB_3 q3.1 (r := r) (by omega) q3.2.1
        dsimp only at g1
        obtain ⟨o1, o2, o3⟩ := cvA_eq (ls := lsS s) (r := r) 4 0 (s, UU s σ) s (by omega) hP EqA_rf hr1 (fun _ _ => rfl)
        have e1 := fr_A o2 o1 (by rw [o3 1 (by omega)]; exact hr1)
        rw [hrk] at e1 o1 o2 o3
        rw [e1] at g1
        refine sm_w (p' := (cMA k 0 4 s, σ)) hp' (r := nI (fo (cMA k 0 4 s) k)) ?_ (fun o ho => (g2 o (by omega) (by omega) (by omega)).trans (q2 o (by omega))) (q3.up g2 g3 g4 o2 o1.1 o1.2 (fun q hq => (o3.ls q).symm)) o2 (fun Y hY V1 k1 k2 k3 => ?_)
        · simp (disch := first | assumption | omega) only [f_X7_fill, m_rx0, m_rx1, m_rx2, m_rx3, m_rx4, m_ix, m_iO isB_3, m_iO isB_184, m_iO isB_365, m_iH, m_iX, m_iD, m_im, m_rm0, e_wi_t, e_wi_f, e_ro_t, e_ro_f, e8_wi_t, e8_wi_f, e8_ro_t, e8_ro_f, zbool_0, zbool_1, zb2_s, zif_t, zopt_n, zopt_s, b_s, znm_e, lit_0, lit_1, lit_2, lit_3, lit_4, lit_5, lit_6, lit_7, lit_8, lit_9, lit_10, lit_11, lit_12, lit_13, lit_17, lit_20, lit_23, lit_24, lit_43, lit_48, lit_51, lit_57, lit_58, lit_59, lit_60, lit_61, lit_63, lit_77, lit_100, lit_140, lit_168, lit_200, lit_393, lit_400, lit_900, lit_969, lit_1000, lit_1041, lit_1045, lit_1093, lit_1168, lit_1200, lit_3279, lit_3333, lit_4372, lit_9999, nI_10, if_false, if_true, e_sa_n isB_3 hS hP hat, m_iS isB_3, g0, g9, nz, q1, g1]
        · have hr : RoC Y.1 s := hY.1
          have m4 := e8_is (z := z) hr hB hk48 (v := 0) (by omega)
          rw [bI_t (decide_eq_true c2)] at m4
          have m5 := e8_free (z := z) hr hB hP.fo hk
          obtain ⟨V3, m1, m2, m3, _⟩ := e8_fi (z := z) hk48 4 zN 0 (V1, Y.2) s k3 hB (hP.1.2.1 k hk) (by omega) (zN_lt (by omega))
          refine ⟨V3, ?_, m2.A, m3⟩
          simp (disch := first | assumption | omega) only [f_X8_fill, m_rx0, m_rx1, m_rx2, m_rx3, m_rx4, m_ix, m_iO isB_3, m_iO isB_184, m_iO isB_365, m_iH, m_iX, m_iD, m_im, m_rm0, e_wi_t, e_wi_f, e_ro_t, e_ro_f, e8_wi_t, e8_wi_f, e8_ro_t, e8_ro_f, zbool_0, zbool_1, zb2_s, zif_t, zopt_n, zopt_s, b_s, znm_e, lit_0, lit_1, lit_2, lit_3, lit_4, lit_5, lit_6, lit_7, lit_8, lit_9, lit_10, lit_11, lit_12, lit_13, lit_17, lit_20, lit_23, lit_24, lit_43, lit_48, lit_51, lit_57, lit_58, lit_59, lit_60, lit_61, lit_63, lit_77, lit_100, lit_140, lit_168, lit_200, lit_393, lit_400, lit_900, lit_969, lit_1000, lit_1041, lit_1045, lit_1093, lit_1168, lit_1200, lit_3279, lit_3333, lit_4372, lit_9999, nI_10, if_false, if_true, e8_sa_t hr hB c1, m4, m5, nz, k1, m1]
    · rw [bI_f (decide_eq_false c2)] at g0
      refine sm_0 (r := -nI 4) hp' hb (by simp (disch := first | assumption | omega) only [f_X7_fill, m_rx0, m_rx1, m_rx2, m_rx3, m_rx4, m_ix, m_iO isB_3, m_iO isB_184, m_iO isB_365, m_iH, m_iX, m_iD, m_im, m_rm0, e_wi_t, e_wi_f, e_ro_t, e_ro_f, e8_wi_t, e8_wi_f, e8_ro_t, e8_ro_f, zbool_0, zbool_1, zb2_s, zif_t, zopt_n, zopt_s, b_s, znm_e, lit_0, lit_1, lit_2, lit_3, lit_4, lit_5, lit_6, lit_7, lit_8, lit_9, lit_10, lit_11, lit_12, lit_13, lit_17, lit_20, lit_23, lit_24, lit_43, lit_48, lit_51, lit_57, lit_58, lit_59, lit_60, lit_61, lit_63, lit_77, lit_100, lit_140, lit_168, lit_200, lit_393, lit_400, lit_900, lit_969, lit_1000, lit_1041, lit_1045, lit_1093, lit_1168, lit_1200, lit_3279, lit_3333, lit_4372, lit_9999, nI_10, if_false, if_true, e_sa_n isB_3 hS hP hat, m_iS isB_3, g0]) (fun Y hY => ?_)
      have hr : RoC Y.1 s := hY.1
      have m4 := e8_is (z := z) hr hB hk48 (v := 0) (by omega)
      rw [bI_f (decide_eq_false c2)] at m4
      simp (disch := first | assumption | omega) only [f_X8_fill, m_rx0, m_rx1, m_rx2, m_rx3, m_rx4, m_ix, m_iO isB_3, m_iO isB_184, m_iO isB_365, m_iH, m_iX, m_iD, m_im, m_rm0, e_wi_t, e_wi_f, e_ro_t, e_ro_f, e8_wi_t, e8_wi_f, e8_ro_t, e8_ro_f, zbool_0, zbool_1, zb2_s, zif_t, zopt_n, zopt_s, b_s, znm_e, lit_0, lit_1, lit_2, lit_3, lit_4, lit_5, lit_6, lit_7, lit_8, lit_9, lit_10, lit_11, lit_12, lit_13, lit_17, lit_20, lit_23, lit_24, lit_43, lit_48, lit_51, lit_57, lit_58, lit_59, lit_60, lit_61, lit_63, lit_77, lit_100, lit_140, lit_168, lit_200, lit_393, lit_400, lit_900, lit_969, lit_1000, lit_1041, lit_1045, lit_1093, lit_1168, lit_1200, lit_3279, lit_3333, lit_4372, lit_9999, nI_10, if_false, if_true, e8_sa_t hr hB c1, m4]
  · exact sm_0 (r := -nI 1) hp' hb (by simp (config := {maxSteps := 1000000}) (disch := first | assumption | omega) only [f_X7_fill, e_sa_x isB_3 hS hP c1, m_rx0, m_rx1, m_rx2, m_rx3, m_rx4, m_ix, m_iO isB_3, m_iO isB_184, m_iO isB_365, m_iH, m_iX, m_iD, m_im, m_rm0, e_wi_t, e_wi_f, e_ro_t, e_ro_f, e8_wi_t, e8_wi_f, e8_ro_t, e8_ro_f, zbool_0, zbool_1, zb2_s, zif_t, zopt_n, zopt_s, b_s, znm_e, lit_0, lit_1, lit_2, lit_3, lit_4, lit_5, lit_6, lit_7, lit_8, lit_9, lit_10, lit_11, lit_12, lit_13, lit_17, lit_20, lit_23, lit_24, lit_43, lit_48, lit_51, lit_57, lit_58, lit_59, lit_60, lit_61, lit_63, lit_77, lit_100, lit_140, lit_168, lit_200, lit_393, lit_400, lit_900, lit_969, lit_1000, lit_1041, lit_1045, lit_1093, lit_1168, lit_1200, lit_3279, lit_3333, lit_4372, lit_9999, nI_10, if_false, if_true]) (fun Y hY => (by have hr : RoC Y.1 s := hY.1; simp (config := {maxSteps := 1000000}) (disch := first | assumption | omega) only [f_X8_fill, e8_sa_f hr hB c1, m_rx0, m_rx1, m_rx2, m_rx3, m_rx4, m_ix, m_iO isB_3, m_iO isB_184, m_iO isB_365, m_iH, m_iX, m_iD, m_im, m_rm0, e_wi_t, e_wi_f, e_ro_t, e_ro_f, e8_wi_t, e8_wi_f, e8_ro_t, e8_ro_f, zbool_0, zbool_1, zb2_s, zif_t, zopt_n, zopt_s, b_s, znm_e, lit_0, lit_1, lit_2, lit_3, lit_4, lit_5, lit_6, lit_7, lit_8, lit_9, lit_10, lit_11, lit_12, lit_13, lit_17, lit_20, lit_23, lit_24, lit_43, lit_48, lit_51, lit_57, lit_58, lit_59, lit_60, lit_61, lit_63, lit_77, lit_100, lit_140, lit_168, lit_200, lit_393, lit_400, lit_900, lit_969, lit_1000, lit_1041, lit_1045, lit_1093, lit_1168, lit_1200, lit_3279, lit_3333, lit_4372, lit_9999, nI_10, if_false, if_true]))
