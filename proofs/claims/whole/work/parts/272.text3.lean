/-! the reference reads -/
def KM8 (V V' : pV) (p : Nat) : Prop := V' 1278 8 = nI p ∧ (∀ i, i ≠ 8 → V' 1278 i = V 1278 i) ∧ ∀ o, o ≠ 1278 → o ≠ 1284 → V' o = V o
theorem KM8.rf {V : pV} {p : Nat} (h : V 1278 8 = nI p) : KM8 V V p := ⟨h, fun _ _ => rfl, fun _ _ _ => rfl⟩
theorem KM8.tr {V V1 V2 : pV} {p q : Nat} (h : KM8 V V1 p) (g : KM8 V1 V2 q) : KM8 V V2 q := ⟨g.1, fun i hi => (g.2.1 i hi).trans (h.2.1 i hi), fun o ho h2 => (g.2.2 o ho h2).trans (h.2.2 o ho h2)⟩
theorem KM8.up {V : pV} {p : Nat} : KM8 V (sV V 1278 (upd (V 1278) 8 (nI p))) p := ⟨by rw [sV_s, pk_us], fun i hi => by rw [sV_s, pk_un hi], fun o ho _ => sV_n ho⟩
theorem KM8.tx {V V' : pV} {p : Nat} {T : List Int32} (h : KM8 V V' p) (g : TxM V T) : TxM V' T := g.mv (h.2.1 10 (by omega)) (h.2.2 1283 (by omega) (by omega))
def isN (T : List Int32) (p : Nat) (a b : Int32) : Bool := match T[p]? with
  | none => false
  | some v => decide (a ≤ v ∧ v ≤ b)
theorem e8_next1 {z : Nat} {X : pX} {T : List Int32} {p : Nat} (hT : TxM X.1 T) (h60 : T.length ≤ 60) (hpp : p < 100000) (h8 : X.1 1278 8 = nI p) (a b : Int32) : f_X8_isNext (z + 1278) a b (hp z X) = some (bI (isN T p a b), hp z X) := by
  have h1 := hT.1
  unfold isN
  by_cases c : T.length ≤ p
  · have cT : (T.length ≤ p) = True := eq_true c
    rw [List.getElem?_eq_none c]
    simp (disch := first | assumption | omega) only [f_X8_isNext, f_X8_isNext_32, m_rx0, m_rx1, m_rx2, m_rx3, m_rx4, m_ix, m_iO isB_3, m_iO isB_184, m_iO isB_365, m_iH, m_iX, m_iD, m_im, m_rm0, e_wi_t, e_wi_f, e_ro_t, e_ro_f, e8_wi_t, e8_wi_f, e8_ro_t, e8_ro_f, zbool_0, zbool_1, zb2_s, zif_t, zopt_n, zopt_s, b_s, znm_e, lit_0, lit_1, lit_2, lit_3, lit_4, lit_5, lit_6, lit_7, lit_8, lit_9, lit_10, lit_11, lit_12, lit_13, lit_17, lit_20, lit_23, lit_24, lit_43, lit_48, lit_51, lit_57, lit_58, lit_59, lit_60, lit_61, lit_63, lit_77, lit_100, lit_140, lit_168, lit_200, lit_393, lit_400, lit_900, lit_969, lit_1000, lit_1041, lit_1045, lit_1093, lit_1168, lit_1200, lit_3279, lit_3333, lit_4372, lit_9999, nI_10, if_false, if_true, m_gm8, m_gm10, h1, h8, nI_leE, cT]
    rfl
  · have cT : (T.length ≤ p) = False := eq_false c
    obtain ⟨v, hv⟩ : ∃ v, T[p]? = some v := ⟨T[p], List.getElem?_eq_getElem (by omega)⟩
    have h3 := hT.2 p v hv
    rw [hv]
    dsimp only
    by_cases d : a ≤ v ∧ v ≤ b
    · rw [bI_t (decide_eq_true d)]
      simp (disch := first | assumption | omega) only [f_X8_isNext, f_X8_isNext_32, m_rx0, m_rx1, m_rx2, m_rx3, m_rx4, m_ix, m_iO isB_3, m_iO isB_184, m_iO isB_365, m_iH, m_iX, m_iD, m_im, m_rm0, e_wi_t, e_wi_f, e_ro_t, e_ro_f, e8_wi_t, e8_wi_f, e8_ro_t, e8_ro_f, zbool_0, zbool_1, zb2_s, zif_t, zopt_n, zopt_s, b_s, znm_e, lit_0, lit_1, lit_2, lit_3, lit_4, lit_5, lit_6, lit_7, lit_8, lit_9, lit_10, lit_11, lit_12, lit_13, lit_17, lit_20, lit_23, lit_24, lit_43, lit_48, lit_51, lit_57, lit_58, lit_59, lit_60, lit_61, lit_63, lit_77, lit_100, lit_140, lit_168, lit_200, lit_393, lit_400, lit_900, lit_969, lit_1000, lit_1041, lit_1045, lit_1093, lit_1168, lit_1200, lit_3279, lit_3333, lit_4372, lit_9999, nI_10, if_false, if_true, m_gm8, m_gm10, m_rm4, m_ld1283, h1, h8, h3, nI_leE, cT]
    · rw [bI_f (decide_eq_false d)]
      simp (disch := first | assumption | omega) only [f_X8_isNext, f_X8_isNext_32, m_rx0, m_rx1, m_rx2, m_rx3, m_rx4, m_ix, m_iO isB_3, m_iO isB_184, m_iO isB_365, m_iH, m_iX, m_iD, m_im, m_rm0, e_wi_t, e_wi_f, e_ro_t, e_ro_f, e8_wi_t, e8_wi_f, e8_ro_t, e8_ro_f, zbool_0, zbool_1, zb2_s, zif_t, zopt_n, zopt_s, b_s, znm_e, lit_0, lit_1, lit_2, lit_3, lit_4, lit_5, lit_6, lit_7, lit_8, lit_9, lit_10, lit_11, lit_12, lit_13, lit_17, lit_20, lit_23, lit_24, lit_43, lit_48, lit_51, lit_57, lit_58, lit_59, lit_60, lit_61, lit_63, lit_77, lit_100, lit_140, lit_168, lit_200, lit_393, lit_400, lit_900, lit_969, lit_1000, lit_1041, lit_1045, lit_1093, lit_1168, lit_1200, lit_3279, lit_3333, lit_4372, lit_9999, nI_10, if_false, if_true, m_gm8, m_gm10, m_rm4, m_ld1283, h1, h8, h3, nI_leE, cT]
theorem isN_d {T : List Int32} {p d least most : Nat} (e : dT T p = some d) (hl : least ≤ 9) (h2 : most ≤ 9) : isN T p (nI (48 + least)) (nI (48 + most)) = decide (least ≤ d ∧ d ≤ most) := by
  obtain ⟨h, g, d9⟩ := dT_s e
  unfold isN
  rw [g]
  exact decide_eq_decide.mpr ⟨fun q => ⟨by have := (nI_leI (by omega) (by omega)).mp q.1; omega, by have := (nI_leI (by omega) (by omega)).mp q.2; omega⟩, fun q => wi_n (by omega) (by omega) (by omega)⟩
theorem isN_n {T : List Int32} {p : Nat} {a b : Int32} (e : dT T p = none) (ha : nI 48 ≤ a) (hb : b ≤ nI 57) : isN T p a b = false := by
  unfold isN
  cases g : T[p]? with
  | none => rfl
  | some v =>
    dsimp only
    have e : dgC v = none := by unfold dT at e; rw [g] at e; exact e
    exact decide_eq_false (fun q => dgC_n e ⟨Int32.le_trans ha q.1, Int32.le_trans q.2 hb⟩)
theorem e8_numL {z : Nat} {T : List Int32} (h60 : T.length ≤ 60) {at' most : Nat} (ha : at' < 4) (hm : most < 10000) : ∀ (n fuel v p : Nat) (X : pX), TxM X.1 T → X.1 1278 8 = nI p → p + n = T.length → v ≤ most → n < fuel → ∃ V', f_X8_number_52 fuel (z + 1278) (nI at') (nI most) (nI v) (hp z X) = some (nI 1, hp z (V', X.2)) ∧ KM8 X.1 V' (nuL T most n v p).2 ∧ V' 1284 = upd (X.1 1284) at' (nI (nuL T most n v p).1) := by
  intro n
  have st : ∀ (X : pX) (v p : Nat), X.1 1278 8 = nI p → KM8 X.1 (sV X.1 1284 (upd (X.1 1284) at' (nI v))) p ∧ sV X.1 1284 (upd (X.1 1284) at' (nI v)) 1284 = upd (X.1 1284) at' (nI v) := fun X v p h => ⟨⟨by rw [sV_n (by omega)]; exact h, fun i _ => by rw [sV_n (by omega)], fun o _ h2 => sV_n h2⟩, sV_s⟩
  induction n with
  | zero =>
    intro fuel v p X hT h8 hpp hv hf
    obtain ⟨fuel, rfl⟩ : ∃ f, fuel = f + 1 := ⟨fuel - 1, by omega⟩
    have g := e8_next1 (z := z) hT h60 (p := p) (by omega) h8 (nI 48) (nI 57)
    have e : dT T p = none := by unfold dT; rw [List.getElem?_eq_none (by omega)]
    rw [isN_n e (Int32.le_refl _) (Int32.le_refl _)] at g
    have g : f_X8_isNext (z + 1278) (nI 48) (nI 57) (hp z X) = some (nI 0, hp z X) := g
    obtain ⟨s1, s2⟩ := st X v p h8
    refine ⟨_, ?_, s1, s2⟩
    by_cases c : v = 0
    · have c0 : (nI v ≤ nI 0) = True := eq_true (by rw [c]; exact Int32.le_refl _)
      simp (disch := first | assumption | omega) only [f_X8_number_52, f_X8_number_52_body, f_X8_number_123, m_rx0, m_rx1, m_rx2, m_rx3, m_rx4, m_ix, m_iO isB_3, m_iO isB_184, m_iO isB_365, m_iH, m_iX, m_iD, m_im, m_rm0, e_wi_t, e_wi_f, e_ro_t, e_ro_f, e8_wi_t, e8_wi_f, e8_ro_t, e8_ro_f, zbool_0, zbool_1, zb2_s, zif_t, zopt_n, zopt_s, b_s, znm_e, lit_0, lit_1, lit_2, lit_3, lit_4, lit_5, lit_6, lit_7, lit_8, lit_9, lit_10, lit_11, lit_12, lit_13, lit_17, lit_20, lit_23, lit_24, lit_43, lit_48, lit_51, lit_57, lit_58, lit_59, lit_60, lit_61, lit_63, lit_77, lit_100, lit_140, lit_168, lit_200, lit_393, lit_400, lit_900, lit_969, lit_1000, lit_1041, lit_1045, lit_1093, lit_1168, lit_1200, lit_3279, lit_3333, lit_4372, lit_9999, nI_10, if_false, if_true, c0, m_rm5, m_st1284]
    · have c0 : (nI v ≤ nI 0) = False := eq_false (fun q => by have := (nI_leI (by omega) (by omega)).mp q; omega)
      simp (disch := first | assumption | omega) only [f_X8_number_52, f_X8_number_52_body, f_X8_number_123, m_rx0, m_rx1, m_rx2, m_rx3, m_rx4, m_ix, m_iO isB_3, m_iO isB_184, m_iO isB_365, m_iH, m_iX, m_iD, m_im, m_rm0, e_wi_t, e_wi_f, e_ro_t, e_ro_f, e8_wi_t, e8_wi_f, e8_ro_t, e8_ro_f, zbool_0, zbool_1, zb2_s, zif_t, zopt_n, zopt_s, b_s, znm_e, lit_0, lit_1, lit_2, lit_3, lit_4, lit_5, lit_6, lit_7, lit_8, lit_9, lit_10, lit_11, lit_12, lit_13, lit_17, lit_20, lit_23, lit_24, lit_43, lit_48, lit_51, lit_57, lit_58, lit_59, lit_60, lit_61, lit_63, lit_77, lit_100, lit_140, lit_168, lit_200, lit_393, lit_400, lit_900, lit_969, lit_1000, lit_1041, lit_1045, lit_1093, lit_1168, lit_1200, lit_3279, lit_3333, lit_4372, lit_9999, nI_10, if_false, if_true, c0, g, m_rm5, m_st1284]
  | succ n ih =>
    intro fuel v p X hT h8 hpp hv hf
    obtain ⟨fuel, rfl⟩ : ∃ f, fuel = f + 1 := ⟨fuel - 1, by omega⟩
    have g := e8_next1 (z := z) hT h60 (p := p) (by omega) h8 (nI 48) (nI 57)
    obtain ⟨s1, s2⟩ := st X v p h8
    unfold nuL
    cases e : dT T p with
    | none =>
      rw [isN_n e (Int32.le_refl _) (Int32.le_refl _)] at g
      have g : f_X8_isNext (z + 1278) (nI 48) (nI 57) (hp z X) = some (nI 0, hp z X) := g
      refine ⟨_, ?_, s1, s2⟩
      by_cases c : v = 0
      · have c0 : (nI v ≤ nI 0) = True := eq_true (by rw [c]; exact Int32.le_refl _)
        simp (disch := first | assumption | omega) only [f_X8_number_52, f_X8_number_52_body, f_X8_number_123, m_rx0, m_rx1, m_rx2, m_rx3, m_rx4, m_ix, m_iO isB_3, m_iO isB_184, m_iO isB_365, m_iH, m_iX, m_iD, m_im, m_rm0, e_wi_t, e_wi_f, e_ro_t, e_ro_f, e8_wi_t, e8_wi_f, e8_ro_t, e8_ro_f, zbool_0, zbool_1, zb2_s, zif_t, zopt_n, zopt_s, b_s, znm_e, lit_0, lit_1, lit_2, lit_3, lit_4, lit_5, lit_6, lit_7, lit_8, lit_9, lit_10, lit_11, lit_12, lit_13, lit_17, lit_20, lit_23, lit_24, lit_43, lit_48, lit_51, lit_57, lit_58, lit_59, lit_60, lit_61, lit_63, lit_77, lit_100, lit_140, lit_168, lit_200, lit_393, lit_400, lit_900, lit_969, lit_1000, lit_1041, lit_1045, lit_1093, lit_1168, lit_1200, lit_3279, lit_3333, lit_4372, lit_9999, nI_10, if_false, if_true, c0, m_rm5, m_st1284]
      · have c0 : (nI v ≤ nI 0) = False := eq_false (fun q => by have := (nI_leI (by omega) (by omega)).mp q; omega)
        simp (disch := first | assumption | omega) only [f_X8_number_52, f_X8_number_52_body, f_X8_number_123, m_rx0, m_rx1, m_rx2, m_rx3, m_rx4, m_ix, m_iO isB_3, m_iO isB_184, m_iO isB_365, m_iH, m_iX, m_iD, m_im, m_rm0, e_wi_t, e_wi_f, e_ro_t, e_ro_f, e8_wi_t, e8_wi_f, e8_ro_t, e8_ro_f, zbool_0, zbool_1, zb2_s, zif_t, zopt_n, zopt_s, b_s, znm_e, lit_0, lit_1, lit_2, lit_3, lit_4, lit_5, lit_6, lit_7, lit_8, lit_9, lit_10, lit_11, lit_12, lit_13, lit_17, lit_20, lit_23, lit_24, lit_43, lit_48, lit_51, lit_57, lit_58, lit_59, lit_60, lit_61, lit_63, lit_77, lit_100, lit_140, lit_168, lit_200, lit_393, lit_400, lit_900, lit_969, lit_1000, lit_1041, lit_1045, lit_1093, lit_1168, lit_1200, lit_3279, lit_3333, lit_4372, lit_9999, nI_10, if_false, if_true, c0, g, m_rm5, m_st1284]
    | some d =>
      dsimp only
      by_cases c : v = 0
      · rw [if_pos (Or.inl c)]
        have c0 : (nI v ≤ nI 0) = True := eq_true (by rw [c]; exact Int32.le_refl _)
        refine ⟨_, ?_, s1, s2⟩
        simp (disch := first | assumption | omega) only [f_X8_number_52, f_X8_number_52_body, f_X8_number_123, m_rx0, m_rx1, m_rx2, m_rx3, m_rx4, m_ix, m_iO isB_3, m_iO isB_184, m_iO isB_365, m_iH, m_iX, m_iD, m_im, m_rm0, e_wi_t, e_wi_f, e_ro_t, e_ro_f, e8_wi_t, e8_wi_f, e8_ro_t, e8_ro_f, zbool_0, zbool_1, zb2_s, zif_t, zopt_n, zopt_s, b_s, znm_e, lit_0, lit_1, lit_2, lit_3, lit_4, lit_5, lit_6, lit_7, lit_8, lit_9, lit_10, lit_11, lit_12, lit_13, lit_17, lit_20, lit_23, lit_24, lit_43, lit_48, lit_51, lit_57, lit_58, lit_59, lit_60, lit_61, lit_63, lit_77, lit_100, lit_140, lit_168, lit_200, lit_393, lit_400, lit_900, lit_969, lit_1000, lit_1041, lit_1045, lit_1093, lit_1168, lit_1200, lit_3279, lit_3333, lit_4372, lit_9999, nI_10, if_false, if_true, c0, m_rm5, m_st1284]
      · have c0 : (nI v ≤ nI 0) = False := eq_false (fun q => by have := (nI_leI (by omega) (by omega)).mp q; omega)
        have g9 := isN_d (least := 0) (most := 9) e (by omega) (by omega)
        obtain ⟨o1, o2, o3⟩ := dT_s e
        rw [decide_eq_true (show 0 ≤ d ∧ d ≤ 9 from ⟨Nat.zero_le _, o3⟩)] at g9
        have g : f_X8_isNext (z + 1278) (nI 48) (nI 57) (hp z X) = some (nI 1, hp z X) := by rw [g]; exact congrArg (fun b => some (bI b, hp z X)) g9
        have h3 := hT.2 p _ o2
        have e1 : nI 10 * nI v + nI (48 + d) - nI 48 = nI (10 * v + d) := by
          rw [nI_mul, nI_add, nI_sub (by omega)]; congr 1; omega
        by_cases c2 : most < 10 * v + d
        · rw [if_pos (Or.inr c2)]
          have c3 : (most < 10 * v + d) = True := eq_true c2
          refine ⟨_, ?_, s1, s2⟩
          simp (disch := first | assumption | omega) only [f_X8_number_52, f_X8_number_52_body, f_X8_number_123, m_rx0, m_rx1, m_rx2, m_rx3, m_rx4, m_ix, m_iO isB_3, m_iO isB_184, m_iO isB_365, m_iH, m_iX, m_iD, m_im, m_rm0, e_wi_t, e_wi_f, e_ro_t, e_ro_f, e8_wi_t, e8_wi_f, e8_ro_t, e8_ro_f, zbool_0, zbool_1, zb2_s, zif_t, zopt_n, zopt_s, b_s, znm_e, lit_0, lit_1, lit_2, lit_3, lit_4, lit_5, lit_6, lit_7, lit_8, lit_9, lit_10, lit_11, lit_12, lit_13, lit_17, lit_20, lit_23, lit_24, lit_43, lit_48, lit_51, lit_57, lit_58, lit_59, lit_60, lit_61, lit_63, lit_77, lit_100, lit_140, lit_168, lit_200, lit_393, lit_400, lit_900, lit_969, lit_1000, lit_1041, lit_1045, lit_1093, lit_1168, lit_1200, lit_3279, lit_3333, lit_4372, lit_9999, nI_10, if_false, if_true, c0, g, m_rm4, m_gm8, h8, m_ld1283, h3, e1, nI_ltE, c3, m_rm5, m_st1284]
        · rw [if_neg (by omega)]
          have c3 : (most < 10 * v + d) = False := eq_false c2
          have kx : KM8 X.1 (sV X.1 1278 (upd (X.1 1278) 8 (nI (p + 1)))) (p + 1) := KM8.up
          obtain ⟨V', k1, k2, k3⟩ := ih fuel (10 * v + d) (p + 1) (sV X.1 1278 (upd (X.1 1278) 8 (nI (p + 1))), X.2) (kx.tx hT) kx.1 (by omega) (by omega) (by omega)
          dsimp only at k1 k3
          rw [sV_n (by omega)] at k3
          refine ⟨V', ?_, kx.tr k2, k3⟩
          simp (disch := first | assumption | omega) only [f_X8_number_52, f_X8_number_52_body, f_X8_number_123, m_rx0, m_rx1, m_rx2, m_rx3, m_rx4, m_ix, m_iO isB_3, m_iO isB_184, m_iO isB_365, m_iH, m_iX, m_iD, m_im, m_rm0, e_wi_t, e_wi_f, e_ro_t, e_ro_f, e8_wi_t, e8_wi_f, e8_ro_t, e8_ro_f, zbool_0, zbool_1, zb2_s, zif_t, zopt_n, zopt_s, b_s, znm_e, lit_0, lit_1, lit_2, lit_3, lit_4, lit_5, lit_6, lit_7, lit_8, lit_9, lit_10, lit_11, lit_12, lit_13, lit_17, lit_20, lit_23, lit_24, lit_43, lit_48, lit_51, lit_57, lit_58, lit_59, lit_60, lit_61, lit_63, lit_77, lit_100, lit_140, lit_168, lit_200, lit_393, lit_400, lit_900, lit_969, lit_1000, lit_1041, lit_1045, lit_1093, lit_1168, lit_1200, lit_3279, lit_3333, lit_4372, lit_9999, nI_10, if_false, if_true, c0, g, m_rm4, m_gm8, h8, m_ld1283, h3, e1, nI_ltE, c3, nI_add, m_pm8]
          exact k1
theorem e8_num {z : Nat} {X : pX} {T : List Int32} {p least most at' : Nat} (hT : TxM X.1 T) (h60 : T.length ≤ 60) (hpp : p ≤ 60) (h8 : X.1 1278 8 = nI p) (hl : least ≤ 9) (hm : most < 10000) (ha : at' < 4) : ∃ V', f_X8_number (z + 1278) (nI at') (nI least) (nI most) (hp z X) = some (bI (nu T least most p).isSome, hp z (V', X.2)) ∧ KM8 X.1 V' (nP (nu T least most p) p) ∧ ∀ r, nu T least most p = some r → V' 1284 = upd (X.1 1284) at' (nI r.1) := by
  obtain ⟨mx, hmx, hmx9⟩ : ∃ mx, f_X8_number (z + 1278) (nI at') (nI least) (nI most) (hp z X) = f_X8_number_20 (z + 1278) (nI at') (nI most) (nI (48 + mx)) (nI (48 + least)) (z + 1278) (hp z X) ∧ mx ≤ 9 ∧ ∀ d, d ≤ 9 → (d ≤ mx ↔ d ≤ most) := by
    by_cases c : 9 ≤ most
    · have cT : (9 ≤ most) = True := eq_true c
      refine ⟨9, ?_, by omega, fun d _ => by omega⟩
      simp (disch := first | assumption | omega) only [f_X8_number, m_rx0, m_rx1, m_rx2, m_rx3, m_rx4, m_ix, m_iO isB_3, m_iO isB_184, m_iO isB_365, m_iH, m_iX, m_iD, m_im, m_rm0, e_wi_t, e_wi_f, e_ro_t, e_ro_f, e8_wi_t, e8_wi_f, e8_ro_t, e8_ro_f, zbool_0, zbool_1, zb2_s, zif_t, zopt_n, zopt_s, b_s, znm_e, lit_0, lit_1, lit_2, lit_3, lit_4, lit_5, lit_6, lit_7, lit_8, lit_9, lit_10, lit_11, lit_12, lit_13, lit_17, lit_20, lit_23, lit_24, lit_43, lit_48, lit_51, lit_57, lit_58, lit_59, lit_60, lit_61, lit_63, lit_77, lit_100, lit_140, lit_168, lit_200, lit_393, lit_400, lit_900, lit_969, lit_1000, lit_1041, lit_1045, lit_1093, lit_1168, lit_1200, lit_3279, lit_3333, lit_4372, lit_9999, nI_10, if_false, if_true, nI_leE, cT, nI_add, Nat.reduceAdd]
    · have cT : (9 ≤ most) = False := eq_false c
      refine ⟨most, ?_, by omega, fun d _ => Iff.rfl⟩
      simp (disch := first | assumption | omega) only [f_X8_number, m_rx0, m_rx1, m_rx2, m_rx3, m_rx4, m_ix, m_iO isB_3, m_iO isB_184, m_iO isB_365, m_iH, m_iX, m_iD, m_im, m_rm0, e_wi_t, e_wi_f, e_ro_t, e_ro_f, e8_wi_t, e8_wi_f, e8_ro_t, e8_ro_f, zbool_0, zbool_1, zb2_s, zif_t, zopt_n, zopt_s, b_s, znm_e, lit_0, lit_1, lit_2, lit_3, lit_4, lit_5, lit_6, lit_7, lit_8, lit_9, lit_10, lit_11, lit_12, lit_13, lit_17, lit_20, lit_23, lit_24, lit_43, lit_48, lit_51, lit_57, lit_58, lit_59, lit_60, lit_61, lit_63, lit_77, lit_100, lit_140, lit_168, lit_200, lit_393, lit_400, lit_900, lit_969, lit_1000, lit_1041, lit_1045, lit_1093, lit_1168, lit_1200, lit_3279, lit_3333, lit_4372, lit_9999, nI_10, if_false, if_true, nI_leE, cT, nI_add]
  rw [hmx]
  have g := e8_next1 (z := z) hT h60 (p := p) (by omega) h8 (nI (48 + least)) (nI (48 + mx))
  unfold nu
  cases e : dT T p with
  | none =>
    rw [isN_n e (nI_le (by omega) (by omega)) (nI_le (by omega) (by omega))] at g
    have g : f_X8_isNext (z + 1278) (nI (48 + least)) (nI (48 + mx)) (hp z X) = some (nI 0, hp z X) := g
    refine ⟨X.1, ?_, KM8.rf h8, fun r h => by cases h⟩
    simp (disch := first | assumption | omega) only [f_X8_number_20, m_rx0, m_rx1, m_rx2, m_rx3, m_rx4, m_ix, m_iO isB_3, m_iO isB_184, m_iO isB_365, m_iH, m_iX, m_iD, m_im, m_rm0, e_wi_t, e_wi_f, e_ro_t, e_ro_f, e8_wi_t, e8_wi_f, e8_ro_t, e8_ro_f, zbool_0, zbool_1, zb2_s, zif_t, zopt_n, zopt_s, b_s, znm_e, lit_0, lit_1, lit_2, lit_3, lit_4, lit_5, lit_6, lit_7, lit_8, lit_9, lit_10, lit_11, lit_12, lit_13, lit_17, lit_20, lit_23, lit_24, lit_43, lit_48, lit_51, lit_57, lit_58, lit_59, lit_60, lit_61, lit_63, lit_77, lit_100, lit_140, lit_168, lit_200, lit_393, lit_400, lit_900, lit_969, lit_1000, lit_1041, lit_1045, lit_1093, lit_1168, lit_1200, lit_3279, lit_3333, lit_4372, lit_9999, nI_10, if_false, if_true, g]
    rfl
  | some d =>
    obtain ⟨o1, o2, o3⟩ := dT_s e
    rw [isN_d e hl hmx9.1] at g
    dsimp only
    by_cases c : least ≤ d ∧ d ≤ most
    · rw [if_pos c]
      rw [decide_eq_true (show least ≤ d ∧ d ≤ mx from ⟨c.1, (hmx9.2 d o3).mpr c.2⟩)] at g
      have g : f_X8_isNext (z + 1278) (nI (48 + least)) (nI (48 + mx)) (hp z X) = some (nI 1, hp z X) := g
      have h3 := hT.2 p _ o2
      have e1 : nI (48 + d) - nI 48 = nI d := by rw [nI_sub (by omega)]; congr 1; omega
      have kx : KM8 X.1 (sV X.1 1278 (upd (X.1 1278) 8 (nI (p + 1)))) (p + 1) := KM8.up
      obtain ⟨V', k1, k2, k3⟩ := e8_numL (z := z) h60 ha hm (T.length - (p + 1)) zN d (p + 1) (sV X.1 1278 (upd (X.1 1278) 8 (nI (p + 1))), X.2) (kx.tx hT) kx.1 (by omega) c.2 (zN_lt (by omega))
      dsimp only at k1 k3
      rw [sV_n (by omega)] at k3
      refine ⟨V', ?_, kx.tr k2, fun r h => by cases h; exact k3⟩
      simp (disch := first | assumption | omega) only [f_X8_number_20, m_rx0, m_rx1, m_rx2, m_rx3, m_rx4, m_ix, m_iO isB_3, m_iO isB_184, m_iO isB_365, m_iH, m_iX, m_iD, m_im, m_rm0, e_wi_t, e_wi_f, e_ro_t, e_ro_f, e8_wi_t, e8_wi_f, e8_ro_t, e8_ro_f, zbool_0, zbool_1, zb2_s, zif_t, zopt_n, zopt_s, b_s, znm_e, lit_0, lit_1, lit_2, lit_3, lit_4, lit_5, lit_6, lit_7, lit_8, lit_9, lit_10, lit_11, lit_12, lit_13, lit_17, lit_20, lit_23, lit_24, lit_43, lit_48, lit_51, lit_57, lit_58, lit_59, lit_60, lit_61, lit_63, lit_77, lit_100, lit_140, lit_168, lit_200, lit_393, lit_400, lit_900, lit_969, lit_1000, lit_1041, lit_1045, lit_1093, lit_1168, lit_1200, lit_3279, lit_3333, lit_4372, lit_9999, nI_10, if_false, if_true, g, m_rm4, m_gm8, h8, m_ld1283, h3, e1, nI_add, m_pm8]
      exact k1
    · rw [if_neg c]
      rw [decide_eq_false (show ¬ (least ≤ d ∧ d ≤ mx) from fun q => c ⟨q.1, (hmx9.2 d o3).mp q.2⟩)] at g
      have g : f_X8_isNext (z + 1278) (nI (48 + least)) (nI (48 + mx)) (hp z X) = some (nI 0, hp z X) := g
      refine ⟨X.1, ?_, KM8.rf h8, fun r h => by cases h⟩
      simp (disch := first | assumption | omega) only [f_X8_number_20, m_rx0, m_rx1, m_rx2, m_rx3, m_rx4, m_ix, m_iO isB_3, m_iO isB_184, m_iO isB_365, m_iH, m_iX, m_iD, m_im, m_rm0, e_wi_t, e_wi_f, e_ro_t, e_ro_f, e8_wi_t, e8_wi_f, e8_ro_t, e8_ro_f, zbool_0, zbool_1, zb2_s, zif_t, zopt_n, zopt_s, b_s, znm_e, lit_0, lit_1, lit_2, lit_3, lit_4, lit_5, lit_6, lit_7, lit_8, lit_9, lit_10, lit_11, lit_12, lit_13, lit_17, lit_20, lit_23, lit_24, lit_43, lit_48, lit_51, lit_57, lit_58, lit_59, lit_60, lit_61, lit_63, lit_77, lit_100, lit_140, lit_168, lit_200, lit_393, lit_400, lit_900, lit_969, lit_1000, lit_1041, lit_1045, lit_1093, lit_1168, lit_1200, lit_3279, lit_3333, lit_4372, lit_9999, nI_10, if_false, if_true, g]
      rfl
theorem isN_c {T : List Int32} {p : Nat} {c : Int32} : isN T p c c = decide (T[p]? = some c) := by
  unfold isN
  cases g : T[p]? with
  | none => exact (decide_eq_false (by intro h; cases h)).symm
  | some v =>
    dsimp only
    refine decide_eq_decide.mpr ⟨fun q => congrArg some (Int32.le_antisymm q.2 q.1), fun q => ?_⟩
    have q := Option.some.inj q
    rw [q]
    exact ⟨Int32.le_refl _, Int32.le_refl _⟩
theorem e8_sign {z : Nat} {X : pX} {T : List Int32} {p : Nat} (hT : TxM X.1 T) (h60 : T.length ≤ 60) (hpp : p ≤ 60) (h8 : X.1 1278 8 = nI p) (c : Int32) : ∃ V', f_X8_sign (z + 1278) c (hp z X) = some (bI (decide (T[p]? = some c)), hp z (V', X.2)) ∧ KM8 X.1 V' (if T[p]? = some c then p + 1 else p) ∧ V' 1284 = X.1 1284 := by
  have g := e8_next1 (z := z) hT h60 (p := p) (by omega) h8 c c
  rw [isN_c] at g
  by_cases d : T[p]? = some c
  · rw [decide_eq_true d] at g ⊢
    rw [if_pos d]
    have g : f_X8_isNext (z + 1278) c c (hp z X) = some (nI 1, hp z X) := g
    refine ⟨_, ?_, KM8.up, sV_n (by omega)⟩
    simp (disch := first | assumption | omega) only [f_X8_sign, f_X8_sign_21, m_rx0, m_rx1, m_rx2, m_rx3, m_rx4, m_ix, m_iO isB_3, m_iO isB_184, m_iO isB_365, m_iH, m_iX, m_iD, m_im, m_rm0, e_wi_t, e_wi_f, e_ro_t, e_ro_f, e8_wi_t, e8_wi_f, e8_ro_t, e8_ro_f, zbool_0, zbool_1, zb2_s, zif_t, zopt_n, zopt_s, b_s, znm_e, lit_0, lit_1, lit_2, lit_3, lit_4, lit_5, lit_6, lit_7, lit_8, lit_9, lit_10, lit_11, lit_12, lit_13, lit_17, lit_20, lit_23, lit_24, lit_43, lit_48, lit_51, lit_57, lit_58, lit_59, lit_60, lit_61, lit_63, lit_77, lit_100, lit_140, lit_168, lit_200, lit_393, lit_400, lit_900, lit_969, lit_1000, lit_1041, lit_1045, lit_1093, lit_1168, lit_1200, lit_3279, lit_3333, lit_4372, lit_9999, nI_10, if_false, if_true, g, m_gm8, h8, nI_add, m_pm8]
    rfl
  · rw [decide_eq_false d] at g ⊢
    rw [if_neg d]
    have g : f_X8_isNext (z + 1278) c c (hp z X) = some (nI 0, hp z X) := g
    refine ⟨_, ?_, KM8.up, sV_n (by omega)⟩
    simp (disch := first | assumption | omega) only [f_X8_sign, f_X8_sign_21, m_rx0, m_rx1, m_rx2, m_rx3, m_rx4, m_ix, m_iO isB_3, m_iO isB_184, m_iO isB_365, m_iH, m_iX, m_iD, m_im, m_rm0, e_wi_t, e_wi_f, e_ro_t, e_ro_f, e8_wi_t, e8_wi_f, e8_ro_t, e8_ro_f, zbool_0, zbool_1, zb2_s, zif_t, zopt_n, zopt_s, b_s, znm_e, lit_0, lit_1, lit_2, lit_3, lit_4, lit_5, lit_6, lit_7, lit_8, lit_9, lit_10, lit_11, lit_12, lit_13, lit_17, lit_20, lit_23, lit_24, lit_43, lit_48, lit_51, lit_57, lit_58, lit_59, lit_60, lit_61, lit_63, lit_77, lit_100, lit_140, lit_168, lit_200, lit_393, lit_400, lit_900, lit_969, lit_1000, lit_1041, lit_1045, lit_1093, lit_1168, lit_1200, lit_3279, lit_3333, lit_4372, lit_9999, nI_10, if_false, if_true, g, m_gm8, h8, nI_add, m_pm8, Nat.add_zero]
    rfl
theorem e8_seL {z : Nat} {T : List Int32} (h60 : T.length ≤ 60) : ∀ (n fuel k v p : Nat) (X : pX), TxM X.1 T → X.1 1278 8 = nI p → p ≤ T.length → k + n = 4 → v < 10 ^ k → n < fuel → ∃ V', f_X8_readSailing_66 fuel (z + 1278) (nI v) (nI k) (hp z X) = some (bI (seL T n v p).1.isSome, hp z (V', X.2)) ∧ KM8 X.1 V' (seL T n v p).2 ∧ ∀ w, (seL T n v p).1 = some w → V' 1284 = upd (X.1 1284) 3 (nI w) := by
  intro n
  induction n with
  | zero =>
    intro fuel k v p X hT h8 hpp hk hv hf
    obtain ⟨fuel, rfl⟩ : ∃ f, fuel = f + 1 := ⟨fuel - 1, by omega⟩
    obtain rfl : k = 4 := by omega
    refine ⟨sV X.1 1284 (upd (X.1 1284) 3 (nI v)), ?_, ⟨by rw [sV_n (by omega)]; exact h8, fun i _ => by rw [sV_n (by omega)], fun o _ h2 => sV_n h2⟩, fun w e => by cases e; exact sV_s⟩
    simp (disch := first | assumption | omega) only [f_X8_readSailing_66, f_X8_readSailing_66_body, m_rx0, m_rx1, m_rx2, m_rx3, m_rx4, m_ix, m_iO isB_3, m_iO isB_184, m_iO isB_365, m_iH, m_iX, m_iD, m_im, m_rm0, e_wi_t, e_wi_f, e_ro_t, e_ro_f, e8_wi_t, e8_wi_f, e8_ro_t, e8_ro_f, zbool_0, zbool_1, zb2_s, zif_t, zopt_n, zopt_s, b_s, znm_e, lit_0, lit_1, lit_2, lit_3, lit_4, lit_5, lit_6, lit_7, lit_8, lit_9, lit_10, lit_11, lit_12, lit_13, lit_17, lit_20, lit_23, lit_24, lit_43, lit_48, lit_51, lit_57, lit_58, lit_59, lit_60, lit_61, lit_63, lit_77, lit_100, lit_140, lit_168, lit_200, lit_393, lit_400, lit_900, lit_969, lit_1000, lit_1041, lit_1045, lit_1093, lit_1168, lit_1200, lit_3279, lit_3333, lit_4372, lit_9999, nI_10, if_false, if_true, nI_leE, Nat.le_refl, m_rm5, m_st1284]
    rfl
  | succ n ih =>
    intro fuel k v p X hT h8 hpp hk hv hf
    obtain ⟨fuel, rfl⟩ : ∃ f, fuel = f + 1 := ⟨fuel - 1, by omega⟩
    have k4 : (4 ≤ k) = False := eq_false (by omega)
    have g := e8_next1 (z := z) hT h60 (p := p) (by omega) h8 (nI 48) (nI 51)
    have v4 : v < 10 ^ 4 := Nat.lt_of_lt_of_le hv (Nat.pow_le_pow_right (by omega) (by omega))
    unfold seL
    cases e : dT T p with
    | none =>
      rw [isN_n e (Int32.le_refl _) (nI_le (by omega) (by omega))] at g
      have g : f_X8_isNext (z + 1278) (nI 48) (nI 51) (hp z X) = some (nI 0, hp z X) := g
      refine ⟨X.1, ?_, KM8.rf h8, fun w h => by cases h⟩
      simp (disch := first | assumption | omega) only [f_X8_readSailing_66, f_X8_readSailing_66_body, m_rx0, m_rx1, m_rx2, m_rx3, m_rx4, m_ix, m_iO isB_3, m_iO isB_184, m_iO isB_365, m_iH, m_iX, m_iD, m_im, m_rm0, e_wi_t, e_wi_f, e_ro_t, e_ro_f, e8_wi_t, e8_wi_f, e8_ro_t, e8_ro_f, zbool_0, zbool_1, zb2_s, zif_t, zopt_n, zopt_s, b_s, znm_e, lit_0, lit_1, lit_2, lit_3, lit_4, lit_5, lit_6, lit_7, lit_8, lit_9, lit_10, lit_11, lit_12, lit_13, lit_17, lit_20, lit_23, lit_24, lit_43, lit_48, lit_51, lit_57, lit_58, lit_59, lit_60, lit_61, lit_63, lit_77, lit_100, lit_140, lit_168, lit_200, lit_393, lit_400, lit_900, lit_969, lit_1000, lit_1041, lit_1045, lit_1093, lit_1168, lit_1200, lit_3279, lit_3333, lit_4372, lit_9999, nI_10, if_false, if_true, nI_leE, k4, g]
      rfl
    | some d =>
      obtain ⟨o1, o2, o3⟩ := dT_s e
      have g9 := isN_d (least := 0) (most := 3) e (by omega) (by omega)
      dsimp only
      by_cases c : d ≤ 3
      · rw [if_pos c]
        rw [decide_eq_true (show 0 ≤ d ∧ d ≤ 3 from ⟨Nat.zero_le _, c⟩)] at g9
        have g : f_X8_isNext (z + 1278) (nI 48) (nI 51) (hp z X) = some (nI 1, hp z X) := by rw [g]; exact congrArg (fun b => some (bI b, hp z X)) g9
        have h3 := hT.2 p _ o2
        have e1 : nI 10 * nI v + nI (48 + d) - nI 48 = nI (10 * v + d) := by
          rw [nI_mul, nI_add, nI_sub (by omega)]; congr 1; omega
        have kx : KM8 X.1 (sV X.1 1278 (upd (X.1 1278) 8 (nI (p + 1)))) (p + 1) := KM8.up
        have hv2 : 10 * v + d < 10 ^ (k + 1) := by rw [Nat.pow_succ]; omega
        obtain ⟨V', k1, k2, k3⟩ := ih fuel (k + 1) (10 * v + d) (p + 1) (sV X.1 1278 (upd (X.1 1278) 8 (nI (p + 1))), X.2) (kx.tx hT) kx.1 (by omega) (by omega) hv2 (by omega)
        dsimp only at k1 k3
        refine ⟨V', ?_, kx.tr k2, fun w h => by rw [k3 w h, sV_n (by omega)]⟩
        simp (disch := first | assumption | omega) only [f_X8_readSailing_66, f_X8_readSailing_66_body, m_rx0, m_rx1, m_rx2, m_rx3, m_rx4, m_ix, m_iO isB_3, m_iO isB_184, m_iO isB_365, m_iH, m_iX, m_iD, m_im, m_rm0, e_wi_t, e_wi_f, e_ro_t, e_ro_f, e8_wi_t, e8_wi_f, e8_ro_t, e8_ro_f, zbool_0, zbool_1, zb2_s, zif_t, zopt_n, zopt_s, b_s, znm_e, lit_0, lit_1, lit_2, lit_3, lit_4, lit_5, lit_6, lit_7, lit_8, lit_9, lit_10, lit_11, lit_12, lit_13, lit_17, lit_20, lit_23, lit_24, lit_43, lit_48, lit_51, lit_57, lit_58, lit_59, lit_60, lit_61, lit_63, lit_77, lit_100, lit_140, lit_168, lit_200, lit_393, lit_400, lit_900, lit_969, lit_1000, lit_1041, lit_1045, lit_1093, lit_1168, lit_1200, lit_3279, lit_3333, lit_4372, lit_9999, nI_10, if_false, if_true, nI_leE, k4, g, m_rm4, m_gm8, h8, m_ld1283, h3, e1, nI_add, m_pm8]
        exact k1
      · rw [if_neg c]
        rw [decide_eq_false (show ¬ (0 ≤ d ∧ d ≤ 3) from fun q => c q.2)] at g9
        have g : f_X8_isNext (z + 1278) (nI 48) (nI 51) (hp z X) = some (nI 0, hp z X) := by rw [g]; exact congrArg (fun b => some (bI b, hp z X)) g9
        refine ⟨X.1, ?_, KM8.rf h8, fun w h => by cases h⟩
        simp (disch := first | assumption | omega) only [f_X8_readSailing_66, f_X8_readSailing_66_body, m_rx0, m_rx1, m_rx2, m_rx3, m_rx4, m_ix, m_iO isB_3, m_iO isB_184, m_iO isB_365, m_iH, m_iX, m_iD, m_im, m_rm0, e_wi_t, e_wi_f, e_ro_t, e_ro_f, e8_wi_t, e8_wi_f, e8_ro_t, e8_ro_f, zbool_0, zbool_1, zb2_s, zif_t, zopt_n, zopt_s, b_s, znm_e, lit_0, lit_1, lit_2, lit_3, lit_4, lit_5, lit_6, lit_7, lit_8, lit_9, lit_10, lit_11, lit_12, lit_13, lit_17, lit_20, lit_23, lit_24, lit_43, lit_48, lit_51, lit_57, lit_58, lit_59, lit_60, lit_61, lit_63, lit_77, lit_100, lit_140, lit_168, lit_200, lit_393, lit_400, lit_900, lit_969, lit_1000, lit_1041, lit_1045, lit_1093, lit_1168, lit_1200, lit_3279, lit_3333, lit_4372, lit_9999, nI_10, if_false, if_true, nI_leE, k4, g]
        rfl
theorem zb_M {z : Nat} {X : pX} {f : Option (Int32 × zHp)} {r : Int32} {h' : zHp} {G : Int32 → zHp → Option (Int32 × zHp)} (h : f = some (r, h')) : zb2 (zif (zis (hp z X) (z + 1278) 8) f) G = G r h' := by rw [m_im, h]; rfl
theorem e8_rs {z : Nat} {X : pX} {T : List Int32} {p : Nat} (hT : TxM X.1 T) (h60 : T.length ≤ 60) (hpp : p ≤ T.length) (h8 : X.1 1278 8 = nI p) : ∃ V', f_X8_readSailing (z + 1278) (hp z X) = some (bI (rsT T p).1.isSome, hp z (V', X.2)) ∧ KM8 X.1 V' (rsT T p).2 ∧ ∀ f st h v, (rsT T p).1 = some (f, st, h, v) → V' 1284 0 = nI f ∧ V' 1284 1 = nI st ∧ V' 1284 2 = nI h ∧ V' 1284 3 = nI v := by
  unfold rsT
  obtain ⟨V1, a1, a2, y1⟩ := e8_num (z := z) (least := 0) (most := 5) (at' := 0) hT h60 (by omega) h8 (by omega) (by omega) (by omega)
  cases e1 : nu T 0 5 p with
  | none =>
    rw [e1] at a1 a2
    have a1 : f_X8_number (z + 1278) (nI 0) (nI 0) (nI 5) (hp z X) = some (nI 0, hp z (V1, X.2)) := a1
    have a2 : KM8 X.1 V1 p := a2
    refine ⟨V1, ?_, a2, fun f st h v e => by cases e⟩
    refine (zb_M a1).trans ?_
    refine (if_pos rfl).trans ?_
    exact zbool_0
  | some r1 =>
    obtain ⟨f, p1⟩ := r1
    have o1 := nu_ok e1
    have y1 := y1 _ e1
    rw [e1] at a1 a2
    have a1 : f_X8_number (z + 1278) (nI 0) (nI 0) (nI 5) (hp z X) = some (nI 1, hp z (V1, X.2)) := a1
    have a2 : KM8 X.1 V1 p1 := a2
    dsimp only
    obtain ⟨V2, b1, b2, y2⟩ := e8_sign (z := z) (X := (V1, X.2)) (a2.tx hT) h60 (p := p1) (by omega) a2.1 (nI 58)
    dsimp only at b1 y2
    by_cases c1 : T[p1]? = some (nI 58)
    · have l1 := getE_lt c1
      rw [if_pos c1] at b2
      rw [bI_t (decide_eq_true c1)] at b1
      rw [if_pos c1]
      have k2 := a2.tr b2
      obtain ⟨V3, a3, a4, y3⟩ := e8_num (z := z) (X := (V2, X.2)) (p := p1 + 1) (least := 0) (most := 900) (at' := 1) (k2.tx hT) h60 (by omega) k2.1 (by omega) (by omega) (by omega)
      dsimp only at a3 y3
      cases e2 : nu T 0 900 (p1 + 1) with
      | none =>
        rw [e2] at a3 a4
        have a3 : f_X8_number (z + 1278) (nI 1) (nI 0) (nI 900) (hp z (V2, X.2)) = some (nI 0, hp z (V3, X.2)) := a3
        have a4 : KM8 V2 V3 (p1 + 1) := a4
        refine ⟨V3, ?_, k2.tr a4, fun f st h v e => by cases e⟩
        refine (zb_M a1).trans ?_
        refine (if_neg n10).trans ?_
        refine (zb_M b1).trans ?_
        refine (if_neg n10).trans ?_
        refine (zb_M a3).trans ?_
        refine (if_pos rfl).trans ?_
        exact zbool_0
      | some r2 =>
        obtain ⟨st, p2⟩ := r2
        have o2 := nu_ok e2
        have y3 := y3 _ e2
        rw [e2] at a3 a4
        have a3 : f_X8_number (z + 1278) (nI 1) (nI 0) (nI 900) (hp z (V2, X.2)) = some (nI 1, hp z (V3, X.2)) := a3
        have a4 : KM8 V2 V3 p2 := a4
        have k3 := k2.tr a4
        dsimp only
        obtain ⟨V4, b3, b4, y4⟩ := e8_sign (z := z) (X := (V3, X.2)) (k3.tx hT) h60 (p := p2) (by omega) k3.1 (nI 43)
        dsimp only at b3 y4
        by_cases c2 : T[p2]? = some (nI 43)
        · have l2 := getE_lt c2
          rw [if_pos c2] at b4
          rw [bI_t (decide_eq_true c2)] at b3
          rw [if_pos c2]
          have k4 := k3.tr b4
          obtain ⟨V5, a5, a6, y5⟩ := e8_num (z := z) (X := (V4, X.2)) (p := p2 + 1) (least := 1) (most := 12) (at' := 2) (k4.tx hT) h60 (by omega) k4.1 (by omega) (by omega) (by omega)
          dsimp only at a5 y5
          cases e3 : nu T 1 12 (p2 + 1) with
          | none =>
            rw [e3] at a5 a6
            have a5 : f_X8_number (z + 1278) (nI 2) (nI 1) (nI 12) (hp z (V4, X.2)) = some (nI 0, hp z (V5, X.2)) := a5
            have a6 : KM8 V4 V5 (p2 + 1) := a6
            refine ⟨V5, ?_, k4.tr a6, fun f st h v e => by cases e⟩
            refine (zb_M a1).trans ?_
            refine (if_neg n10).trans ?_
            refine (zb_M b1).trans ?_
            refine (if_neg n10).trans ?_
            refine (zb_M a3).trans ?_
            refine (if_neg n10).trans ?_
            refine (zb_M b3).trans ?_
            refine (if_neg n10).trans ?_
            refine (zb_M a5).trans ?_
            refine (if_pos rfl).trans ?_
            exact zbool_0
          | some r3 =>
            obtain ⟨h, p3⟩ := r3
            have o3 := nu_ok e3
            have y5 := y5 _ e3
            rw [e3] at a5 a6
            have a5 : f_X8_number (z + 1278) (nI 2) (nI 1) (nI 12) (hp z (V4, X.2)) = some (nI 1, hp z (V5, X.2)) := a5
            have a6 : KM8 V4 V5 p3 := a6
            have k5 := k4.tr a6
            dsimp only
            obtain ⟨V6, b5, b6, y6⟩ := e8_sign (z := z) (X := (V5, X.2)) (k5.tx hT) h60 (p := p3) (by omega) k5.1 (nI 61)
            dsimp only at b5 y6
            by_cases c3 : T[p3]? = some (nI 61)
            · have l3 := getE_lt c3
              rw [if_pos c3] at b6
              rw [bI_t (decide_eq_true c3)] at b5
              rw [if_pos c3]
              have k6 := k5.tr b6
              obtain ⟨V7, a7, a8, y7⟩ := e8_seL (z := z) h60 4 zN 0 0 (p3 + 1) (V6, X.2) (k6.tx hT) k6.1 (by omega) (by omega) (by omega) (zN_lt (by omega))
              dsimp only at a7 y7
              have a8 := k6.tr a8
              cases e4 : seL T 4 0 (p3 + 1) with
              | mk o p4 =>
                rw [e4] at a7 a8 y7
                dsimp only at a7 a8 y7
                refine ⟨V7, ?_, ?_, ?_⟩
                · refine (zb_M a1).trans ?_
                  refine (if_neg n10).trans ?_
                  refine (zb_M b1).trans ?_
                  refine (if_neg n10).trans ?_
                  refine (zb_M a3).trans ?_
                  refine (if_neg n10).trans ?_
                  refine (zb_M b3).trans ?_
                  refine (if_neg n10).trans ?_
                  refine (zb_M a5).trans ?_
                  refine (if_neg n10).trans ?_
                  refine (zb_M b5).trans ?_
                  refine (if_neg n10).trans ?_
                  refine a7.trans ?_
                  cases o <;> rfl
                · cases o <;> exact a8
                · intro f' st' h' v' e
                  cases o with
                  | none => cases e
                  | some v =>
                    cases e
                    have y7 := y7 _ rfl
                    rw [y7, y6, y5, y4, y3, y2, y1]
                    exact ⟨by rw [pk_un (by omega), pk_un (by omega), pk_un (by omega), pk_us], by rw [pk_un (by omega), pk_un (by omega), pk_us], by rw [pk_un (by omega), pk_us], by rw [pk_us]⟩
            · rw [if_neg c3] at b6
              rw [bI_f (decide_eq_false c3)] at b5
              rw [if_neg c3]
              refine ⟨V6, ?_, k5.tr b6, fun f st h v e => by cases e⟩
              refine (zb_M a1).trans ?_
              refine (if_neg n10).trans ?_
              refine (zb_M b1).trans ?_
              refine (if_neg n10).trans ?_
              refine (zb_M a3).trans ?_
              refine (if_neg n10).trans ?_
              refine (zb_M b3).trans ?_
              refine (if_neg n10).trans ?_
              refine (zb_M a5).trans ?_
              refine (if_neg n10).trans ?_
              refine (zb_M b5).trans ?_
              refine (if_pos rfl).trans ?_
              exact zbool_0
        · rw [if_neg c2] at b4
          rw [bI_f (decide_eq_false c2)] at b3
          rw [if_neg c2]
          refine ⟨V4, ?_, k3.tr b4, fun f st h v e => by cases e⟩
          refine (zb_M a1).trans ?_
          refine (if_neg n10).trans ?_
          refine (zb_M b1).trans ?_
          refine (if_neg n10).trans ?_
          refine (zb_M a3).trans ?_
          refine (if_neg n10).trans ?_
          refine (zb_M b3).trans ?_
          refine (if_pos rfl).trans ?_
          exact zbool_0
    · rw [if_neg c1] at b2
      rw [bI_f (decide_eq_false c1)] at b1
      rw [if_neg c1]
      refine ⟨V2, ?_, a2.tr b2, fun f st h v e => by cases e⟩
      refine (zb_M a1).trans ?_
      refine (if_neg n10).trans ?_
      refine (zb_M b1).trans ?_
      refine (if_pos rfl).trans ?_
      exact zbool_0
