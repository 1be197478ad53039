/-! the text: one mathematical reader -/
def dgC (v : Int32) : Option Nat := if nI 48 ≤ v ∧ v ≤ nI 57 then some (v.toNatClampNeg - 48) else none
def dT (T : List Int32) (p : Nat) : Option Nat := match T[p]? with
  | none => none
  | some v => dgC v
theorem dgC_s {v : Int32} {d : Nat} (h : dgC v = some d) : v = nI (48 + d) ∧ d ≤ 9 := by
  unfold dgC at h
  by_cases c : nI 48 ≤ v ∧ v ≤ nI 57
  · rw [if_pos c] at h
    obtain ⟨w, w1, w2, rfl⟩ := wi_ex c (by omega) (by omega)
    rw [nI_clamp (by omega)] at h
    have h := Option.some.inj h
    exact ⟨by rw [← h]; congr 1; omega, by omega⟩
  · rw [if_neg c] at h; cases h
theorem dgC_n {v : Int32} (h : dgC v = none) : ¬ (nI 48 ≤ v ∧ v ≤ nI 57) := fun c => by
  unfold dgC at h
  rw [if_pos c] at h
  cases h
theorem dT_s {T : List Int32} {p d : Nat} (h : dT T p = some d) : p < T.length ∧ T[p]? = some (nI (48 + d)) ∧ d ≤ 9 := by
  unfold dT at h
  cases e : T[p]? with
  | none => rw [e] at h; cases h
  | some v =>
    rw [e] at h
    have g := dgC_s h
    exact ⟨getE_lt e, by rw [g.1], g.2⟩
theorem sub48 {v : Int32} : (nI 0 ≤ v - nI 48 ∧ v - nI 48 ≤ nI 9) ↔ (nI 48 ≤ v ∧ v ≤ nI 57) := by
  constructor
  · intro h
    obtain ⟨d, _, d9, e⟩ := wi_ex h (by omega) (by omega)
    have e2 : v = nI (d + 48) := by rw [← nI_add, ← e, Int32.sub_add_cancel]
    rw [e2]
    exact wi_n (by omega) (by omega) (by omega)
  · intro h
    obtain ⟨w, w1, w2, rfl⟩ := wi_ex h (by omega) (by omega)
    rw [nI_sub w1]
    exact wi_n (by omega) (by omega) (by omega)
def nuL (T : List Int32) (most : Nat) : Nat → Nat → Nat → Nat × Nat
  | 0, v, p => (v, p)
  | n + 1, v, p => match dT T p with
    | none => (v, p)
    | some d => if v = 0 ∨ most < 10 * v + d then (v, p) else nuL T most n (10 * v + d) (p + 1)
def nu (T : List Int32) (least most p : Nat) : Option (Nat × Nat) := match dT T p with
  | none => none
  | some d => if least ≤ d ∧ d ≤ most then some (nuL T most (T.length - (p + 1)) d (p + 1)) else none
def seL (T : List Int32) : Nat → Nat → Nat → Option Nat × Nat
  | 0, v, p => (some v, p)
  | n + 1, v, p => match dT T p with
    | none => (none, p)
    | some d => if d ≤ 3 then seL T n (10 * v + d) (p + 1) else (none, p)
def rsT (T : List Int32) (p : Nat) : Option (Nat × Nat × Nat × Nat) × Nat := match nu T 0 5 p with
  | none => (none, p)
  | some (f, p1) => if T[p1]? = some (nI 58) then (match nu T 0 900 (p1 + 1) with
      | none => (none, p1 + 1)
      | some (st, p2) => if T[p2]? = some (nI 43) then (match nu T 1 12 (p2 + 1) with
          | none => (none, p2 + 1)
          | some (h, p3) => if T[p3]? = some (nI 61) then (match seL T 4 0 (p3 + 1) with
              | (none, p4) => (none, p4)
              | (some v, p4) => (some (f, st, h, v), p4)) else (none, p3)) else (none, p2)) else (none, p1)
theorem nuL_ok {T : List Int32} {most : Nat} : ∀ (n v p : Nat), v ≤ most → p ≤ T.length → (nuL T most n v p).1 ≤ most ∧ v ≤ (nuL T most n v p).1 ∧ p ≤ (nuL T most n v p).2 ∧ (nuL T most n v p).2 ≤ T.length
  | 0, v, p, h, h2 => ⟨h, Nat.le_refl _, Nat.le_refl _, h2⟩
  | n + 1, v, p, h, h2 => by
    unfold nuL
    cases e : dT T p with
    | none => exact ⟨h, Nat.le_refl _, Nat.le_refl _, h2⟩
    | some d =>
      dsimp only
      by_cases c : v = 0 ∨ most < 10 * v + d
      · rw [if_pos c]; exact ⟨h, Nat.le_refl _, Nat.le_refl _, h2⟩
      · rw [if_neg c]
        have g := dT_s e
        have i := nuL_ok (T := T) (most := most) n (10 * v + d) (p + 1) (by omega) (by omega)
        exact ⟨i.1, by omega, by omega, i.2.2.2⟩
theorem nu_ok {T : List Int32} {least most p v p1 : Nat} (h : nu T least most p = some (v, p1)) : least ≤ v ∧ v ≤ most ∧ p + 1 ≤ p1 ∧ p1 ≤ T.length := by
  unfold nu at h
  cases e : dT T p with
  | none => rw [e] at h; cases h
  | some d =>
    rw [e] at h
    dsimp only at h
    by_cases c : least ≤ d ∧ d ≤ most
    · rw [if_pos c] at h
      have g := dT_s e
      have i := nuL_ok (T := T) (most := most) (T.length - (p + 1)) d (p + 1) c.2 (by omega)
      have h := Option.some.inj h
      rw [h] at i
      exact ⟨by have := i.2.1; dsimp only at this; omega, i.1, i.2.2.1, i.2.2.2⟩
    · rw [if_neg c] at h; cases h
theorem seL_ok {T : List Int32} : ∀ (n v p : Nat), p ≤ T.length → (seL T n v p).2 ≤ T.length ∧ p ≤ (seL T n v p).2 ∧ ∀ w, (seL T n v p).1 = some w → (seL T n v p).2 = p + n ∧ w < (v + 1) * 10 ^ n
  | 0, v, p, h => ⟨h, Nat.le_refl _, fun w e => by
      have e := Option.some.inj e
      have e : v = w := e
      exact ⟨rfl, by rw [Nat.pow_zero]; omega⟩⟩
  | n + 1, v, p, h => by
    unfold seL
    cases e : dT T p with
    | none => exact ⟨h, Nat.le_refl _, fun w e => by cases e⟩
    | some d =>
      dsimp only
      by_cases c : d ≤ 3
      · rw [if_pos c]
        have g := dT_s e
        obtain ⟨i1, i2, i3⟩ := seL_ok (T := T) n (10 * v + d) (p + 1) (by omega)
        refine ⟨i1, by omega, fun w ew => ?_⟩
        obtain ⟨j1, j2⟩ := i3 w ew
        refine ⟨by omega, ?_⟩
        have : (10 * v + d + 1) * 10 ^ n ≤ (v + 1) * 10 ^ (n + 1) := by
          rw [Nat.pow_succ, ← Nat.mul_assoc, Nat.mul_right_comm]
          exact Nat.mul_le_mul_right _ (by omega)
        omega
      · rw [if_neg c]; exact ⟨h, Nat.le_refl _, fun w e => by cases e⟩
theorem seL_v {T : List Int32} {p w : Nat} (hpp : p ≤ T.length) (h : (seL T 4 0 p).1 = some w) : w < 10000 := by
  have := ((seL_ok (T := T) 4 0 p hpp).2.2 w h).2
  omega
/-- where a sailing of the text ends -/
theorem rsT_ok {T : List Int32} {p : Nat} (hpp : p ≤ T.length) : (rsT T p).2 ≤ T.length ∧ p ≤ (rsT T p).2 ∧ ∀ f st h v, (rsT T p).1 = some (f, st, h, v) → p + 10 ≤ (rsT T p).2 ∧ f ≤ 5 ∧ st ≤ 900 ∧ h ≤ 12 ∧ v < 10000 := by
  unfold rsT
  cases e1 : nu T 0 5 p with
  | none => exact ⟨hpp, Nat.le_refl _, fun f st h v e => by cases e⟩
  | some r1 =>
    obtain ⟨f, p1⟩ := r1
    have g1 := nu_ok e1
    dsimp only
    by_cases c1 : T[p1]? = some (nI 58)
    · rw [if_pos c1]
      have l1 := getE_lt c1
      cases e2 : nu T 0 900 (p1 + 1) with
      | none => exact ⟨by dsimp only; omega, by dsimp only; omega, fun f st h v e => by cases e⟩
      | some r2 =>
        obtain ⟨st, p2⟩ := r2
        have g2 := nu_ok e2
        dsimp only
        by_cases c2 : T[p2]? = some (nI 43)
        · rw [if_pos c2]
          have l2 := getE_lt c2
          cases e3 : nu T 1 12 (p2 + 1) with
          | none => exact ⟨by dsimp only; omega, by dsimp only; omega, fun f st h v e => by cases e⟩
          | some r3 =>
            obtain ⟨h, p3⟩ := r3
            have g3 := nu_ok e3
            dsimp only
            by_cases c3 : T[p3]? = some (nI 61)
            · rw [if_pos c3]
              have l3 := getE_lt c3
              obtain ⟨i1, i2, i3⟩ := seL_ok (T := T) 4 0 (p3 + 1) (by omega)
              have i4 := fun w h => seL_v (T := T) (p := p3 + 1) (w := w) (by omega) h
              cases e4 : seL T 4 0 (p3 + 1) with
              | mk o p4 =>
                rw [e4] at i1 i2 i3 i4
                dsimp only at i1 i2 i3 i4
                cases o with
                | none => exact ⟨by dsimp only; omega, by dsimp only; omega, fun f st h v e => by cases e⟩
                | some v =>
                  have j := i3 v rfl
                  have j4 := i4 v rfl
                  dsimp only
                  refine ⟨by omega, by omega, fun f' st' h' v' e => ?_⟩
                  cases e
                  exact ⟨by omega, by omega, by omega, by omega, j4⟩
            · rw [if_neg c3]; exact ⟨by dsimp only; omega, by dsimp only; omega, fun f st h v e => by cases e⟩
        · rw [if_neg c2]; exact ⟨by dsimp only; omega, by dsimp only; omega, fun f st h v e => by cases e⟩
    · rw [if_neg c1]; exact ⟨by dsimp only; omega, by dsimp only; omega, fun f st h v e => by cases e⟩
/-! the class reads -/
def KX (V V' : pV) (p : Nat) : Prop := V' 1272 2 = nI p ∧ (∀ i, i ≠ 2 → V' 1272 i = V 1272 i) ∧ ∀ o, o ≠ 1272 → V' o = V o
theorem KX.rf {V : pV} {p : Nat} (h : V 1272 2 = nI p) : KX V V p := ⟨h, fun _ _ => rfl, fun _ _ => rfl⟩
theorem KX.tr {V V1 V2 : pV} {p q : Nat} (h : KX V V1 p) (g : KX V1 V2 q) : KX V V2 q := ⟨g.1, fun i hi => (g.2.1 i hi).trans (h.2.1 i hi), fun o ho => (g.2.2 o ho).trans (h.2.2 o ho)⟩
theorem KX.up {V : pV} {p : Nat} : KX V (sV V 1272 (upd (V 1272) 2 (nI p))) p := ⟨by rw [sV_s, pk_us], fun i hi => by rw [sV_s, pk_un hi], fun o ho => sV_n ho⟩
theorem KX.tx {V V' : pV} {p : Nat} {T : List Int32} (h : KX V V' p) (g : TxC V T) : TxC V' T := g.mv (h.2.1 1 (by omega)) (h.2.2 1273 (by omega))
def dI (o : Option Nat) : Int32 := match o with
  | none => -nI 1
  | some d => nI d
theorem n_m1 {d : Nat} (h : d < 2 ^ 31) : (nI d = -nI 1) = False := eq_false (neg_ne (by omega) (by omega) h)
theorem m1_m1 : (-nI 1 = -nI 1) = True := eq_true rfl
theorem e6_next {z : Nat} {X : pX} {T : List Int32} {p : Nat} (hT : TxC X.1 T) (h60 : T.length ≤ 60) (hpp : p ≤ 60) (h2 : X.1 1272 2 = nI p) : f_X6_nextDigit (z + 1272) (hp z X) = some (dI (dT T p), hp z X) := by
  have h1 := hT.1
  have n0 : (nI p < nI 0) = False := eq_false (nI_b (by omega))
  by_cases c : T.length ≤ p
  · have e : dT T p = none := by unfold dT; rw [List.getElem?_eq_none c]
    have cT : (T.length ≤ p) = True := eq_true c
    rw [e]
    simp (disch := first | assumption | omega) only [f_X6_nextDigit, m_rx0, m_rx1, m_rx2, m_rx3, m_rx4, m_ix, m_iO isB_3, m_iO isB_184, m_iO isB_365, m_iH, m_iX, m_iD, m_im, m_rm0, e_wi_t, e_wi_f, e_ro_t, e_ro_f, e8_wi_t, e8_wi_f, e8_ro_t, e8_ro_f, zbool_0, zbool_1, zb2_s, zif_t, zopt_n, zopt_s, b_s, znm_e, lit_0, lit_1, lit_2, lit_3, lit_4, lit_5, lit_6, lit_7, lit_8, lit_9, lit_10, lit_11, lit_12, lit_13, lit_17, lit_20, lit_23, lit_24, lit_43, lit_48, lit_51, lit_57, lit_58, lit_59, lit_60, lit_61, lit_63, lit_77, lit_100, lit_140, lit_168, lit_200, lit_393, lit_400, lit_900, lit_969, lit_1000, lit_1041, lit_1045, lit_1093, lit_1168, lit_1200, lit_3279, lit_3333, lit_4372, lit_9999, nI_10, if_false, if_true, m_gX1, m_gX2, h1, h2, n0, nI_leE, cT]
    rfl
  · have cT : (T.length ≤ p) = False := eq_false c
    have c6 : (p < 60) = True := eq_true (by omega)
    obtain ⟨v, hv⟩ : ∃ v, T[p]? = some v := ⟨T[p], List.getElem?_eq_getElem (by omega)⟩
    have h3 := hT.2 p v hv
    cases e : dgC v with
    | none =>
      have e2 : dT T p = none := by unfold dT; rw [hv]; exact e
      have w : ¬ (nI 0 ≤ v - nI 48 ∧ v - nI 48 ≤ nI 9) := fun q => dgC_n e (sub48.mp q)
      rw [e2]
      simp (disch := first | assumption | omega) only [f_X6_nextDigit, m_rx0, m_rx1, m_rx2, m_rx3, m_rx4, m_ix, m_iO isB_3, m_iO isB_184, m_iO isB_365, m_iH, m_iX, m_iD, m_im, m_rm0, e_wi_t, e_wi_f, e_ro_t, e_ro_f, e8_wi_t, e8_wi_f, e8_ro_t, e8_ro_f, zbool_0, zbool_1, zb2_s, zif_t, zopt_n, zopt_s, b_s, znm_e, lit_0, lit_1, lit_2, lit_3, lit_4, lit_5, lit_6, lit_7, lit_8, lit_9, lit_10, lit_11, lit_12, lit_13, lit_17, lit_20, lit_23, lit_24, lit_43, lit_48, lit_51, lit_57, lit_58, lit_59, lit_60, lit_61, lit_63, lit_77, lit_100, lit_140, lit_168, lit_200, lit_393, lit_400, lit_900, lit_969, lit_1000, lit_1041, lit_1045, lit_1093, lit_1168, lit_1200, lit_3279, lit_3333, lit_4372, lit_9999, nI_10, if_false, if_true, m_gX1, m_gX2, m_rX0, m_ld1273, h1, h2, h3, n0, nI_leE, nI_ltE, cT, c6]
      rfl
    | some d =>
      have e2 : dT T p = some d := by unfold dT; rw [hv]; exact e
      have g := dgC_s e
      have e3 : v - nI 48 = nI d := by rw [g.1, nI_sub (by omega)]; congr 1; omega
      have w : nI 0 ≤ nI d ∧ nI d ≤ nI 9 := wi_n (by omega) g.2 (by omega)
      rw [e2]
      simp (disch := first | assumption | omega) only [f_X6_nextDigit, m_rx0, m_rx1, m_rx2, m_rx3, m_rx4, m_ix, m_iO isB_3, m_iO isB_184, m_iO isB_365, m_iH, m_iX, m_iD, m_im, m_rm0, e_wi_t, e_wi_f, e_ro_t, e_ro_f, e8_wi_t, e8_wi_f, e8_ro_t, e8_ro_f, zbool_0, zbool_1, zb2_s, zif_t, zopt_n, zopt_s, b_s, znm_e, lit_0, lit_1, lit_2, lit_3, lit_4, lit_5, lit_6, lit_7, lit_8, lit_9, lit_10, lit_11, lit_12, lit_13, lit_17, lit_20, lit_23, lit_24, lit_43, lit_48, lit_51, lit_57, lit_58, lit_59, lit_60, lit_61, lit_63, lit_77, lit_100, lit_140, lit_168, lit_200, lit_393, lit_400, lit_900, lit_969, lit_1000, lit_1041, lit_1045, lit_1093, lit_1168, lit_1200, lit_3279, lit_3333, lit_4372, lit_9999, nI_10, if_false, if_true, m_gX1, m_gX2, m_rX0, m_ld1273, h1, h2, h3, n0, nI_leE, nI_ltE, cT, c6, e3]
      rfl
theorem e6_numL {z : Nat} {T : List Int32} (h60 : T.length ≤ 60) {most : Nat} (hm : most < 10000) : ∀ (n fuel v p : Nat) (X : pX), TxC X.1 T → X.1 1272 2 = nI p → p + n = T.length → v ≤ most → n < fuel → ∃ V', f_X6_readNumber_31 fuel (z + 1272) (nI most) (nI v) (hp z X) = some (nI (nuL T most n v p).1, hp z (V', X.2)) ∧ KX X.1 V' (nuL T most n v p).2 := by
  intro n
  induction n with
  | zero =>
    intro fuel v p X hT h2 hpp hv hf
    obtain ⟨fuel, rfl⟩ : ∃ f, fuel = f + 1 := ⟨fuel - 1, by omega⟩
    have h1 := hT.1
    have cT : (T.length ≤ p) = True := eq_true (by omega)
    refine ⟨X.1, ?_, KX.rf h2⟩
    simp (disch := first | assumption | omega) only [f_X6_readNumber_31, f_X6_readNumber_31_body, m_rx0, m_rx1, m_rx2, m_rx3, m_rx4, m_ix, m_iO isB_3, m_iO isB_184, m_iO isB_365, m_iH, m_iX, m_iD, m_im, m_rm0, e_wi_t, e_wi_f, e_ro_t, e_ro_f, e8_wi_t, e8_wi_f, e8_ro_t, e8_ro_f, zbool_0, zbool_1, zb2_s, zif_t, zopt_n, zopt_s, b_s, znm_e, lit_0, lit_1, lit_2, lit_3, lit_4, lit_5, lit_6, lit_7, lit_8, lit_9, lit_10, lit_11, lit_12, lit_13, lit_17, lit_20, lit_23, lit_24, lit_43, lit_48, lit_51, lit_57, lit_58, lit_59, lit_60, lit_61, lit_63, lit_77, lit_100, lit_140, lit_168, lit_200, lit_393, lit_400, lit_900, lit_969, lit_1000, lit_1041, lit_1045, lit_1093, lit_1168, lit_1200, lit_3279, lit_3333, lit_4372, lit_9999, nI_10, if_false, if_true, m_gX1, m_gX2, h1, h2, nI_leE, cT]
    rfl
  | succ n ih =>
    intro fuel v p X hT h2 hpp hv hf
    obtain ⟨fuel, rfl⟩ : ∃ f, fuel = f + 1 := ⟨fuel - 1, by omega⟩
    have h1 := hT.1
    have cT : (T.length ≤ p) = False := eq_false (by omega)
    have g := e6_next (z := z) hT h60 (by omega) h2
    unfold nuL
    cases e : dT T p with
    | none =>
      rw [e] at g
      have g : f_X6_nextDigit (z + 1272) (hp z X) = some (-nI 1, hp z X) := g
      refine ⟨X.1, ?_, KX.rf h2⟩
      simp (disch := first | assumption | omega) only [f_X6_readNumber_31, f_X6_readNumber_31_body, m_rx0, m_rx1, m_rx2, m_rx3, m_rx4, m_ix, m_iO isB_3, m_iO isB_184, m_iO isB_365, m_iH, m_iX, m_iD, m_im, m_rm0, e_wi_t, e_wi_f, e_ro_t, e_ro_f, e8_wi_t, e8_wi_f, e8_ro_t, e8_ro_f, zbool_0, zbool_1, zb2_s, zif_t, zopt_n, zopt_s, b_s, znm_e, lit_0, lit_1, lit_2, lit_3, lit_4, lit_5, lit_6, lit_7, lit_8, lit_9, lit_10, lit_11, lit_12, lit_13, lit_17, lit_20, lit_23, lit_24, lit_43, lit_48, lit_51, lit_57, lit_58, lit_59, lit_60, lit_61, lit_63, lit_77, lit_100, lit_140, lit_168, lit_200, lit_393, lit_400, lit_900, lit_969, lit_1000, lit_1041, lit_1045, lit_1093, lit_1168, lit_1200, lit_3279, lit_3333, lit_4372, lit_9999, nI_10, if_false, if_true, m_gX1, m_gX2, h1, h2, nI_leE, cT, g, m1_m1]
    | some d =>
      rw [e] at g
      have g : f_X6_nextDigit (z + 1272) (hp z X) = some (nI d, hp z X) := g
      have d9 := (dT_s e).2.2
      have nm := n_m1 (d := d) (by omega)
      dsimp only
      by_cases c : v = 0
      · rw [if_pos (Or.inl c)]
        have c0 : (nI v = nI 0) = True := eq_true (by rw [c])
        refine ⟨X.1, ?_, KX.rf h2⟩
        simp (disch := first | assumption | omega) only [f_X6_readNumber_31, f_X6_readNumber_31_body, m_rx0, m_rx1, m_rx2, m_rx3, m_rx4, m_ix, m_iO isB_3, m_iO isB_184, m_iO isB_365, m_iH, m_iX, m_iD, m_im, m_rm0, e_wi_t, e_wi_f, e_ro_t, e_ro_f, e8_wi_t, e8_wi_f, e8_ro_t, e8_ro_f, zbool_0, zbool_1, zb2_s, zif_t, zopt_n, zopt_s, b_s, znm_e, lit_0, lit_1, lit_2, lit_3, lit_4, lit_5, lit_6, lit_7, lit_8, lit_9, lit_10, lit_11, lit_12, lit_13, lit_17, lit_20, lit_23, lit_24, lit_43, lit_48, lit_51, lit_57, lit_58, lit_59, lit_60, lit_61, lit_63, lit_77, lit_100, lit_140, lit_168, lit_200, lit_393, lit_400, lit_900, lit_969, lit_1000, lit_1041, lit_1045, lit_1093, lit_1168, lit_1200, lit_3279, lit_3333, lit_4372, lit_9999, nI_10, if_false, if_true, m_gX1, m_gX2, h1, h2, nI_leE, cT, g, nm, c0]
      · have c0 := ne_eqF c (by omega) (by omega)
        by_cases c2 : most < 10 * v + d
        · rw [if_pos (Or.inr c2)]
          have c3 : (v * 10 + d ≤ most) = False := eq_false (by omega)
          refine ⟨X.1, ?_, KX.rf h2⟩
          simp (disch := first | assumption | omega) only [f_X6_readNumber_31, f_X6_readNumber_31_body, m_rx0, m_rx1, m_rx2, m_rx3, m_rx4, m_ix, m_iO isB_3, m_iO isB_184, m_iO isB_365, m_iH, m_iX, m_iD, m_im, m_rm0, e_wi_t, e_wi_f, e_ro_t, e_ro_f, e8_wi_t, e8_wi_f, e8_ro_t, e8_ro_f, zbool_0, zbool_1, zb2_s, zif_t, zopt_n, zopt_s, b_s, znm_e, lit_0, lit_1, lit_2, lit_3, lit_4, lit_5, lit_6, lit_7, lit_8, lit_9, lit_10, lit_11, lit_12, lit_13, lit_17, lit_20, lit_23, lit_24, lit_43, lit_48, lit_51, lit_57, lit_58, lit_59, lit_60, lit_61, lit_63, lit_77, lit_100, lit_140, lit_168, lit_200, lit_393, lit_400, lit_900, lit_969, lit_1000, lit_1041, lit_1045, lit_1093, lit_1168, lit_1200, lit_3279, lit_3333, lit_4372, lit_9999, nI_10, if_false, if_true, m_gX1, m_gX2, h1, h2, nI_leE, cT, g, nm, c0, nI_add, nI_mul, c3]
        · rw [if_neg (by omega)]
          have c3 : (10 * v + d ≤ most) = True := eq_true (by omega)
          have kx : KX X.1 (sV X.1 1272 (upd (X.1 1272) 2 (nI (p + 1)))) (p + 1) := KX.up
          obtain ⟨V', k1, k2⟩ := ih fuel (v * 10 + d) (p + 1) (sV X.1 1272 (upd (X.1 1272) 2 (nI (p + 1))), X.2) (kx.tx hT) kx.1 (by omega) (by omega) (by omega)
          rw [Nat.mul_comm v 10] at k1 k2
          refine ⟨V', ?_, kx.tr k2⟩
          simp (disch := first | assumption | omega) only [f_X6_readNumber_31, f_X6_readNumber_31_body, m_rx0, m_rx1, m_rx2, m_rx3, m_rx4, m_ix, m_iO isB_3, m_iO isB_184, m_iO isB_365, m_iH, m_iX, m_iD, m_im, m_rm0, e_wi_t, e_wi_f, e_ro_t, e_ro_f, e8_wi_t, e8_wi_f, e8_ro_t, e8_ro_f, zbool_0, zbool_1, zb2_s, zif_t, zopt_n, zopt_s, b_s, znm_e, lit_0, lit_1, lit_2, lit_3, lit_4, lit_5, lit_6, lit_7, lit_8, lit_9, lit_10, lit_11, lit_12, lit_13, lit_17, lit_20, lit_23, lit_24, lit_43, lit_48, lit_51, lit_57, lit_58, lit_59, lit_60, lit_61, lit_63, lit_77, lit_100, lit_140, lit_168, lit_200, lit_393, lit_400, lit_900, lit_969, lit_1000, lit_1041, lit_1045, lit_1093, lit_1168, lit_1200, lit_3279, lit_3333, lit_4372, lit_9999, nI_10, if_false, if_true, m_gX1, m_gX2, m_pX2, h1, h2, nI_leE, cT, g, nm, c0, nI_add, nI_mul, c3, Nat.mul_comm v 10, k1]
def nI1 (o : Option (Nat × Nat)) : Int32 := match o with
  | none => -nI 1
  | some r => nI r.1
def nP (o : Option (Nat × Nat)) (p : Nat) : Nat := match o with
  | none => p
  | some r => r.2
theorem e6_num {z : Nat} {X : pX} {T : List Int32} {p least most : Nat} (hT : TxC X.1 T) (h60 : T.length ≤ 60) (hpp : p ≤ 60) (h2 : X.1 1272 2 = nI p) (hl : least < 10000) (hm : most < 10000) : ∃ V', f_X6_readNumber (z + 1272) (nI least) (nI most) (hp z X) = some (nI1 (nu T least most p), hp z (V', X.2)) ∧ KX X.1 V' (nP (nu T least most p) p) := by
  have g := e6_next (z := z) hT h60 hpp h2
  unfold nu
  cases e : dT T p with
  | none =>
    rw [e] at g
    have g : f_X6_nextDigit (z + 1272) (hp z X) = some (-nI 1, hp z X) := g
    refine ⟨X.1, ?_, KX.rf h2⟩
    simp (disch := first | assumption | omega) only [f_X6_readNumber, m_rx0, m_rx1, m_rx2, m_rx3, m_rx4, m_ix, m_iO isB_3, m_iO isB_184, m_iO isB_365, m_iH, m_iX, m_iD, m_im, m_rm0, e_wi_t, e_wi_f, e_ro_t, e_ro_f, e8_wi_t, e8_wi_f, e8_ro_t, e8_ro_f, zbool_0, zbool_1, zb2_s, zif_t, zopt_n, zopt_s, b_s, znm_e, lit_0, lit_1, lit_2, lit_3, lit_4, lit_5, lit_6, lit_7, lit_8, lit_9, lit_10, lit_11, lit_12, lit_13, lit_17, lit_20, lit_23, lit_24, lit_43, lit_48, lit_51, lit_57, lit_58, lit_59, lit_60, lit_61, lit_63, lit_77, lit_100, lit_140, lit_168, lit_200, lit_393, lit_400, lit_900, lit_969, lit_1000, lit_1041, lit_1045, lit_1093, lit_1168, lit_1200, lit_3279, lit_3333, lit_4372, lit_9999, nI_10, if_false, if_true, g, m1_m1]
    rfl
  | some d =>
    rw [e] at g
    have g : f_X6_nextDigit (z + 1272) (hp z X) = some (nI d, hp z X) := g
    have d9 := dT_s e
    have nm := n_m1 (d := d) (by omega)
    dsimp only
    by_cases c : least ≤ d ∧ d ≤ most
    · rw [if_pos c]
      have w : nI least ≤ nI d ∧ nI d ≤ nI most := wi_n c.1 c.2 (by omega)
      have kx : KX X.1 (sV X.1 1272 (upd (X.1 1272) 2 (nI (p + 1)))) (p + 1) := KX.up
      obtain ⟨V', k1, k2⟩ := e6_numL (z := z) h60 hm (T.length - (p + 1)) zN d (p + 1) (sV X.1 1272 (upd (X.1 1272) 2 (nI (p + 1))), X.2) (kx.tx hT) kx.1 (by omega) c.2 (zN_lt (by omega))
      refine ⟨V', ?_, kx.tr k2⟩
      simp (disch := first | assumption | omega) only [f_X6_readNumber, m_rx0, m_rx1, m_rx2, m_rx3, m_rx4, m_ix, m_iO isB_3, m_iO isB_184, m_iO isB_365, m_iH, m_iX, m_iD, m_im, m_rm0, e_wi_t, e_wi_f, e_ro_t, e_ro_f, e8_wi_t, e8_wi_f, e8_ro_t, e8_ro_f, zbool_0, zbool_1, zb2_s, zif_t, zopt_n, zopt_s, b_s, znm_e, lit_0, lit_1, lit_2, lit_3, lit_4, lit_5, lit_6, lit_7, lit_8, lit_9, lit_10, lit_11, lit_12, lit_13, lit_17, lit_20, lit_23, lit_24, lit_43, lit_48, lit_51, lit_57, lit_58, lit_59, lit_60, lit_61, lit_63, lit_77, lit_100, lit_140, lit_168, lit_200, lit_393, lit_400, lit_900, lit_969, lit_1000, lit_1041, lit_1045, lit_1093, lit_1168, lit_1200, lit_3279, lit_3333, lit_4372, lit_9999, nI_10, if_false, if_true, g, nm, m_gX2, h2, nI_add, m_pX2, k1]
      rfl
    · rw [if_neg c]
      have w : ¬ (nI least ≤ nI d ∧ nI d ≤ nI most) := wi_x (by omega) (by omega) (by omega) (by omega)
      refine ⟨X.1, ?_, KX.rf h2⟩
      simp (disch := first | assumption | omega) only [f_X6_readNumber, m_rx0, m_rx1, m_rx2, m_rx3, m_rx4, m_ix, m_iO isB_3, m_iO isB_184, m_iO isB_365, m_iH, m_iX, m_iD, m_im, m_rm0, e_wi_t, e_wi_f, e_ro_t, e_ro_f, e8_wi_t, e8_wi_f, e8_ro_t, e8_ro_f, zbool_0, zbool_1, zb2_s, zif_t, zopt_n, zopt_s, b_s, znm_e, lit_0, lit_1, lit_2, lit_3, lit_4, lit_5, lit_6, lit_7, lit_8, lit_9, lit_10, lit_11, lit_12, lit_13, lit_17, lit_20, lit_23, lit_24, lit_43, lit_48, lit_51, lit_57, lit_58, lit_59, lit_60, lit_61, lit_63, lit_77, lit_100, lit_140, lit_168, lit_200, lit_393, lit_400, lit_900, lit_969, lit_1000, lit_1041, lit_1045, lit_1093, lit_1168, lit_1200, lit_3279, lit_3333, lit_4372, lit_9999, nI_10, if_false, if_true, g, nm]
      rfl
theorem e6_acc {z : Nat} {X : pX} {T : List Int32} {p : Nat} (hT : TxC X.1 T) (h60 : T.length ≤ 60) (hpp : p ≤ 60) (h2 : X.1 1272 2 = nI p) (c : Int32) : ∃ V', f_X6_accept (z + 1272) c (hp z X) = some (bI (decide (T[p]? = some c)), hp z (V', X.2)) ∧ KX X.1 V' (if T[p]? = some c then p + 1 else p) := by
  have h1 := hT.1
  have n0 : (nI p < nI 0) = False := eq_false (nI_b (by omega))
  by_cases d : T.length ≤ p
  · have cT : (T.length ≤ p) = True := eq_true d
    have e : T[p]? = none := List.getElem?_eq_none d
    have e2 : ¬ (T[p]? = some c) := by rw [e]; intro h; cases h
    rw [if_neg e2, bI_f (decide_eq_false e2)]
    refine ⟨X.1, ?_, KX.rf h2⟩
    simp (disch := first | assumption | omega) only [f_X6_accept, m_rx0, m_rx1, m_rx2, m_rx3, m_rx4, m_ix, m_iO isB_3, m_iO isB_184, m_iO isB_365, m_iH, m_iX, m_iD, m_im, m_rm0, e_wi_t, e_wi_f, e_ro_t, e_ro_f, e8_wi_t, e8_wi_f, e8_ro_t, e8_ro_f, zbool_0, zbool_1, zb2_s, zif_t, zopt_n, zopt_s, b_s, znm_e, lit_0, lit_1, lit_2, lit_3, lit_4, lit_5, lit_6, lit_7, lit_8, lit_9, lit_10, lit_11, lit_12, lit_13, lit_17, lit_20, lit_23, lit_24, lit_43, lit_48, lit_51, lit_57, lit_58, lit_59, lit_60, lit_61, lit_63, lit_77, lit_100, lit_140, lit_168, lit_200, lit_393, lit_400, lit_900, lit_969, lit_1000, lit_1041, lit_1045, lit_1093, lit_1168, lit_1200, lit_3279, lit_3333, lit_4372, lit_9999, nI_10, if_false, if_true, m_gX1, m_gX2, h1, h2, n0, nI_leE, cT]
  · have cT : (T.length ≤ p) = False := eq_false d
    have c6 : (60 ≤ p) = False := eq_false (by omega)
    obtain ⟨v, hv⟩ : ∃ v, T[p]? = some v := ⟨T[p], List.getElem?_eq_getElem (by omega)⟩
    have h3 := hT.2 p v hv
    by_cases q : v = c
    · have e2 : T[p]? = some c := by rw [hv, q]
      have qT : (v = c) = True := eq_true q
      rw [if_pos e2, bI_t (decide_eq_true e2)]
      refine ⟨_, ?_, KX.up⟩
      simp (disch := first | assumption | omega) only [f_X6_accept, m_rx0, m_rx1, m_rx2, m_rx3, m_rx4, m_ix, m_iO isB_3, m_iO isB_184, m_iO isB_365, m_iH, m_iX, m_iD, m_im, m_rm0, e_wi_t, e_wi_f, e_ro_t, e_ro_f, e8_wi_t, e8_wi_f, e8_ro_t, e8_ro_f, zbool_0, zbool_1, zb2_s, zif_t, zopt_n, zopt_s, b_s, znm_e, lit_0, lit_1, lit_2, lit_3, lit_4, lit_5, lit_6, lit_7, lit_8, lit_9, lit_10, lit_11, lit_12, lit_13, lit_17, lit_20, lit_23, lit_24, lit_43, lit_48, lit_51, lit_57, lit_58, lit_59, lit_60, lit_61, lit_63, lit_77, lit_100, lit_140, lit_168, lit_200, lit_393, lit_400, lit_900, lit_969, lit_1000, lit_1041, lit_1045, lit_1093, lit_1168, lit_1200, lit_3279, lit_3333, lit_4372, lit_9999, nI_10, if_false, if_true, m_gX1, m_gX2, m_rX0, m_ld1273, h1, h2, h3, n0, nI_leE, cT, c6, qT, m_pX2, nI_add]
    · have e2 : ¬ (T[p]? = some c) := by rw [hv]; intro h; exact q (Option.some.inj h)
      have qT : (v = c) = False := eq_false q
      rw [if_neg e2, bI_f (decide_eq_false e2)]
      refine ⟨X.1, ?_, KX.rf h2⟩
      simp (disch := first | assumption | omega) only [f_X6_accept, m_rx0, m_rx1, m_rx2, m_rx3, m_rx4, m_ix, m_iO isB_3, m_iO isB_184, m_iO isB_365, m_iH, m_iX, m_iD, m_im, m_rm0, e_wi_t, e_wi_f, e_ro_t, e_ro_f, e8_wi_t, e8_wi_f, e8_ro_t, e8_ro_f, zbool_0, zbool_1, zb2_s, zif_t, zopt_n, zopt_s, b_s, znm_e, lit_0, lit_1, lit_2, lit_3, lit_4, lit_5, lit_6, lit_7, lit_8, lit_9, lit_10, lit_11, lit_12, lit_13, lit_17, lit_20, lit_23, lit_24, lit_43, lit_48, lit_51, lit_57, lit_58, lit_59, lit_60, lit_61, lit_63, lit_77, lit_100, lit_140, lit_168, lit_200, lit_393, lit_400, lit_900, lit_969, lit_1000, lit_1041, lit_1045, lit_1093, lit_1168, lit_1200, lit_3279, lit_3333, lit_4372, lit_9999, nI_10, if_false, if_true, m_gX1, m_gX2, m_rX0, m_ld1273, h1, h2, h3, n0, nI_leE, cT, c6, qT]
theorem e6_setL {z : Nat} {T : List Int32} (h60 : T.length ≤ 60) : ∀ (n fuel k v p : Nat) (X : pX), TxC X.1 T → X.1 1272 2 = nI p → p ≤ T.length → k + n = 4 → v < 10 ^ k → n < fuel → ∃ V', f_X6_readSet_4 fuel (z + 1272) (nI v) (nI k) (hp z X) = some (dI (seL T n v p).1, hp z (V', X.2)) ∧ KX X.1 V' (seL T n v p).2 := by
  intro n
  induction n with
  | zero =>
    intro fuel k v p X hT h2 hpp hk hv hf
    obtain ⟨fuel, rfl⟩ : ∃ f, fuel = f + 1 := ⟨fuel - 1, by omega⟩
    obtain rfl : k = 4 := by omega
    refine ⟨X.1, ?_, KX.rf h2⟩
    simp (disch := first | assumption | omega) only [f_X6_readSet_4, f_X6_readSet_4_body, m_rx0, m_rx1, m_rx2, m_rx3, m_rx4, m_ix, m_iO isB_3, m_iO isB_184, m_iO isB_365, m_iH, m_iX, m_iD, m_im, m_rm0, e_wi_t, e_wi_f, e_ro_t, e_ro_f, e8_wi_t, e8_wi_f, e8_ro_t, e8_ro_f, zbool_0, zbool_1, zb2_s, zif_t, zopt_n, zopt_s, b_s, znm_e, lit_0, lit_1, lit_2, lit_3, lit_4, lit_5, lit_6, lit_7, lit_8, lit_9, lit_10, lit_11, lit_12, lit_13, lit_17, lit_20, lit_23, lit_24, lit_43, lit_48, lit_51, lit_57, lit_58, lit_59, lit_60, lit_61, lit_63, lit_77, lit_100, lit_140, lit_168, lit_200, lit_393, lit_400, lit_900, lit_969, lit_1000, lit_1041, lit_1045, lit_1093, lit_1168, lit_1200, lit_3279, lit_3333, lit_4372, lit_9999, nI_10, if_false, if_true, nI_leE, Nat.le_refl]
    rfl
  | succ n ih =>
    intro fuel k v p X hT h2 hpp hk hv hf
    obtain ⟨fuel, rfl⟩ : ∃ f, fuel = f + 1 := ⟨fuel - 1, by omega⟩
    have k4 : (4 ≤ k) = False := eq_false (by omega)
    have g := e6_next (z := z) hT h60 (by omega) h2
    have v4 : v < 10 ^ 4 := Nat.lt_of_lt_of_le hv (Nat.pow_le_pow_right (by omega) (by omega))
    unfold seL
    cases e : dT T p with
    | none =>
      rw [e] at g
      have g : f_X6_nextDigit (z + 1272) (hp z X) = some (-nI 1, hp z X) := g
      have w : ¬ (nI 0 ≤ -nI 1 ∧ -nI 1 ≤ nI 3) := by decide
      refine ⟨X.1, ?_, KX.rf h2⟩
      simp (disch := first | assumption | omega) only [f_X6_readSet_4, f_X6_readSet_4_body, m_rx0, m_rx1, m_rx2, m_rx3, m_rx4, m_ix, m_iO isB_3, m_iO isB_184, m_iO isB_365, m_iH, m_iX, m_iD, m_im, m_rm0, e_wi_t, e_wi_f, e_ro_t, e_ro_f, e8_wi_t, e8_wi_f, e8_ro_t, e8_ro_f, zbool_0, zbool_1, zb2_s, zif_t, zopt_n, zopt_s, b_s, znm_e, lit_0, lit_1, lit_2, lit_3, lit_4, lit_5, lit_6, lit_7, lit_8, lit_9, lit_10, lit_11, lit_12, lit_13, lit_17, lit_20, lit_23, lit_24, lit_43, lit_48, lit_51, lit_57, lit_58, lit_59, lit_60, lit_61, lit_63, lit_77, lit_100, lit_140, lit_168, lit_200, lit_393, lit_400, lit_900, lit_969, lit_1000, lit_1041, lit_1045, lit_1093, lit_1168, lit_1200, lit_3279, lit_3333, lit_4372, lit_9999, nI_10, if_false, if_true, nI_leE, k4, g]
      rfl
    | some d =>
      rw [e] at g
      have g : f_X6_nextDigit (z + 1272) (hp z X) = some (nI d, hp z X) := g
      have d9 := dT_s e
      dsimp only
      by_cases c : d ≤ 3
      · rw [if_pos c]
        have w : nI 0 ≤ nI d ∧ nI d ≤ nI 3 := wi_n (by omega) c (by omega)
        have kx : KX X.1 (sV X.1 1272 (upd (X.1 1272) 2 (nI (p + 1)))) (p + 1) := KX.up
        have hv2 : v * 10 + d < 10 ^ (k + 1) := by rw [Nat.pow_succ]; omega
        obtain ⟨V', k1, k2⟩ := ih fuel (k + 1) (v * 10 + d) (p + 1) (sV X.1 1272 (upd (X.1 1272) 2 (nI (p + 1))), X.2) (kx.tx hT) kx.1 (by omega) (by omega) hv2 (by omega)
        rw [Nat.mul_comm v 10] at k1 k2
        refine ⟨V', ?_, kx.tr k2⟩
        simp (disch := first | assumption | omega) only [f_X6_readSet_4, f_X6_readSet_4_body, m_rx0, m_rx1, m_rx2, m_rx3, m_rx4, m_ix, m_iO isB_3, m_iO isB_184, m_iO isB_365, m_iH, m_iX, m_iD, m_im, m_rm0, e_wi_t, e_wi_f, e_ro_t, e_ro_f, e8_wi_t, e8_wi_f, e8_ro_t, e8_ro_f, zbool_0, zbool_1, zb2_s, zif_t, zopt_n, zopt_s, b_s, znm_e, lit_0, lit_1, lit_2, lit_3, lit_4, lit_5, lit_6, lit_7, lit_8, lit_9, lit_10, lit_11, lit_12, lit_13, lit_17, lit_20, lit_23, lit_24, lit_43, lit_48, lit_51, lit_57, lit_58, lit_59, lit_60, lit_61, lit_63, lit_77, lit_100, lit_140, lit_168, lit_200, lit_393, lit_400, lit_900, lit_969, lit_1000, lit_1041, lit_1045, lit_1093, lit_1168, lit_1200, lit_3279, lit_3333, lit_4372, lit_9999, nI_10, if_false, if_true, nI_leE, k4, g, m_gX2, h2, m_pX2, nI_add, nI_mul, Nat.mul_comm v 10, k1]
      · rw [if_neg c]
        have w : ¬ (nI 0 ≤ nI d ∧ nI d ≤ nI 3) := wi_x (by omega) (by omega) (by omega) (by omega)
        refine ⟨X.1, ?_, KX.rf h2⟩
        simp (disch := first | assumption | omega) only [f_X6_readSet_4, f_X6_readSet_4_body, m_rx0, m_rx1, m_rx2, m_rx3, m_rx4, m_ix, m_iO isB_3, m_iO isB_184, m_iO isB_365, m_iH, m_iX, m_iD, m_im, m_rm0, e_wi_t, e_wi_f, e_ro_t, e_ro_f, e8_wi_t, e8_wi_f, e8_ro_t, e8_ro_f, zbool_0, zbool_1, zb2_s, zif_t, zopt_n, zopt_s, b_s, znm_e, lit_0, lit_1, lit_2, lit_3, lit_4, lit_5, lit_6, lit_7, lit_8, lit_9, lit_10, lit_11, lit_12, lit_13, lit_17, lit_20, lit_23, lit_24, lit_43, lit_48, lit_51, lit_57, lit_58, lit_59, lit_60, lit_61, lit_63, lit_77, lit_100, lit_140, lit_168, lit_200, lit_393, lit_400, lit_900, lit_969, lit_1000, lit_1041, lit_1045, lit_1093, lit_1168, lit_1200, lit_3279, lit_3333, lit_4372, lit_9999, nI_10, if_false, if_true, nI_leE, k4, g]
        rfl
