/-! the reference: digits, what hinders, copies of rows, its history, ladders -/
def dvN : Nat → Nat → Nat
  | 0, v => v
  | n + 1, v => dvN n (v / 10)
theorem e8_digL (h : zHp) : ∀ (n fuel k v : Nat), k + n = 3 → n < fuel → v < 2 ^ 31 → f_X8_digit_4 fuel (nI v) (nI k) h = some (nI (dvN n v % 10), h) := by
  intro n
  induction n with
  | zero =>
    intro fuel k v h1 h2 hv
    obtain ⟨fuel, rfl⟩ : ∃ f, fuel = f + 1 := ⟨fuel - 1, by omega⟩
    obtain rfl : k = 3 := by omega
    have r0 := zrem_n (a := v) (b := 10) hv (by omega) (by omega)
    simp (disch := first | assumption | omega) only [f_X8_digit_4, f_X8_digit_4_body, zb2_s, zif_t, zopt_n, zopt_s, b_s, znm_e, lit_0, lit_1, lit_2, lit_3, lit_4, lit_5, lit_6, lit_7, lit_8, lit_9, lit_10, lit_11, lit_12, lit_13, lit_17, lit_20, lit_23, lit_24, lit_43, lit_48, lit_51, lit_57, lit_58, lit_59, lit_60, lit_61, lit_63, lit_77, lit_100, lit_140, lit_168, lit_200, lit_393, lit_400, lit_900, lit_969, lit_1000, lit_1041, lit_1045, lit_1093, lit_1168, lit_1200, lit_3279, lit_3333, lit_4372, lit_9999, nI_leE, Nat.le_refl, if_true, r0, dvN]
  | succ n ih =>
    intro fuel k v h1 h2 hv
    obtain ⟨fuel, rfl⟩ : ∃ f, fuel = f + 1 := ⟨fuel - 1, by omega⟩
    have d0 := zdiv_n (a := v) (b := 10) hv (by omega) (by omega)
    have i1 := ih fuel (k + 1) (v / 10) (by omega) (by omega) (by omega)
    have hk : ¬ 3 ≤ k := by omega
    simp (disch := first | assumption | omega) only [f_X8_digit_4, f_X8_digit_4_body, zb2_s, zif_t, zopt_n, zopt_s, b_s, znm_e, lit_0, lit_1, lit_2, lit_3, lit_4, lit_5, lit_6, lit_7, lit_8, lit_9, lit_10, lit_11, lit_12, lit_13, lit_17, lit_20, lit_23, lit_24, lit_43, lit_48, lit_51, lit_57, lit_58, lit_59, lit_60, lit_61, lit_63, lit_77, lit_100, lit_140, lit_168, lit_200, lit_393, lit_400, lit_900, lit_969, lit_1000, lit_1041, lit_1045, lit_1093, lit_1168, lit_1200, lit_3279, lit_3333, lit_4372, lit_9999, nI_leE, hk, if_false, d0, nI_add, i1, dvN]
theorem dgt_dv {v q : Nat} (hq : q < 4) : dvN (3 - q) v % 10 = dgt v q := by
  rcases (show q = 0 ∨ q = 1 ∨ q = 2 ∨ q = 3 by omega) with rfl | rfl | rfl | rfl <;> rfl
theorem e8_digit {v q : Nat} (hv : v < 2 ^ 31) (hq : q < 4) (h : zHp) : f_X8_digit (nI v) (nI q) h = some (nI (dgt v q), h) := by
  have g := e8_digL h (3 - q) zN q v (by omega) (zN_lt (by omega)) hv
  rw [dgt_dv hq] at g
  simp only [f_X8_digit, g]
theorem dgt_lt (v q : Nat) : dgt v q < 10 := by
  match q with
  | 0 => show v / 10 / 10 / 10 % 10 < 10; omega
  | 1 => show v / 10 / 10 % 10 < 10; omega
  | 2 => show v / 10 % 10 < 10; omega
  | k + 3 => show v % 10 < 10; omega
theorem e8_isSetL {v : Nat} (hv : v < 2 ^ 31) (h : zHp) : ∀ (n fuel k : Nat), k + n = 4 → n < fuel → f_X8_isSet_15 fuel (nI v) (nI k) h = some (bI (aA (fun q => decide (dgt v q ≤ 3)) k n), h) := by
  intro n
  induction n with
  | zero =>
    intro fuel k h1 h2
    obtain ⟨fuel, rfl⟩ : ∃ f, fuel = f + 1 := ⟨fuel - 1, by omega⟩
    obtain rfl : k = 4 := by omega
    simp (disch := first | assumption | omega) only [f_X8_isSet_15, f_X8_isSet_15_body, zb2_s, zif_t, zopt_n, zopt_s, b_s, znm_e, lit_0, lit_1, lit_2, lit_3, lit_4, lit_5, lit_6, lit_7, lit_8, lit_9, lit_10, lit_11, lit_12, lit_13, lit_17, lit_20, lit_23, lit_24, lit_43, lit_48, lit_51, lit_57, lit_58, lit_59, lit_60, lit_61, lit_63, lit_77, lit_100, lit_140, lit_168, lit_200, lit_393, lit_400, lit_900, lit_969, lit_1000, lit_1041, lit_1045, lit_1093, lit_1168, lit_1200, lit_3279, lit_3333, lit_4372, lit_9999, nI_leE, Nat.le_refl, if_true, zbool_1]
    rfl
  | succ n ih =>
    intro fuel k h1 h2
    obtain ⟨fuel, rfl⟩ : ∃ f, fuel = f + 1 := ⟨fuel - 1, by omega⟩
    have g := e8_digit hv (q := k) (by omega) h
    have b := dgt_lt v k
    have i1 := ih fuel (k + 1) (by omega) (by omega)
    have hk : ¬ 4 ≤ k := by omega
    simp (disch := first | assumption | omega) only [f_X8_isSet_15, f_X8_isSet_15_body, zb2_s, zif_t, zopt_n, zopt_s, b_s, znm_e, lit_0, lit_1, lit_2, lit_3, lit_4, lit_5, lit_6, lit_7, lit_8, lit_9, lit_10, lit_11, lit_12, lit_13, lit_17, lit_20, lit_23, lit_24, lit_43, lit_48, lit_51, lit_57, lit_58, lit_59, lit_60, lit_61, lit_63, lit_77, lit_100, lit_140, lit_168, lit_200, lit_393, lit_400, lit_900, lit_969, lit_1000, lit_1041, lit_1045, lit_1093, lit_1168, lit_1200, lit_3279, lit_3333, lit_4372, lit_9999, nI_leE, hk, if_false, g, nI_add, i1, zbool_0]
    by_cases q : dgt v k ≤ 3
    · rw [if_pos q, aA_t (decide_eq_true q)]
    · rw [if_neg q, aA_f (decide_eq_false q)]; rfl
theorem e8_isSet (x : Int32) (h : zHp) : f_X8_isSet x h = some (bI (setB x), h) := by
  by_cases c : nI 1 ≤ x ∧ x ≤ nI 3333
  · have h0 : ¬ x < 0 := fun q => by
      have a := Int32.le_iff_toInt_le.mp c.1
      have b := Int32.lt_iff_toInt_lt.mp q
      have c : (nI 1).toInt = 1 := by decide
      have d : (0 : Int32).toInt = 0 := by decide
      omega
    obtain ⟨v, hv, rfl⟩ := nI_of h0
    have e : bI (decide (nI 1 ≤ nI v ∧ nI v ≤ nI 3333)) = nI 1 := bI_t (decide_eq_true c)
    have g := e8_isSetL hv h 4 zN 0 rfl (zN_lt (by omega))
    have e2 : setB (nI v) = aA (fun q => decide (dgt v q ≤ 3)) 0 4 := by
      unfold setB
      rw [decide_eq_true c, Bool.true_and, nI_clamp hv]
      show _ = (decide (v / 10 / 10 / 10 % 10 ≤ 3) && (decide (v / 10 / 10 % 10 ≤ 3) && (decide (v / 10 % 10 ≤ 3) && (decide (v % 10 ≤ 3) && true))))
      rw [Bool.and_true, Bool.decide_and, Bool.decide_and, Bool.decide_and]
      cases decide (v % 10 ≤ 3) <;> cases decide (v / 10 % 10 ≤ 3) <;> cases decide (v / 10 / 10 % 10 ≤ 3) <;> cases decide (v / 10 / 10 / 10 % 10 ≤ 3) <;> rfl
    rw [e2]
    simp only [f_X8_isSet, e8_in, zb2_s, zif_t, zopt_n, zopt_s, b_s, znm_e, lit_0, lit_1, lit_2, lit_3, lit_4, lit_5, lit_6, lit_7, lit_8, lit_9, lit_10, lit_11, lit_12, lit_13, lit_17, lit_20, lit_23, lit_24, lit_43, lit_48, lit_51, lit_57, lit_58, lit_59, lit_60, lit_61, lit_63, lit_77, lit_100, lit_140, lit_168, lit_200, lit_393, lit_400, lit_900, lit_969, lit_1000, lit_1041, lit_1045, lit_1093, lit_1168, lit_1200, lit_3279, lit_3333, lit_4372, lit_9999, e, nI_10, if_false, g]
  · have e : setB x = false := by unfold setB; rw [decide_eq_false c, Bool.false_and]
    have e2 : bI (decide (nI 1 ≤ x ∧ x ≤ nI 3333)) = nI 0 := bI_f (decide_eq_false c)
    rw [bI_f e]
    simp only [f_X8_isSet, e8_in, lit_0, lit_1, lit_2, lit_3, lit_4, lit_5, lit_6, lit_7, lit_8, lit_9, lit_10, lit_11, lit_12, lit_13, lit_17, lit_20, lit_23, lit_24, lit_43, lit_48, lit_51, lit_57, lit_58, lit_59, lit_60, lit_61, lit_63, lit_77, lit_100, lit_140, lit_168, lit_200, lit_393, lit_400, lit_900, lit_969, lit_1000, lit_1041, lit_1045, lit_1093, lit_1168, lit_1200, lit_3279, lit_3333, lit_4372, lit_9999, e2, zb2_s, zif_t, zopt_n, zopt_s, b_s, znm_e, if_true, zbool_0]
def ohB (s : Nat → Nat) (f a b : Int32) (k : Nat) : Bool := decide (recS s k 5 ≠ 2 ∧ nI (recS s k 1) = f ∧ nI (recS s k 2) < b ∧ a < nI (recS s k 3))
def refM (s : Nat → Nat) (f st h v : Int32) : Int32 :=
  if ¬ (nI 0 ≤ f ∧ f ≤ nI 5) then -nI 1 else if ¬ ((nI (s 0) ≤ st ∧ st ≤ nI 900) ∧ (nI 1 ≤ h ∧ h ≤ nI 12) ∧ setB v = true) then -nI 2 else if oA (ohB s f st (st + h)) 0 (s 1) = true then -nI 4 else if s 1 = 48 then -nI 3 else nI 0
theorem e8_hinL {z : Nat} {X : pX} {s : Nat → Nat} (hr : RoC X.1 s) (hB : RB s) (f st h : Int32) : ∀ (n fuel k : Nat), k + n = s 1 → n < fuel → f_X8_hinders_51 fuel (z + 1278) f st h (nI k) (hp z X) = some (if oA (ohB s f st (st + h)) k n = true then -nI 4 else if s 1 = 48 then -nI 3 else nI 0, hp z X) := by
  intro n
  have b1 := hB.1.2.1
  induction n with
  | zero =>
    intro fuel k h1 h2
    obtain ⟨fuel, rfl⟩ : ∃ f, fuel = f + 1 := ⟨fuel - 1, by omega⟩
    have h1 : k = s 1 := h1
    rw [if_neg (show ¬ oA (ohB s f st (st + h)) k 0 = true from Bool.false_ne_true)]
    simp (config := {maxSteps := 1000000}) (disch := first | assumption | omega) only [f_X8_hinders_51, f_X8_hinders_51_body, m_rm0, r_ld hr, zb2_s, zif_t, zopt_n, zopt_s, b_s, znm_e, lit_0, lit_1, lit_2, lit_3, lit_4, lit_5, lit_6, lit_7, lit_8, lit_9, lit_10, lit_11, lit_12, lit_13, lit_17, lit_20, lit_23, lit_24, lit_43, lit_48, lit_51, lit_57, lit_58, lit_59, lit_60, lit_61, lit_63, lit_77, lit_100, lit_140, lit_168, lit_200, lit_393, lit_400, lit_900, lit_969, lit_1000, lit_1041, lit_1045, lit_1093, lit_1168, lit_1200, lit_3279, lit_3333, lit_4372, lit_9999, nI_leE, nI_eqE]
    rw [if_pos (by omega)]
    split <;> rfl
  | succ n ih =>
    intro fuel k h1 h2
    obtain ⟨fuel, rfl⟩ : ∃ f, fuel = f + 1 := ⟨fuel - 1, by omega⟩
    have hk : k < 48 := by omega
    have g1 := e8_is (z := z) hr hB hk (v := 2) (by omega)
    have g2 := e8_of (z := z) hr hk (w := 1) (by omega)
    have g3 := e8_of (z := z) hr hk (w := 2) (by omega)
    have g4 := e8_end (z := z) hr hk
    have i1 := ih fuel (k + 1) (by omega) (by omega)
    have e1 : s (9 + 8 * k + 1) = recS s k 1 := rfl
    have e2 : s (9 + 8 * k + 2) = recS s k 2 := rfl
    rw [e1] at g2
    rw [e2] at g3
    simp (config := {maxSteps := 1000000}) (disch := first | assumption | omega) only [f_X8_hinders_51, f_X8_hinders_51_body, f_X8_hinders_109, m_rm0, m_im, r_ld hr, g1, g2, g3, g4, zb2_s, zif_t, zopt_n, zopt_s, b_s, znm_e, lit_0, lit_1, lit_2, lit_3, lit_4, lit_5, lit_6, lit_7, lit_8, lit_9, lit_10, lit_11, lit_12, lit_13, lit_17, lit_20, lit_23, lit_24, lit_43, lit_48, lit_51, lit_57, lit_58, lit_59, lit_60, lit_61, lit_63, lit_77, lit_100, lit_140, lit_168, lit_200, lit_393, lit_400, lit_900, lit_969, lit_1000, lit_1041, lit_1045, lit_1093, lit_1168, lit_1200, lit_3279, lit_3333, lit_4372, lit_9999, nI_leE, bI_0, nI_add, i1]
    rw [if_neg (by omega)]
    by_cases c : recS s k 5 ≠ 2 ∧ nI (recS s k 1) = f ∧ nI (recS s k 2) < st + h ∧ st < nI (recS s k 3)
    · rw [if_pos (by simp [c.1]), if_pos c.2.1, if_neg (Int32.not_le.mpr c.2.2.1), if_neg (Int32.not_le.mpr c.2.2.2), oA_t (decide_eq_true c), if_pos rfl]
    · rw [oA_f (decide_eq_false c)]
      by_cases c1 : recS s k 5 = 2
      · rw [if_neg (by simp [c1])]
      · rw [if_pos (by simp [c1])]
        by_cases c2 : nI (recS s k 1) = f
        · rw [if_pos c2]
          by_cases c3 : st + h ≤ nI (recS s k 2)
          · rw [if_pos c3]
          · rw [if_neg c3]
            by_cases c4 : nI (recS s k 3) ≤ st
            · rw [if_pos c4]
            · exact absurd ⟨c1, c2, Int32.not_le.mp c3, Int32.not_le.mp c4⟩ c
        · rw [if_neg c2]
theorem e8_hinders {z : Nat} {X : pX} {s : Nat → Nat} (hr : RoC X.1 s) (hB : RB s) (f st h v : Int32) : f_X8_hinders (z + 1278) f st h v (hp z X) = some (refM s f st h v, hp z X) := by
  have g := e8_hinL (z := z) hr hB f st h (s 1) zN 0 (by omega) (zN_lt (by have := hB.1.2.1; omega))
  unfold refM
  by_cases c1 : nI 0 ≤ f ∧ f ≤ nI 5
  · rw [if_neg (fun q => q c1)]
    have c1' := bI_t (decide_eq_true c1)
    by_cases c2 : nI (s 0) ≤ st ∧ st ≤ nI 900
    · have c2' := bI_t (decide_eq_true c2)
      by_cases c3 : nI 1 ≤ h ∧ h ≤ nI 12
      · have c3' := bI_t (decide_eq_true c3)
        cases c4 : setB v
        · rw [if_pos (fun q => absurd q.2.2 (by decide))]
          simp (disch := first | assumption | omega) only [f_X8_hinders, m_rm0, r_ld hr, e8_in, e8_isSet, zb2_s, zif_t, zopt_n, zopt_s, b_s, znm_e, lit_0, lit_1, lit_2, lit_3, lit_4, lit_5, lit_6, lit_7, lit_8, lit_9, lit_10, lit_11, lit_12, lit_13, lit_17, lit_20, lit_23, lit_24, lit_43, lit_48, lit_51, lit_57, lit_58, lit_59, lit_60, lit_61, lit_63, lit_77, lit_100, lit_140, lit_168, lit_200, lit_393, lit_400, lit_900, lit_969, lit_1000, lit_1041, lit_1045, lit_1093, lit_1168, lit_1200, lit_3279, lit_3333, lit_4372, lit_9999, c1', c2', c3', bI_f c4, nI_10, if_false, if_true]
        · rw [if_neg (fun q => q ⟨c2, c3, rfl⟩)]
          simp (disch := first | assumption | omega) only [f_X8_hinders, m_rm0, r_ld hr, e8_in, e8_isSet, zb2_s, zif_t, zopt_n, zopt_s, b_s, znm_e, lit_0, lit_1, lit_2, lit_3, lit_4, lit_5, lit_6, lit_7, lit_8, lit_9, lit_10, lit_11, lit_12, lit_13, lit_17, lit_20, lit_23, lit_24, lit_43, lit_48, lit_51, lit_57, lit_58, lit_59, lit_60, lit_61, lit_63, lit_77, lit_100, lit_140, lit_168, lit_200, lit_393, lit_400, lit_900, lit_969, lit_1000, lit_1041, lit_1045, lit_1093, lit_1168, lit_1200, lit_3279, lit_3333, lit_4372, lit_9999, c1', c2', c3', bI_t c4, nI_10, if_false, if_true, g]
      · have c3' := bI_f (decide_eq_false c3)
        rw [if_pos (fun q => c3 q.2.1)]
        simp (disch := first | assumption | omega) only [f_X8_hinders, m_rm0, r_ld hr, e8_in, e8_isSet, zb2_s, zif_t, zopt_n, zopt_s, b_s, znm_e, lit_0, lit_1, lit_2, lit_3, lit_4, lit_5, lit_6, lit_7, lit_8, lit_9, lit_10, lit_11, lit_12, lit_13, lit_17, lit_20, lit_23, lit_24, lit_43, lit_48, lit_51, lit_57, lit_58, lit_59, lit_60, lit_61, lit_63, lit_77, lit_100, lit_140, lit_168, lit_200, lit_393, lit_400, lit_900, lit_969, lit_1000, lit_1041, lit_1045, lit_1093, lit_1168, lit_1200, lit_3279, lit_3333, lit_4372, lit_9999, c1', c2', c3', nI_10, if_false, if_true]
    · have c2' := bI_f (decide_eq_false c2)
      rw [if_pos (fun q => c2 q.1)]
      simp (disch := first | assumption | omega) only [f_X8_hinders, m_rm0, r_ld hr, e8_in, e8_isSet, zb2_s, zif_t, zopt_n, zopt_s, b_s, znm_e, lit_0, lit_1, lit_2, lit_3, lit_4, lit_5, lit_6, lit_7, lit_8, lit_9, lit_10, lit_11, lit_12, lit_13, lit_17, lit_20, lit_23, lit_24, lit_43, lit_48, lit_51, lit_57, lit_58, lit_59, lit_60, lit_61, lit_63, lit_77, lit_100, lit_140, lit_168, lit_200, lit_393, lit_400, lit_900, lit_969, lit_1000, lit_1041, lit_1045, lit_1093, lit_1168, lit_1200, lit_3279, lit_3333, lit_4372, lit_9999, c1', c2', nI_10, if_false, if_true]
  · have c1' := bI_f (decide_eq_false c1)
    rw [if_pos c1]
    simp (disch := first | assumption | omega) only [f_X8_hinders, m_rm0, r_ld hr, e8_in, e8_isSet, zb2_s, zif_t, zopt_n, zopt_s, b_s, znm_e, lit_0, lit_1, lit_2, lit_3, lit_4, lit_5, lit_6, lit_7, lit_8, lit_9, lit_10, lit_11, lit_12, lit_13, lit_17, lit_20, lit_23, lit_24, lit_43, lit_48, lit_51, lit_57, lit_58, lit_59, lit_60, lit_61, lit_63, lit_77, lit_100, lit_140, lit_168, lit_200, lit_393, lit_400, lit_900, lit_969, lit_1000, lit_1041, lit_1045, lit_1093, lit_1168, lit_1200, lit_3279, lit_3333, lit_4372, lit_9999, c1', if_true]
/-- the row after a sailing came -/
def newM (s : Nat → Nat) (f st h v : Nat) : Nat → Nat :=
  updN (updN (updN (updN (updN (updN (updN (updN (updN s 1 (s 1 + 1)) (9 + 8 * s 1 + 0) 0) (9 + 8 * s 1 + 1) f) (9 + 8 * s 1 + 2) st) (9 + 8 * s 1 + 3) h) (9 + 8 * s 1 + (4 + 0)) (dgt v 0)) (9 + 8 * s 1 + (4 + 1)) (dgt v 1)) (9 + 8 * s 1 + (4 + 2)) (dgt v 2)) (9 + 8 * s 1 + (4 + 3)) (dgt v 3)
def dgF (s : Nat → Nat) (k v : Nat) : Nat → Nat → Nat → Nat
  | _, 0 => s
  | q, n + 1 => dgF (updN s (9 + 8 * k + (4 + q)) (dgt v q)) k v (q + 1) n
theorem e8_addL {z k v : Nat} (hk : k < 48) (hv : v < 2 ^ 31) : ∀ (n fuel q : Nat) (X : pX) (s : Nat → Nat), RoC X.1 s → q + n = 4 → n < fuel → ∃ V', f_X8_addSailing_53 fuel (z + 1278) (nI v) (nI k) (nI q) (hp z X) = some (nI k, hp z (V', X.2)) ∧ KpM X.1 V' ∧ RoC V' (dgF s k v q n) := by
  intro n
  induction n with
  | zero =>
    intro fuel q X s hr h1 h2
    obtain ⟨fuel, rfl⟩ : ∃ f, fuel = f + 1 := ⟨fuel - 1, by omega⟩
    obtain rfl : q = 4 := by omega
    refine ⟨X.1, ?_, KpM.rf, hr⟩
    simp (disch := first | assumption | omega) only [f_X8_addSailing_53, f_X8_addSailing_53_body, zb2_s, zif_t, zopt_n, zopt_s, b_s, znm_e, lit_0, lit_1, lit_2, lit_3, lit_4, lit_5, lit_6, lit_7, lit_8, lit_9, lit_10, lit_11, lit_12, lit_13, lit_17, lit_20, lit_23, lit_24, lit_43, lit_48, lit_51, lit_57, lit_58, lit_59, lit_60, lit_61, lit_63, lit_77, lit_100, lit_140, lit_168, lit_200, lit_393, lit_400, lit_900, lit_969, lit_1000, lit_1041, lit_1045, lit_1093, lit_1168, lit_1200, lit_3279, lit_3333, lit_4372, lit_9999, nI_leE, Nat.le_refl, if_true]
  | succ n ih =>
    intro fuel q X s hr h1 h2
    obtain ⟨fuel, rfl⟩ : ∃ f, fuel = f + 1 := ⟨fuel - 1, by omega⟩
    have g := e8_digit hv (q := q) (by omega) (hp z X)
    have p := e8_put (z := z) (X := X) hk (w := 4 + q) (by omega) (nI (dgt v q))
    obtain ⟨V', q1, q2, q3⟩ := ih fuel (q + 1) (sV X.1 1279 (upd (X.1 1279) (9 + 8 * k + (4 + q)) (nI (dgt v q))), X.2) _ (hr.st _ _) (by omega) (by omega)
    refine ⟨V', ?_, KpM.up.tr q2, q3⟩
    simp (disch := first | assumption | omega) only [f_X8_addSailing_53, f_X8_addSailing_53_body, m_im, zb2_s, zif_t, zopt_n, zopt_s, b_s, znm_e, lit_0, lit_1, lit_2, lit_3, lit_4, lit_5, lit_6, lit_7, lit_8, lit_9, lit_10, lit_11, lit_12, lit_13, lit_17, lit_20, lit_23, lit_24, lit_43, lit_48, lit_51, lit_57, lit_58, lit_59, lit_60, lit_61, lit_63, lit_77, lit_100, lit_140, lit_168, lit_200, lit_393, lit_400, lit_900, lit_969, lit_1000, lit_1041, lit_1045, lit_1093, lit_1168, lit_1200, lit_3279, lit_3333, lit_4372, lit_9999, nI_leE, g, nI_add, p, q1]
    rw [if_neg (by omega)]
theorem e8_addSail {z : Nat} {X : pX} {s : Nat → Nat} (hr : RoC X.1 s) (hB : RB s) {f st h v : Nat} (hn : s 1 < 48) (hv : v < 2 ^ 31) : ∃ V', f_X8_addSailing (z + 1278) (nI f) (nI st) (nI h) (nI v) (hp z X) = some (nI (s 1), hp z (V', X.2)) ∧ KpM X.1 V' ∧ RoC V' (newM s f st h v) := by
  have r1 := r_ld (z := z) hr (i := 1) (by omega)
  have p0 := fun V => e8_put (z := z) (X := (V, X.2)) hn (w := 0) (by omega) (nI 0)
  have p1 := fun V => e8_put (z := z) (X := (V, X.2)) hn (w := 1) (by omega) (nI f)
  have p2 := fun V => e8_put (z := z) (X := (V, X.2)) hn (w := 2) (by omega) (nI st)
  have p3 := fun V => e8_put (z := z) (X := (V, X.2)) hn (w := 3) (by omega) (nI h)
  have h1 := hr.st 1 (s 1 + 1)
  have h2 := h1.st (9 + 8 * s 1 + 0) 0
  have h3 := h2.st (9 + 8 * s 1 + 1) f
  have h4 := h3.st (9 + 8 * s 1 + 2) st
  have h5 := h4.st (9 + 8 * s 1 + 3) h
  obtain ⟨V', q1, q2, q3⟩ := e8_addL (z := z) hn hv 4 zN 0 (_, X.2) _ h5 rfl (zN_lt (by omega))
  refine ⟨V', ?_, ((((KpM.up.tr KpM.up).tr KpM.up).tr KpM.up).tr KpM.up).tr q2, q3⟩
  simp (config := {maxSteps := 1000000}) (disch := first | assumption | omega) only [f_X8_addSailing, m_im, m_rm0, r1, m_st1279, zb2_s, zif_t, zopt_n, zopt_s, b_s, znm_e, lit_0, lit_1, lit_2, lit_3, lit_4, lit_5, lit_6, lit_7, lit_8, lit_9, lit_10, lit_11, lit_12, lit_13, lit_17, lit_20, lit_23, lit_24, lit_43, lit_48, lit_51, lit_57, lit_58, lit_59, lit_60, lit_61, lit_63, lit_77, lit_100, lit_140, lit_168, lit_200, lit_393, lit_400, lit_900, lit_969, lit_1000, lit_1041, lit_1045, lit_1093, lit_1168, lit_1200, lit_3279, lit_3333, lit_4372, lit_9999, nI_add, p0, p1, p2, p3]
  exact q1
theorem RB.new {s : Nat → Nat} (hB : RB s) {f st h v : Nat} (hn : s 1 < 48) (hf : f < 6) (hst : st ≤ 900) (hh : h ≤ 12) (hv : ∀ q, q < 4 → dgt v q ≤ 3) : RB (newM s f st h v) := by
  obtain ⟨⟨a, b, c, ⟨d1, d2, d3, d4, d5⟩, e⟩, f', g, i⟩ := hB
  have v0 := hv 0 (by omega)
  have v1 := hv 1 (by omega)
  have v2 := hv 2 (by omega)
  have v3 := hv 3 (by omega)
  have lo : ∀ i, i ≠ 1 → (i < 9 ∨ 9 + 8 * s 1 + 8 ≤ i ∨ i < 9 + 8 * s 1) → newM s f st h v i = s i := fun i h1 h2 => by
    unfold newM
    rw [updN_n (by omega), updN_n (by omega), updN_n (by omega), updN_n (by omega), updN_n (by omega), updN_n (by omega), updN_n (by omega), updN_n (by omega), updN_n (by omega)]
  refine ⟨⟨?_, ?_, ?_, ⟨?_, ?_, ?_, ?_, ?_⟩, fun m' hm' q' hq' => ?_⟩, fun k' hk' => ?_, fun k' hk' m' hm' => ?_, fun q hq => ⟨?_, fun j hj => ?_⟩⟩
  · rw [lo 0 (by omega) (by omega)]; exact a
  · have : newM s f st h v 1 = s 1 + 1 := by
      unfold newM
      rw [updN_n (by omega), updN_n (by omega), updN_n (by omega), updN_n (by omega), updN_n (by omega), updN_n (by omega), updN_n (by omega), updN_n (by omega), updN_s]
    omega
  · rw [lo 2 (by omega) (by omega)]; exact c
  · rw [lo 4 (by omega) (by omega)]; exact d1
  · rw [lo 5 (by omega) (by omega)]; exact d2
  · rw [lo 6 (by omega) (by omega)]; exact d3
  · rw [lo 7 (by omega) (by omega)]; exact d4
  · rw [lo 8 (by omega) (by omega)]; exact d5
  · rw [lo _ (by omega) (by omega)]; exact e m' hm' q' hq'
  · by_cases ck : k' = s 1
    · subst ck
      unfold newM
      simp (disch := first | assumption | omega) only [updN_s, updN_n]
      refine ⟨by omega, hf, hst, hh, v0, v1, v2, v3⟩
    · have := f' k' hk'
      rw [lo _ (by omega) (by omega), lo _ (by omega) (by omega), lo _ (by omega) (by omega), lo _ (by omega) (by omega), lo _ (by omega) (by omega), lo _ (by omega) (by omega), lo _ (by omega) (by omega), lo _ (by omega) (by omega)]; exact this
  · rw [lo _ (by omega) (by omega)]; exact g k' hk' m' hm'
  · rw [lo _ (by omega) (by omega)]; exact (i q hq).1
  · rw [lo _ (by omega) (by omega)]; exact (i q hq).2 j hj
/-- a row of another array -/
def RoA (o : Nat) (V : pV) (s : Nat → Nat) : Prop := ∀ i, i < 1093 → V o i = nI (s i)
theorem RoA.kept {o : Nat} {V V' : pV} {s : Nat → Nat} (h : RoA o V s) (q : V' o = V o) : RoA o V' s := by
  intro i hi; rw [q]; exact h i hi
theorem e8_layL {z : Nat} {s : Nat → Nat} : ∀ (n fuel k : Nat) (X : pX), RoA 1279 X.1 s → (∀ i, i < k → X.1 1281 i = nI (s i)) → k + n = 1093 → n < fuel → ∃ V', f_X8_lay_2 fuel (z + 1278) (nI k) (hp z X) = some (hp z (V', X.2)) ∧ (∀ o, o ≠ 1281 → V' o = X.1 o) ∧ RoA 1281 V' s := by
  intro n
  induction n with
  | zero =>
    intro fuel k X hr h0 h1 h2
    obtain ⟨fuel, rfl⟩ : ∃ f, fuel = f + 1 := ⟨fuel - 1, by omega⟩
    obtain rfl : k = 1093 := by omega
    refine ⟨X.1, ?_, fun _ _ => rfl, h0⟩
    simp (disch := first | assumption | omega) only [f_X8_lay_2, f_X8_lay_2_body, zb2_s, zif_t, zopt_n, zopt_s, b_s, znm_e, lit_0, lit_1, lit_2, lit_3, lit_4, lit_5, lit_6, lit_7, lit_8, lit_9, lit_10, lit_11, lit_12, lit_13, lit_17, lit_20, lit_23, lit_24, lit_43, lit_48, lit_51, lit_57, lit_58, lit_59, lit_60, lit_61, lit_63, lit_77, lit_100, lit_140, lit_168, lit_200, lit_393, lit_400, lit_900, lit_969, lit_1000, lit_1041, lit_1045, lit_1093, lit_1168, lit_1200, lit_3279, lit_3333, lit_4372, lit_9999, nI_leE, Nat.le_refl, if_true]
  | succ n ih =>
    intro fuel k X hr h0 h1 h2
    obtain ⟨fuel, rfl⟩ : ∃ f, fuel = f + 1 := ⟨fuel - 1, by omega⟩
    have v := hr k (by omega)
    obtain ⟨V', q1, q2, q3⟩ := ih fuel (k + 1) (sV X.1 1281 (upd (X.1 1281) k (nI (s k))), X.2) (hr.kept (by dsimp only; rw [sV_n (by omega)])) (fun i hi => by
      dsimp only
      rw [sV_s]
      by_cases c : i = k
      · rw [c, pk_us]
      · rw [pk_un c]; exact h0 i (by omega)) (by omega) (by omega)
    refine ⟨V', ?_, fun o ho => by rw [q2 o ho]; exact sV_n ho, q3⟩
    simp (disch := first | assumption | omega) only [f_X8_lay_2, f_X8_lay_2_body, m_rm0, m_rm2, m_ld1279, m_st1281, zb2_s, zif_t, zopt_n, zopt_s, b_s, znm_e, lit_0, lit_1, lit_2, lit_3, lit_4, lit_5, lit_6, lit_7, lit_8, lit_9, lit_10, lit_11, lit_12, lit_13, lit_17, lit_20, lit_23, lit_24, lit_43, lit_48, lit_51, lit_57, lit_58, lit_59, lit_60, lit_61, lit_63, lit_77, lit_100, lit_140, lit_168, lit_200, lit_393, lit_400, lit_900, lit_969, lit_1000, lit_1041, lit_1045, lit_1093, lit_1168, lit_1200, lit_3279, lit_3333, lit_4372, lit_9999, nI_leE, nI_add, nI_mul, v, q1]
    rw [if_neg (by omega)]
theorem e8_tbkL {z : Nat} {s : Nat → Nat} : ∀ (n fuel k : Nat) (X : pX), RoA 1281 X.1 s → (∀ i, i < k → X.1 1279 i = nI (s i)) → k + n = 1093 → n < fuel → ∃ V', f_X8_takeBack_2 fuel (z + 1278) (nI k) (hp z X) = some (hp z (V', X.2)) ∧ (∀ o, o ≠ 1279 → V' o = X.1 o) ∧ RoA 1279 V' s := by
  intro n
  induction n with
  | zero =>
    intro fuel k X hr h0 h1 h2
    obtain ⟨fuel, rfl⟩ : ∃ f, fuel = f + 1 := ⟨fuel - 1, by omega⟩
    obtain rfl : k = 1093 := by omega
    refine ⟨X.1, ?_, fun _ _ => rfl, h0⟩
    simp (disch := first | assumption | omega) only [f_X8_takeBack_2, f_X8_takeBack_2_body, zb2_s, zif_t, zopt_n, zopt_s, b_s, znm_e, lit_0, lit_1, lit_2, lit_3, lit_4, lit_5, lit_6, lit_7, lit_8, lit_9, lit_10, lit_11, lit_12, lit_13, lit_17, lit_20, lit_23, lit_24, lit_43, lit_48, lit_51, lit_57, lit_58, lit_59, lit_60, lit_61, lit_63, lit_77, lit_100, lit_140, lit_168, lit_200, lit_393, lit_400, lit_900, lit_969, lit_1000, lit_1041, lit_1045, lit_1093, lit_1168, lit_1200, lit_3279, lit_3333, lit_4372, lit_9999, nI_leE, Nat.le_refl, if_true]
  | succ n ih =>
    intro fuel k X hr h0 h1 h2
    obtain ⟨fuel, rfl⟩ : ∃ f, fuel = f + 1 := ⟨fuel - 1, by omega⟩
    have v := hr k (by omega)
    obtain ⟨V', q1, q2, q3⟩ := ih fuel (k + 1) (sV X.1 1279 (upd (X.1 1279) k (nI (s k))), X.2) (hr.kept (by dsimp only; rw [sV_n (by omega)])) (fun i hi => by
      dsimp only
      rw [sV_s]
      by_cases c : i = k
      · rw [c, pk_us]
      · rw [pk_un c]; exact h0 i (by omega)) (by omega) (by omega)
    refine ⟨V', ?_, fun o ho => by rw [q2 o ho]; exact sV_n ho, q3⟩
    simp (disch := first | assumption | omega) only [f_X8_takeBack_2, f_X8_takeBack_2_body, m_rm0, m_rm2, m_ld1281, m_st1279, zb2_s, zif_t, zopt_n, zopt_s, b_s, znm_e, lit_0, lit_1, lit_2, lit_3, lit_4, lit_5, lit_6, lit_7, lit_8, lit_9, lit_10, lit_11, lit_12, lit_13, lit_17, lit_20, lit_23, lit_24, lit_43, lit_48, lit_51, lit_57, lit_58, lit_59, lit_60, lit_61, lit_63, lit_77, lit_100, lit_140, lit_168, lit_200, lit_393, lit_400, lit_900, lit_969, lit_1000, lit_1041, lit_1045, lit_1093, lit_1168, lit_1200, lit_3279, lit_3333, lit_4372, lit_9999, nI_leE, nI_add, nI_mul, v, q1]
    rw [if_neg (by omega)]
theorem e8_lay {z : Nat} {X : pX} {s : Nat → Nat} (hr : RoC X.1 s) : ∃ V', f_X8_lay (z + 1278) (hp z X) = some (hp z (V', X.2)) ∧ (∀ o, o ≠ 1281 → V' o = X.1 o) ∧ RoA 1281 V' s := by
  obtain ⟨V', q⟩ := e8_layL (z := z) 1093 zN 0 X hr (fun i hi => by omega) rfl (zN_lt (by omega))
  exact ⟨V', by simp only [f_X8_lay, lit_0, lit_1, lit_2, lit_3, lit_4, lit_5, lit_6, lit_7, lit_8, lit_9, lit_10, lit_11, lit_12, lit_13, lit_17, lit_20, lit_23, lit_24, lit_43, lit_48, lit_51, lit_57, lit_58, lit_59, lit_60, lit_61, lit_63, lit_77, lit_100, lit_140, lit_168, lit_200, lit_393, lit_400, lit_900, lit_969, lit_1000, lit_1041, lit_1045, lit_1093, lit_1168, lit_1200, lit_3279, lit_3333, lit_4372, lit_9999, q.1], q.2⟩
theorem e8_tbk {z : Nat} {X : pX} {s : Nat → Nat} (hr : RoA 1281 X.1 s) : ∃ V', f_X8_takeBack (z + 1278) (hp z X) = some (hp z (V', X.2)) ∧ (∀ o, o ≠ 1279 → V' o = X.1 o) ∧ RoC V' s := by
  obtain ⟨V', q⟩ := e8_tbkL (z := z) 1093 zN 0 X hr (fun i hi => by omega) rfl (zN_lt (by omega))
  exact ⟨V', by simp only [f_X8_takeBack, lit_0, lit_1, lit_2, lit_3, lit_4, lit_5, lit_6, lit_7, lit_8, lit_9, lit_10, lit_11, lit_12, lit_13, lit_17, lit_20, lit_23, lit_24, lit_43, lit_48, lit_51, lit_57, lit_58, lit_59, lit_60, lit_61, lit_63, lit_77, lit_100, lit_140, lit_168, lit_200, lit_393, lit_400, lit_900, lit_969, lit_1000, lit_1041, lit_1045, lit_1093, lit_1168, lit_1200, lit_3279, lit_3333, lit_4372, lit_9999, q.1], q.2⟩
theorem e8_keepL {z : Nat} {s : Nat → Nat} : ∀ (n fuel k : Nat) (X : pX), RoC X.1 s → (∀ i, i < k → X.1 1280 i = nI (s i)) → k + n = 1093 → n < fuel → ∃ V', f_X8_keep_2 fuel (z + 1278) (nI k) (hp z X) = some (nI (s 0), hp z (V', X.2)) ∧ (∀ o, o ≠ 1280 → o ≠ 1278 → V' o = X.1 o) ∧ RoA 1280 V' s ∧ V' 1278 = upd (X.1 1278) 11 (nI 1) := by
  intro n
  induction n with
  | zero =>
    intro fuel k X hr h0 h1 h2
    obtain ⟨fuel, rfl⟩ : ∃ f, fuel = f + 1 := ⟨fuel - 1, by omega⟩
    obtain rfl : k = 1093 := by omega
    have r0 := r_ld (z := z) (X := (sV X.1 1278 (upd (X.1 1278) 11 (nI 1)), X.2)) (s := s) (hr.kept (by dsimp only; rw [sV_n (by omega)])) (i := 0) (by omega)
    refine ⟨sV X.1 1278 (upd (X.1 1278) 11 (nI 1)), ?_, fun o _ o2 => sV_n o2, fun i hi => by rw [sV_n (by omega)]; exact h0 i hi, sV_s⟩
    simp (disch := first | assumption | omega) only [f_X8_keep_2, f_X8_keep_2_body, m_rm0, m_pm11, r0, zb2_s, zif_t, zopt_n, zopt_s, b_s, znm_e, lit_0, lit_1, lit_2, lit_3, lit_4, lit_5, lit_6, lit_7, lit_8, lit_9, lit_10, lit_11, lit_12, lit_13, lit_17, lit_20, lit_23, lit_24, lit_43, lit_48, lit_51, lit_57, lit_58, lit_59, lit_60, lit_61, lit_63, lit_77, lit_100, lit_140, lit_168, lit_200, lit_393, lit_400, lit_900, lit_969, lit_1000, lit_1041, lit_1045, lit_1093, lit_1168, lit_1200, lit_3279, lit_3333, lit_4372, lit_9999, nI_leE, Nat.le_refl, if_true]
  | succ n ih =>
    intro fuel k X hr h0 h1 h2
    obtain ⟨fuel, rfl⟩ : ∃ f, fuel = f + 1 := ⟨fuel - 1, by omega⟩
    have v := hr k (by omega)
    obtain ⟨V', q1, q2, q3, q4⟩ := ih fuel (k + 1) (sV X.1 1280 (upd (X.1 1280) k (nI (s k))), X.2) (hr.kept (by dsimp only; rw [sV_n (by omega)])) (fun i hi => by
      dsimp only
      rw [sV_s]
      by_cases c : i = k
      · rw [c, pk_us]
      · rw [pk_un c]; exact h0 i (by omega)) (by omega) (by omega)
    refine ⟨V', ?_, fun o ho ho2 => by rw [q2 o ho ho2]; exact sV_n ho, q3, by rw [q4]; dsimp only; rw [sV_n (by omega)]⟩
    simp (disch := first | assumption | omega) only [f_X8_keep_2, f_X8_keep_2_body, m_rm0, m_rm1, m_ld1279, m_st1280, zb2_s, zif_t, zopt_n, zopt_s, b_s, znm_e, lit_0, lit_1, lit_2, lit_3, lit_4, lit_5, lit_6, lit_7, lit_8, lit_9, lit_10, lit_11, lit_12, lit_13, lit_17, lit_20, lit_23, lit_24, lit_43, lit_48, lit_51, lit_57, lit_58, lit_59, lit_60, lit_61, lit_63, lit_77, lit_100, lit_140, lit_168, lit_200, lit_393, lit_400, lit_900, lit_969, lit_1000, lit_1041, lit_1045, lit_1093, lit_1168, lit_1200, lit_3279, lit_3333, lit_4372, lit_9999, nI_leE, nI_add, nI_mul, v, q1]
    rw [if_neg (by omega)]
theorem e8_keep {z : Nat} {X : pX} {s : Nat → Nat} (hr : RoC X.1 s) : ∃ V', f_X8_keep (z + 1278) (hp z X) = some (nI (s 0), hp z (V', X.2)) ∧ (∀ o, o ≠ 1280 → o ≠ 1278 → V' o = X.1 o) ∧ RoA 1280 V' s ∧ V' 1278 = upd (X.1 1278) 11 (nI 1) := by
  obtain ⟨V', q⟩ := e8_keepL (z := z) 1093 zN 0 X hr (fun i hi => by omega) rfl (zN_lt (by omega))
  exact ⟨V', by simp only [f_X8_keep, lit_0, lit_1, lit_2, lit_3, lit_4, lit_5, lit_6, lit_7, lit_8, lit_9, lit_10, lit_11, lit_12, lit_13, lit_17, lit_20, lit_23, lit_24, lit_43, lit_48, lit_51, lit_57, lit_58, lit_59, lit_60, lit_61, lit_63, lit_77, lit_100, lit_140, lit_168, lit_200, lit_393, lit_400, lit_900, lit_969, lit_1000, lit_1041, lit_1045, lit_1093, lit_1168, lit_1200, lit_3279, lit_3333, lit_4372, lit_9999, q.1], q.2⟩
theorem e8_rstL {z : Nat} {s : Nat → Nat} : ∀ (n fuel k : Nat) (X : pX), RoA 1280 X.1 s → (∀ i, i < k → X.1 1279 i = nI (s i)) → k + n = 1093 → n < fuel → ∃ V', f_X8_restore_16 fuel (z + 1278) (nI k) (hp z X) = some (nI (s 0), hp z (V', X.2)) ∧ (∀ o, o ≠ 1279 → V' o = X.1 o) ∧ RoC V' s := by
  intro n
  induction n with
  | zero =>
    intro fuel k X hr h0 h1 h2
    obtain ⟨fuel, rfl⟩ : ∃ f, fuel = f + 1 := ⟨fuel - 1, by omega⟩
    obtain rfl : k = 1093 := by omega
    have r0 := r_ld (z := z) (X := X) (s := s) h0 (i := 0) (by omega)
    refine ⟨X.1, ?_, fun _ _ => rfl, h0⟩
    simp (disch := first | assumption | omega) only [f_X8_restore_16, f_X8_restore_16_body, m_rm0, r0, zb2_s, zif_t, zopt_n, zopt_s, b_s, znm_e, lit_0, lit_1, lit_2, lit_3, lit_4, lit_5, lit_6, lit_7, lit_8, lit_9, lit_10, lit_11, lit_12, lit_13, lit_17, lit_20, lit_23, lit_24, lit_43, lit_48, lit_51, lit_57, lit_58, lit_59, lit_60, lit_61, lit_63, lit_77, lit_100, lit_140, lit_168, lit_200, lit_393, lit_400, lit_900, lit_969, lit_1000, lit_1041, lit_1045, lit_1093, lit_1168, lit_1200, lit_3279, lit_3333, lit_4372, lit_9999, nI_leE, Nat.le_refl, if_true]
  | succ n ih =>
    intro fuel k X hr h0 h1 h2
    obtain ⟨fuel, rfl⟩ : ∃ f, fuel = f + 1 := ⟨fuel - 1, by omega⟩
    have v := hr k (by omega)
    obtain ⟨V', q1, q2, q3⟩ := ih fuel (k + 1) (sV X.1 1279 (upd (X.1 1279) k (nI (s k))), X.2) (hr.kept (by dsimp only; rw [sV_n (by omega)])) (fun i hi => by
      dsimp only
      rw [sV_s]
      by_cases c : i = k
      · rw [c, pk_us]
      · rw [pk_un c]; exact h0 i (by omega)) (by omega) (by omega)
    refine ⟨V', ?_, fun o ho => by rw [q2 o ho]; exact sV_n ho, q3⟩
    simp (disch := first | assumption | omega) only [f_X8_restore_16, f_X8_restore_16_body, m_rm0, m_rm1, m_ld1280, m_st1279, zb2_s, zif_t, zopt_n, zopt_s, b_s, znm_e, lit_0, lit_1, lit_2, lit_3, lit_4, lit_5, lit_6, lit_7, lit_8, lit_9, lit_10, lit_11, lit_12, lit_13, lit_17, lit_20, lit_23, lit_24, lit_43, lit_48, lit_51, lit_57, lit_58, lit_59, lit_60, lit_61, lit_63, lit_77, lit_100, lit_140, lit_168, lit_200, lit_393, lit_400, lit_900, lit_969, lit_1000, lit_1041, lit_1045, lit_1093, lit_1168, lit_1200, lit_3279, lit_3333, lit_4372, lit_9999, nI_leE, nI_add, nI_mul, v, q1]
    rw [if_neg (by omega)]
/-- the reference's history -/
def HrC (V : pV) (L : List (Nat → Nat)) : Prop := V 1278 9 = nI L.length ∧ L.length ≤ 4 ∧ ∀ (i : Nat) (s : Nat → Nat), L[i]? = some s → ∀ j, j < 1093 → V 1282 (1093 * i + j) = nI (s j)
def recM (L : List (Nat → Nat)) (s : Nat → Nat) : List (Nat → Nat) := if L.length = 4 then L.tail ++ [s] else L ++ [s]
theorem e8_rec51 {z : Nat} {s : Nat → Nat} {L : List (Nat → Nat)} (hl : L.length < 4) : ∀ (n fuel k : Nat) (X : pX), RoC X.1 s → HrC X.1 L → (∀ i, i < k → X.1 1282 (1093 * L.length + i) = nI (s i)) → k + n = 1093 → n < fuel → ∃ V', f_X8_record_51 fuel (z + 1278) (nI k) (hp z X) = some (hp z (V', X.2)) ∧ (∀ o, o ≠ 1282 → o ≠ 1278 → V' o = X.1 o) ∧ (∀ i, i ≠ 9 → V' 1278 i = X.1 1278 i) ∧ HrC V' (L ++ [s]) := by
  intro n
  induction n with
  | zero =>
    intro fuel k X hr hH h0 h1 h2
    obtain ⟨fuel, rfl⟩ : ∃ f, fuel = f + 1 := ⟨fuel - 1, by omega⟩
    obtain rfl : k = 1093 := by omega
    have k9 := hH.1
    refine ⟨sV X.1 1278 (upd (X.1 1278) 9 (nI (L.length + 1))), ?_, fun o _ o2 => sV_n o2, fun i hi => by rw [sV_s, pk_un hi], by rw [sV_s, pk_us]; simp, by simp; omega, fun i s' hi j hj => ?_⟩
    · simp (disch := first | assumption | omega) only [f_X8_record_51, f_X8_record_51_body, m_gm9, m_pm9, zb2_s, zif_t, zopt_n, zopt_s, b_s, znm_e, lit_0, lit_1, lit_2, lit_3, lit_4, lit_5, lit_6, lit_7, lit_8, lit_9, lit_10, lit_11, lit_12, lit_13, lit_17, lit_20, lit_23, lit_24, lit_43, lit_48, lit_51, lit_57, lit_58, lit_59, lit_60, lit_61, lit_63, lit_77, lit_100, lit_140, lit_168, lit_200, lit_393, lit_400, lit_900, lit_969, lit_1000, lit_1041, lit_1045, lit_1093, lit_1168, lit_1200, lit_3279, lit_3333, lit_4372, lit_9999, nI_leE, Nat.le_refl, if_true, k9, nI_add]
    · rw [sV_n (by omega)]
      by_cases c : i = L.length
      · subst c
        simp at hi
        rw [← hi]; exact h0 j hj
      · have := getE_lt hi
        simp at this
        rw [List.getElem?_append_left (by omega)] at hi
        exact hH.2.2 i s' hi j hj
  | succ n ih =>
    intro fuel k X hr hH h0 h1 h2
    obtain ⟨fuel, rfl⟩ : ∃ f, fuel = f + 1 := ⟨fuel - 1, by omega⟩
    have v := hr k (by omega)
    have k9 := hH.1
    obtain ⟨V', q1, q2, q3, q4⟩ := ih fuel (k + 1) (sV X.1 1282 (upd (X.1 1282) (1093 * L.length + k) (nI (s k))), X.2) (hr.kept (by dsimp only; rw [sV_n (by omega)])) ⟨by dsimp only; rw [sV_n (by omega)]; exact k9, hH.2.1, fun i s' hi j hj => by
      have := getE_lt hi
      dsimp only
      rw [sV_s, pk_un (by omega)]; exact hH.2.2 i s' hi j hj⟩ (fun i hi => by
      dsimp only
      rw [sV_s]
      by_cases c : i = k
      · rw [c, pk_us]
      · rw [pk_un (by omega)]; exact h0 i (by omega)) (by omega) (by omega)
    refine ⟨V', ?_, fun o ho ho2 => by rw [q2 o ho ho2]; exact sV_n ho, fun i hi => by rw [q3 i hi]; dsimp only; rw [sV_n (by omega)], q4⟩
    simp (disch := first | assumption | omega) only [f_X8_record_51, f_X8_record_51_body, m_rm0, m_rm3, m_gm9, m_ld1279, m_st1282, zb2_s, zif_t, zopt_n, zopt_s, b_s, znm_e, lit_0, lit_1, lit_2, lit_3, lit_4, lit_5, lit_6, lit_7, lit_8, lit_9, lit_10, lit_11, lit_12, lit_13, lit_17, lit_20, lit_23, lit_24, lit_43, lit_48, lit_51, lit_57, lit_58, lit_59, lit_60, lit_61, lit_63, lit_77, lit_100, lit_140, lit_168, lit_200, lit_393, lit_400, lit_900, lit_969, lit_1000, lit_1041, lit_1045, lit_1093, lit_1168, lit_1200, lit_3279, lit_3333, lit_4372, lit_9999, nI_leE, nI_add, nI_mul, k9, v, q1]
    rw [if_neg (by omega)]
theorem e8_rec10 {z : Nat} {L : List (Nat → Nat)} (hl : L.length = 4) {f : Nat → Int32} : ∀ (n fuel k : Nat) (X : pX), (∀ i, i < k → X.1 1282 i = f (i + 1093)) → (∀ i, k ≤ i → X.1 1282 i = f i) → X.1 1278 9 = nI 4 → k + n = 3279 → n < fuel → ∃ V', f_X8_record_10 fuel (z + 1278) (nI k) (hp z X) = f_X8_record_49 (z + 1278) (hp z (V', X.2)) ∧ (∀ o, o ≠ 1282 → o ≠ 1278 → V' o = X.1 o) ∧ (∀ i, i ≠ 9 → V' 1278 i = X.1 1278 i) ∧ V' 1278 9 = nI 3 ∧ ∀ i, i < 3279 → V' 1282 i = f (i + 1093) := by
  intro n
  induction n with
  | zero =>
    intro fuel k X h0 h3 h9 h1 h2
    obtain ⟨fuel, rfl⟩ : ∃ f, fuel = f + 1 := ⟨fuel - 1, by omega⟩
    obtain rfl : k = 3279 := by omega
    have e : nI 4 - nI 1 = nI 3 := by decide
    refine ⟨sV X.1 1278 (upd (X.1 1278) 9 (nI 3)), ?_, fun o _ o2 => sV_n o2, fun i hi => by rw [sV_s, pk_un hi], by rw [sV_s, pk_us], fun i hi => by rw [sV_n (by omega)]; exact h0 i hi⟩
    simp (disch := first | assumption | omega) only [f_X8_record_10, f_X8_record_10_body, m_gm9, m_pm9, zb2_s, zif_t, zopt_n, zopt_s, b_s, znm_e, lit_0, lit_1, lit_2, lit_3, lit_4, lit_5, lit_6, lit_7, lit_8, lit_9, lit_10, lit_11, lit_12, lit_13, lit_17, lit_20, lit_23, lit_24, lit_43, lit_48, lit_51, lit_57, lit_58, lit_59, lit_60, lit_61, lit_63, lit_77, lit_100, lit_140, lit_168, lit_200, lit_393, lit_400, lit_900, lit_969, lit_1000, lit_1041, lit_1045, lit_1093, lit_1168, lit_1200, lit_3279, lit_3333, lit_4372, lit_9999, nI_leE, Nat.le_refl, if_true, h9, e]
  | succ n ih =>
    intro fuel k X h0 h3 h9 h1 h2
    obtain ⟨fuel, rfl⟩ : ∃ f, fuel = f + 1 := ⟨fuel - 1, by omega⟩
    have v := h3 (k + 1093) (by omega)
    obtain ⟨V', q1, q2, q3, q4, q5⟩ := ih fuel (k + 1) (sV X.1 1282 (upd (X.1 1282) k (f (k + 1093))), X.2) (fun i hi => by
      dsimp only
      rw [sV_s]
      by_cases c : i = k
      · rw [c, pk_us]
      · rw [pk_un c]; exact h0 i (by omega)) (fun i hi => by dsimp only; rw [sV_s, pk_un (by omega)]; exact h3 i (by omega)) (by dsimp only; rw [sV_n (by omega)]; exact h9) (by omega) (by omega)
    refine ⟨V', ?_, fun o ho ho2 => by rw [q2 o ho ho2]; exact sV_n ho, fun i hi => by rw [q3 i hi]; dsimp only; rw [sV_n (by omega)], q4, q5⟩
    simp (disch := first | assumption | omega) only [f_X8_record_10, f_X8_record_10_body, m_rm3, m_ld1282, m_st1282, zb2_s, zif_t, zopt_n, zopt_s, b_s, znm_e, lit_0, lit_1, lit_2, lit_3, lit_4, lit_5, lit_6, lit_7, lit_8, lit_9, lit_10, lit_11, lit_12, lit_13, lit_17, lit_20, lit_23, lit_24, lit_43, lit_48, lit_51, lit_57, lit_58, lit_59, lit_60, lit_61, lit_63, lit_77, lit_100, lit_140, lit_168, lit_200, lit_393, lit_400, lit_900, lit_969, lit_1000, lit_1041, lit_1045, lit_1093, lit_1168, lit_1200, lit_3279, lit_3333, lit_4372, lit_9999, nI_leE, nI_add, nI_mul, v, q1]
    rw [if_neg (by omega)]
theorem e8_record {z : Nat} {X : pX} {s : Nat → Nat} (hr : RoC X.1 s) {L : List (Nat → Nat)} (hH : HrC X.1 L) : ∃ V', f_X8_record (z + 1278) (hp z X) = some (hp z (V', X.2)) ∧ (∀ o, o ≠ 1282 → o ≠ 1278 → V' o = X.1 o) ∧ (∀ i, i ≠ 9 → V' 1278 i = X.1 1278 i) ∧ HrC V' (recM L s) := by
  have k9 := hH.1
  by_cases c : L.length = 4
  · rw [c] at k9
    obtain ⟨V1, p1, p2, p3, p4, p5⟩ := e8_rec10 (z := z) c (f := X.1 1282) 3279 zN 0 X (fun i hi => by omega) (fun _ _ => rfl) k9 rfl (zN_lt (by omega))
    have hT : HrC V1 L.tail := by
      refine ⟨by rw [p4]; simp [c], by simp; omega, fun i s' hi j hj => ?_⟩
      have := getE_lt hi
      simp at this
      rw [p5 _ (by omega)]
      rw [List.getElem?_tail] at hi
      have q := hH.2.2 (i + 1) s' hi j hj
      rw [show 1093 * i + j + 1093 = 1093 * (i + 1) + j by omega]
      exact q
    obtain ⟨V', q1, q2, q3, q4⟩ := e8_rec51 (z := z) (s := s) (L := L.tail) (by simp; omega) 1093 zN 0 (V1, X.2) (hr.kept (p2 _ (by omega) (by omega))) hT (fun i hi => by omega) rfl (zN_lt (by omega))
    refine ⟨V', ?_, fun o o1 o2 => by rw [q2 o o1 o2]; exact p2 o o1 o2, fun i hi => by rw [q3 i hi]; exact p3 i hi, ?_⟩
    · simp (disch := first | assumption | omega) only [f_X8_record, m_gm9, zb2_s, zif_t, zopt_n, zopt_s, b_s, znm_e, lit_0, lit_1, lit_2, lit_3, lit_4, lit_5, lit_6, lit_7, lit_8, lit_9, lit_10, lit_11, lit_12, lit_13, lit_17, lit_20, lit_23, lit_24, lit_43, lit_48, lit_51, lit_57, lit_58, lit_59, lit_60, lit_61, lit_63, lit_77, lit_100, lit_140, lit_168, lit_200, lit_393, lit_400, lit_900, lit_969, lit_1000, lit_1041, lit_1045, lit_1093, lit_1168, lit_1200, lit_3279, lit_3333, lit_4372, lit_9999, k9, if_true, p1, f_X8_record_49, q1]
    · unfold recM; rw [if_pos c]; exact q4
  · obtain ⟨V', q1, q2, q3, q4⟩ := e8_rec51 (z := z) (s := s) (L := L) (by have := hH.2.1; omega) 1093 zN 0 X hr hH (fun i hi => by omega) rfl (zN_lt (by omega))
    refine ⟨V', ?_, q2, q3, ?_⟩
    · have b := hH.2.1
      simp (disch := first | assumption | omega) only [f_X8_record, m_gm9, zb2_s, zif_t, zopt_n, zopt_s, b_s, znm_e, lit_0, lit_1, lit_2, lit_3, lit_4, lit_5, lit_6, lit_7, lit_8, lit_9, lit_10, lit_11, lit_12, lit_13, lit_17, lit_20, lit_23, lit_24, lit_43, lit_48, lit_51, lit_57, lit_58, lit_59, lit_60, lit_61, lit_63, lit_77, lit_100, lit_140, lit_168, lit_200, lit_393, lit_400, lit_900, lit_969, lit_1000, lit_1041, lit_1045, lit_1093, lit_1168, lit_1200, lit_3279, lit_3333, lit_4372, lit_9999, k9, nI_eqE, f_X8_record_49, q1]
      rw [if_neg c]
    · unfold recM; rw [if_neg c]; exact q4
theorem e8_undoL {z : Nat} {s : Nat → Nat} {L : List (Nat → Nat)} (hl : L.length < 4) : ∀ (n fuel k : Nat) (X : pX), (∀ j, j < 1093 → X.1 1282 (1093 * L.length + j) = nI (s j)) → X.1 1278 9 = nI L.length → (∀ i, i < k → X.1 1279 i = nI (s i)) → k + n = 1093 → n < fuel → ∃ V', f_X8_undo_22 fuel (z + 1278) (nI k) (hp z X) = some (nI L.length, hp z (V', X.2)) ∧ (∀ o, o ≠ 1279 → V' o = X.1 o) ∧ RoC V' s := by
  intro n
  induction n with
  | zero =>
    intro fuel k X hr h9 h0 h1 h2
    obtain ⟨fuel, rfl⟩ : ∃ f, fuel = f + 1 := ⟨fuel - 1, by omega⟩
    obtain rfl : k = 1093 := by omega
    refine ⟨X.1, ?_, fun _ _ => rfl, h0⟩
    simp (disch := first | assumption | omega) only [f_X8_undo_22, f_X8_undo_22_body, m_gm9, zb2_s, zif_t, zopt_n, zopt_s, b_s, znm_e, lit_0, lit_1, lit_2, lit_3, lit_4, lit_5, lit_6, lit_7, lit_8, lit_9, lit_10, lit_11, lit_12, lit_13, lit_17, lit_20, lit_23, lit_24, lit_43, lit_48, lit_51, lit_57, lit_58, lit_59, lit_60, lit_61, lit_63, lit_77, lit_100, lit_140, lit_168, lit_200, lit_393, lit_400, lit_900, lit_969, lit_1000, lit_1041, lit_1045, lit_1093, lit_1168, lit_1200, lit_3279, lit_3333, lit_4372, lit_9999, nI_leE, Nat.le_refl, if_true, h9]
  | succ n ih =>
    intro fuel k X hr h9 h0 h1 h2
    obtain ⟨fuel, rfl⟩ : ∃ f, fuel = f + 1 := ⟨fuel - 1, by omega⟩
    have v := hr k (by omega)
    obtain ⟨V', q1, q2, q3⟩ := ih fuel (k + 1) (sV X.1 1279 (upd (X.1 1279) k (nI (s k))), X.2) (fun j hj => by dsimp only; rw [sV_n (by omega)]; exact hr j hj) (by dsimp only; rw [sV_n (by omega)]; exact h9) (fun i hi => by
      dsimp only
      rw [sV_s]
      by_cases c : i = k
      · rw [c, pk_us]
      · rw [pk_un c]; exact h0 i (by omega)) (by omega) (by omega)
    refine ⟨V', ?_, fun o ho => by rw [q2 o ho]; exact sV_n ho, q3⟩
    simp (disch := first | assumption | omega) only [f_X8_undo_22, f_X8_undo_22_body, m_rm0, m_rm3, m_gm9, m_ld1282, m_st1279, zb2_s, zif_t, zopt_n, zopt_s, b_s, znm_e, lit_0, lit_1, lit_2, lit_3, lit_4, lit_5, lit_6, lit_7, lit_8, lit_9, lit_10, lit_11, lit_12, lit_13, lit_17, lit_20, lit_23, lit_24, lit_43, lit_48, lit_51, lit_57, lit_58, lit_59, lit_60, lit_61, lit_63, lit_77, lit_100, lit_140, lit_168, lit_200, lit_393, lit_400, lit_900, lit_969, lit_1000, lit_1041, lit_1045, lit_1093, lit_1168, lit_1200, lit_3279, lit_3333, lit_4372, lit_9999, nI_leE, nI_add, nI_mul, h9, v, q1]
    rw [if_neg (by omega)]
