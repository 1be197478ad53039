/-! a sailing is added -/
def setB (x : Int32) : Bool := decide (nI 1 ≤ x ∧ x ≤ nI 3333) && decide (x.toNatClampNeg % 10 ≤ 3 ∧ x.toNatClampNeg / 10 % 10 ≤ 3 ∧ x.toNatClampNeg / 10 / 10 % 10 ≤ 3 ∧ x.toNatClampNeg / 10 / 10 / 10 % 10 ≤ 3)
theorem setB_iff {v : Nat} (hv : v < 2 ^ 31) : setB (nI v) = true ↔ 1 ≤ v ∧ v ≤ 3333 ∧ v % 10 ≤ 3 ∧ v / 10 % 10 ≤ 3 ∧ v / 10 / 10 % 10 ≤ 3 ∧ v / 10 / 10 / 10 % 10 ≤ 3 := by
  unfold setB
  rw [Bool.and_eq_true, decide_eq_true_iff, decide_eq_true_iff, nI_clamp hv, nI_leI (by omega) hv, nI_leI hv (by omega)]
  constructor
  · rintro ⟨⟨a, b⟩, c⟩; exact ⟨a, b, c⟩
  · rintro ⟨a, b, c⟩; exact ⟨⟨a, b⟩, c⟩
theorem setB_ex {x : Int32} (h : setB x = true) : ∃ v, x = nI v ∧ v ≤ 3333 := by
  unfold setB at h
  rw [Bool.and_eq_true, decide_eq_true_iff] at h
  have h0 : ¬ x < 0 := fun q => by
    have a := Int32.le_iff_toInt_le.mp h.1.1
    have b := Int32.lt_iff_toInt_lt.mp q
    have c : (nI 1).toInt = 1 := by decide
    have d : (0 : Int32).toInt = 0 := by decide
    omega
  obtain ⟨v, hv, rfl⟩ := nI_of h0
  exact ⟨v, rfl, (nI_leI hv (by omega)).mp h.1.2⟩
def okD : Nat → Nat → Bool
  | 0, _ => true
  | n + 1, v => decide (v % 10 ≤ 3) && okD n (v / 10)
theorem e_isSetL (h : zHp) : ∀ (n fuel k v : Nat), k + n = 4 → n < fuel → v < 2 ^ 31 → f_X7_isSet_17 fuel (nI v) (nI k) h = some (bI (okD n v), h) := by
  intro n
  induction n with
  | zero =>
    intro fuel k v h1 h2 hv
    obtain ⟨fuel, rfl⟩ : ∃ f, fuel = f + 1 := ⟨fuel - 1, by omega⟩
    obtain rfl : k = 4 := by omega
    simp (disch := first | assumption | omega) only [f_X7_isSet_17, f_X7_isSet_17_body, zb2_s, zif_t, zopt_n, zopt_s, b_s, znm_e, lit_0, lit_1, lit_2, lit_3, lit_4, lit_5, lit_6, lit_7, lit_8, lit_9, lit_10, lit_11, lit_12, lit_13, lit_14, lit_15, lit_16, lit_17, lit_18, lit_20, lit_24, lit_26, lit_30, lit_40, lit_45, lit_46, lit_47, lit_48, lit_60, lit_63, lit_64, lit_77, lit_100, lit_140, lit_168, lit_200, lit_300, lit_400, lit_900, lit_1000, lit_1168, lit_1997, lit_3333, lit_9999, lit_10000, nI_leE, Nat.le_refl, if_true, zbool_1, okD, bI]
  | succ n ih =>
    intro fuel k v h1 h2 hv
    obtain ⟨fuel, rfl⟩ : ∃ f, fuel = f + 1 := ⟨fuel - 1, by omega⟩
    have d0 := zdiv_n (a := v) (b := 10) hv (by omega) (by omega)
    have r0 := zrem_n (a := v) (b := 10) hv (by omega) (by omega)
    have m0 : v % 10 < 2 ^ 31 := by omega
    have i1 := ih fuel (k + 1) (v / 10) (by omega) (by omega) (by omega)
    have hk : ¬ 4 ≤ k := by omega
    simp (disch := first | assumption | omega) only [f_X7_isSet_17, f_X7_isSet_17_body, zb2_s, zif_t, zopt_n, zopt_s, b_s, znm_e, lit_0, lit_1, lit_2, lit_3, lit_4, lit_5, lit_6, lit_7, lit_8, lit_9, lit_10, lit_11, lit_12, lit_13, lit_14, lit_15, lit_16, lit_17, lit_18, lit_20, lit_24, lit_26, lit_30, lit_40, lit_45, lit_46, lit_47, lit_48, lit_60, lit_63, lit_64, lit_77, lit_100, lit_140, lit_168, lit_200, lit_300, lit_400, lit_900, lit_1000, lit_1168, lit_1997, lit_3333, lit_9999, lit_10000, nI_leE, hk, if_false, d0, r0, nI_add, i1, zbool_0, okD]
    by_cases q : v % 10 ≤ 3
    · rw [if_pos q, decide_eq_true q, Bool.true_and]
    · rw [if_neg q, decide_eq_false q, Bool.false_and]; rfl
theorem okD_4 (v : Nat) : okD 4 v = decide (v % 10 ≤ 3 ∧ v / 10 % 10 ≤ 3 ∧ v / 10 / 10 % 10 ≤ 3 ∧ v / 10 / 10 / 10 % 10 ≤ 3) := by
  simp only [okD, Bool.and_true, Bool.decide_and]
theorem e_isSet (x : Int32) (h : zHp) : f_X7_isSet x h = some (bI (setB x), h) := by
  by_cases c : nI 1 ≤ x ∧ x ≤ nI 3333
  · have h0 : ¬ x < 0 := fun q => by
      have a := Int32.le_iff_toInt_le.mp c.1
      have b := Int32.lt_iff_toInt_lt.mp q
      have c : (nI 1).toInt = 1 := by decide
      have d : (0 : Int32).toInt = 0 := by decide
      omega
    obtain ⟨v, hv, rfl⟩ := nI_of h0
    have e : bI (decide (nI 1 ≤ nI v ∧ nI v ≤ nI 3333)) = nI 1 := bI_t (decide_eq_true c)
    have g := e_isSetL h 4 zN 0 v rfl (zN_lt (by omega)) hv
    rw [okD_4] at g
    have e2 : setB (nI v) = decide (v % 10 ≤ 3 ∧ v / 10 % 10 ≤ 3 ∧ v / 10 / 10 % 10 ≤ 3 ∧ v / 10 / 10 / 10 % 10 ≤ 3) := by
      unfold setB; rw [decide_eq_true c, Bool.true_and, nI_clamp hv]
    rw [e2]
    simp only [f_X7_isSet, e_isWithin, zb2_s, zif_t, zopt_n, zopt_s, b_s, znm_e, lit_0, lit_1, lit_2, lit_3, lit_4, lit_5, lit_6, lit_7, lit_8, lit_9, lit_10, lit_11, lit_12, lit_13, lit_14, lit_15, lit_16, lit_17, lit_18, lit_20, lit_24, lit_26, lit_30, lit_40, lit_45, lit_46, lit_47, lit_48, lit_60, lit_63, lit_64, lit_77, lit_100, lit_140, lit_168, lit_200, lit_300, lit_400, lit_900, lit_1000, lit_1168, lit_1997, lit_3333, lit_9999, lit_10000, e, nI_10, if_false, g]
  · have e : setB x = false := by unfold setB; rw [decide_eq_false c, Bool.false_and]
    have e2 : bI (decide (nI 1 ≤ x ∧ x ≤ nI 3333)) = nI 0 := bI_f (decide_eq_false c)
    rw [bI_f e]
    simp only [f_X7_isSet, e_isWithin, lit_0, lit_1, lit_2, lit_3, lit_4, lit_5, lit_6, lit_7, lit_8, lit_9, lit_10, lit_11, lit_12, lit_13, lit_14, lit_15, lit_16, lit_17, lit_18, lit_20, lit_24, lit_26, lit_30, lit_40, lit_45, lit_46, lit_47, lit_48, lit_60, lit_63, lit_64, lit_77, lit_100, lit_140, lit_168, lit_200, lit_300, lit_400, lit_900, lit_1000, lit_1168, lit_1997, lit_3333, lit_9999, lit_10000, e2, zb2_s, zif_t, zopt_n, zopt_s, b_s, znm_e, if_true, zbool_0]
/-- the same ferry sails then -/
def ocB (u : Nat → Nat → Nat) (f a b : Int32) (r : Nat) : Bool := decide ((u r 5 = 0 ∨ u r 5 = 1) ∧ nI (u r 1) = f ∧ nI (u r 2) < b ∧ a < nI (u r 3))
def refI (s : Nat → Nat) (u : Nat → Nat → Nat) (f st h v : Int32) : Int32 :=
  if ¬ (nI 0 ≤ f ∧ f ≤ nI 5) then -nI 1 else if ¬ ((nI (s 0) ≤ st ∧ st ≤ nI 900) ∧ (nI 1 ≤ h ∧ h ≤ nI 12) ∧ setB v = true) then -nI 2 else if oA (ocB u f st (st + h)) 0 48 = true then -nI 4 else if s 1 < 48 then nI 0 else -nI 3
theorem e_refL {z : Nat} {X : pX} {B : Nat} (hb : isB B) {s : Nat → Nat} {u : Nat → Nat → Nat} {ls : Nat → List Nat} (hS : StC X B s u ls) (f st h : Int32) : ∀ (n fuel k : Nat), k + n = 48 → n < fuel → f_X5_refusalOf_60 fuel (z + B) f st h (z + (B + 2)) (nI 48) (nI k) (hp z X) = some (if oA (ocB u f st (st + h)) k n = true then -nI 4 else if s 1 < 48 then nI 0 else -nI 3, hp z X) := by
  intro n
  obtain ⟨hw, hR, hU, hG, hL⟩ := hS
  induction n with
  | zero =>
    intro fuel k h1 h2
    obtain ⟨fuel, rfl⟩ : ∃ f, fuel = f + 1 := ⟨fuel - 1, by omega⟩
    obtain rfl : k = 48 := by omega
    have s1 : X.1 B 3 = nI (s 1) := hR.1.2.1
    have b1 := hG.2.1
    simp (disch := first | assumption | omega) only [f_X5_refusalOf_60, f_X5_refusalOf_60_body, m_gO3, zb2_s, zif_t, zopt_n, zopt_s, b_s, znm_e, lit_0, lit_1, lit_2, lit_3, lit_4, lit_5, lit_6, lit_7, lit_8, lit_9, lit_10, lit_11, lit_12, lit_13, lit_14, lit_15, lit_16, lit_17, lit_18, lit_20, lit_24, lit_26, lit_30, lit_40, lit_45, lit_46, lit_47, lit_48, lit_60, lit_63, lit_64, lit_77, lit_100, lit_140, lit_168, lit_200, lit_300, lit_400, lit_900, lit_1000, lit_1168, lit_1997, lit_3333, lit_9999, lit_10000, nI_leE, nI_ltE, Nat.le_refl, if_true, s1]
    rw [if_neg (show ¬ oA (ocB u f st (st + h)) 48 0 = true from Bool.false_ne_true)]
    split <;> rfl
  | succ n ih =>
    intro fuel k h1 h2
    obtain ⟨fuel, rfl⟩ : ∃ f, fuel = f + 1 := ⟨fuel - 1, by omega⟩
    have hw1 := hw.1 k (by omega)
    have hs := hR.2.1 k (by omega)
    have hK := (hU k (by omega)).1
    have g := e_occupies (z := z) hb hw1 hs hK.1 f st (st + h)
    have i1 := ih fuel (k + 1) (by omega) (by omega)
    have hk : ¬ 48 ≤ k := by omega
    simp (disch := first | assumption | omega) only [f_X5_refusalOf_60, f_X5_refusalOf_60_body, m_ldS, m_iS, zb2_s, zif_t, zopt_n, zopt_s, b_s, znm_e, lit_0, lit_1, lit_2, lit_3, lit_4, lit_5, lit_6, lit_7, lit_8, lit_9, lit_10, lit_11, lit_12, lit_13, lit_14, lit_15, lit_16, lit_17, lit_18, lit_20, lit_24, lit_26, lit_30, lit_40, lit_45, lit_46, lit_47, lit_48, lit_60, lit_63, lit_64, lit_77, lit_100, lit_140, lit_168, lit_200, lit_300, lit_400, lit_900, lit_1000, lit_1168, lit_1997, lit_3333, lit_9999, lit_10000, nI_leE, hk, if_false, g, bI_0, nI_add, i1]
    by_cases c : (u k 5 = 0 ∨ u k 5 = 1) ∧ nI (u k 1) = f ∧ nI (u k 2) < st + h ∧ st < nI (u k 3)
    · rw [if_neg (by simp [c]), oA_t (decide_eq_true c), if_pos rfl]
    · rw [if_pos (decide_eq_false c), oA_f (decide_eq_false c)]
theorem e_refusal {z : Nat} {X : pX} {B : Nat} (hb : isB B) {s : Nat → Nat} {u : Nat → Nat → Nat} {ls : Nat → List Nat} (hS : StC X B s u ls) (f st h v : Int32) : f_X5_refusalOf (z + B) f st h v (hp z X) = some (refI s u f st h v, hp z X) := by
  have s0 : X.1 B 2 = nI (s 0) := hS.2.1.1.1
  have g := e_refL (z := z) hb hS f st h 48 zN 0 rfl (zN_lt (by omega))
  unfold refI
  by_cases c1 : nI 0 ≤ f ∧ f ≤ nI 5
  · rw [if_neg (fun q => q c1)]
    have c1' := bI_t (decide_eq_true c1)
    by_cases c2 : nI (s 0) ≤ st ∧ st ≤ nI 900
    · have c2' := bI_t (decide_eq_true c2)
      by_cases c3 : nI 1 ≤ h ∧ h ≤ nI 12
      · have c3' := bI_t (decide_eq_true c3)
        cases c4 : setB v
        · rw [if_pos (fun q => absurd q.2.2 (by decide))]
          simp (disch := first | assumption | omega) only [f_X5_refusalOf, m_gO2, m_rO5, m_lnS, e_isWithin, e_isSet, zb2_s, zif_t, zopt_n, zopt_s, b_s, znm_e, lit_0, lit_1, lit_2, lit_3, lit_4, lit_5, lit_6, lit_7, lit_8, lit_9, lit_10, lit_11, lit_12, lit_13, lit_14, lit_15, lit_16, lit_17, lit_18, lit_20, lit_24, lit_26, lit_30, lit_40, lit_45, lit_46, lit_47, lit_48, lit_60, lit_63, lit_64, lit_77, lit_100, lit_140, lit_168, lit_200, lit_300, lit_400, lit_900, lit_1000, lit_1168, lit_1997, lit_3333, lit_9999, lit_10000, s0, c1', c2', c3', bI_f c4, nI_10, if_false, if_true]
        · rw [if_neg (fun q => q ⟨c2, c3, rfl⟩)]
          simp (disch := first | assumption | omega) only [f_X5_refusalOf, m_gO2, m_rO5, m_lnS, e_isWithin, e_isSet, zb2_s, zif_t, zopt_n, zopt_s, b_s, znm_e, lit_0, lit_1, lit_2, lit_3, lit_4, lit_5, lit_6, lit_7, lit_8, lit_9, lit_10, lit_11, lit_12, lit_13, lit_14, lit_15, lit_16, lit_17, lit_18, lit_20, lit_24, lit_26, lit_30, lit_40, lit_45, lit_46, lit_47, lit_48, lit_60, lit_63, lit_64, lit_77, lit_100, lit_140, lit_168, lit_200, lit_300, lit_400, lit_900, lit_1000, lit_1168, lit_1997, lit_3333, lit_9999, lit_10000, s0, c1', c2', c3', bI_t c4, nI_10, if_false, if_true, g]
      · have c3' := bI_f (decide_eq_false c3)
        rw [if_pos (fun q => c3 q.2.1)]
        simp (disch := first | assumption | omega) only [f_X5_refusalOf, m_gO2, m_rO5, m_lnS, e_isWithin, e_isSet, zb2_s, zif_t, zopt_n, zopt_s, b_s, znm_e, lit_0, lit_1, lit_2, lit_3, lit_4, lit_5, lit_6, lit_7, lit_8, lit_9, lit_10, lit_11, lit_12, lit_13, lit_14, lit_15, lit_16, lit_17, lit_18, lit_20, lit_24, lit_26, lit_30, lit_40, lit_45, lit_46, lit_47, lit_48, lit_60, lit_63, lit_64, lit_77, lit_100, lit_140, lit_168, lit_200, lit_300, lit_400, lit_900, lit_1000, lit_1168, lit_1997, lit_3333, lit_9999, lit_10000, s0, c1', c2', c3', nI_10, if_false, if_true]
    · have c2' := bI_f (decide_eq_false c2)
      rw [if_pos (fun q => c2 q.1)]
      simp (disch := first | assumption | omega) only [f_X5_refusalOf, m_gO2, m_rO5, m_lnS, e_isWithin, e_isSet, zb2_s, zif_t, zopt_n, zopt_s, b_s, znm_e, lit_0, lit_1, lit_2, lit_3, lit_4, lit_5, lit_6, lit_7, lit_8, lit_9, lit_10, lit_11, lit_12, lit_13, lit_14, lit_15, lit_16, lit_17, lit_18, lit_20, lit_24, lit_26, lit_30, lit_40, lit_45, lit_46, lit_47, lit_48, lit_60, lit_63, lit_64, lit_77, lit_100, lit_140, lit_168, lit_200, lit_300, lit_400, lit_900, lit_1000, lit_1168, lit_1997, lit_3333, lit_9999, lit_10000, s0, c1', c2', nI_10, if_false, if_true]
  · have c1' := bI_f (decide_eq_false c1)
    rw [if_pos c1]
    simp (disch := first | assumption | omega) only [f_X5_refusalOf, m_gO2, m_rO5, m_lnS, e_isWithin, e_isSet, zb2_s, zif_t, zopt_n, zopt_s, b_s, znm_e, lit_0, lit_1, lit_2, lit_3, lit_4, lit_5, lit_6, lit_7, lit_8, lit_9, lit_10, lit_11, lit_12, lit_13, lit_14, lit_15, lit_16, lit_17, lit_18, lit_20, lit_24, lit_26, lit_30, lit_40, lit_45, lit_46, lit_47, lit_48, lit_60, lit_63, lit_64, lit_77, lit_100, lit_140, lit_168, lit_200, lit_300, lit_400, lit_900, lit_1000, lit_1168, lit_1997, lit_3333, lit_9999, lit_10000, s0, c1', if_true]
/-- a sailing that came -/
def dgt (v : Nat) : Nat → Nat
  | 0 => v / 10 / 10 / 10 % 10
  | 1 => v / 10 / 10 % 10
  | 2 => v / 10 % 10
  | _ => v % 10
def newR (n f st h v : Nat) : Nat → Nat
  | 0 => n
  | 1 => f
  | 2 => st
  | 3 => st + h
  | 4 => v
  | 5 => 0
  | 10 => dgt v 0
  | 11 => dgt v 1
  | 12 => dgt v 2
  | 13 => dgt v 3
  | _ => 0
theorem newR_20 {n f st h v i : Nat} (hi : 14 ≤ i) : newR n f st h v i = 0 := by
  obtain ⟨k, rfl⟩ : ∃ k, i = k + 14 := ⟨i - 14, by omega⟩
  rfl
theorem e_come {z : Nat} {X : pX} {B j : Nat} (hb : isB B) (hj : j < 48) {n f st h v : Nat} (hv : v < 100000) (h0 : ∀ m, m < 12 → X.1 (B + (7 + 3 * j)) m = rl 0) : ∃ V', f_X4_come (z + (B + (5 + 3 * j))) (nI n) (nI f) (nI st) (nI h) (nI v) (hp z X) = some (hp z (V', X.2)) ∧ (∀ o, o ≠ B + (5 + 3 * j) → o ≠ B + (6 + 3 * j) → V' o = X.1 o) ∧ SaC V' B j (newR n f st h v) := by
  obtain ⟨fuel, hfu⟩ : ∃ f, zN = f + 5 := ⟨zN - 5, by have := zN_eq; omega⟩
  have d0 := zdiv_n (a := v) (b := 10) (by omega) (by omega) (by omega)
  have d1 := zdiv_n (a := v / 10) (b := 10) (by omega) (by omega) (by omega)
  have d2 := zdiv_n (a := v / 10 / 10) (b := 10) (by omega) (by omega) (by omega)
  have d3 := zdiv_n (a := v / 10 / 10 / 10) (b := 10) (by omega) (by omega) (by omega)
  have r0 := zrem_n (a := v) (b := 10) (by omega) (by omega) (by omega)
  have r1 := zrem_n (a := v / 10) (b := 10) (by omega) (by omega) (by omega)
  have r2 := zrem_n (a := v / 10 / 10) (b := 10) (by omega) (by omega) (by omega)
  have r3 := zrem_n (a := v / 10 / 10 / 10) (b := 10) (by omega) (by omega) (by omega)
  have p3 : ¬ nI 3 < nI 0 := by decide
  have p2 : ¬ nI 2 < nI 0 := by decide
  have p1 : ¬ nI 1 < nI 0 := by decide
  have p0 : ¬ nI 0 < nI 0 := by decide
  have pm : nI 0 + -nI 1 < nI 0 := by decide
  have q3 : nI 3 + -nI 1 = nI 2 := by decide
  have q2 : nI 2 + -nI 1 = nI 1 := by decide
  have q1 : nI 1 + -nI 1 = nI 0 := by decide
  refine ⟨_, by
    unfold f_X4_come
    rw [hfu]
    simp (disch := first | assumption | omega) only [f_X4_come_41, f_X4_come_41_body, m_pS0, m_pS1, m_pS2, m_pS3, m_pS4, m_pS5, m_rS7, m_stP, zb2_s, zif_t, zopt_n, zopt_s, b_s, znm_e, lit_0, lit_1, lit_2, lit_3, lit_4, lit_5, lit_6, lit_7, lit_8, lit_9, lit_10, lit_11, lit_12, lit_13, lit_14, lit_15, lit_16, lit_17, lit_18, lit_20, lit_24, lit_26, lit_30, lit_40, lit_45, lit_46, lit_47, lit_48, lit_60, lit_63, lit_64, lit_77, lit_100, lit_140, lit_168, lit_200, lit_300, lit_400, lit_900, lit_1000, lit_1168, lit_1997, lit_3333, lit_9999, lit_10000, nI_add, p3, p2, p1, p0, pm, q3, q2, q1, if_false, if_true, d0, d1, d2, d3, r0, r1, r2, r3, sV_s, sV_n, sV_sV]
    rfl, ?_, ?_⟩
  · intro o o1 o2
    rw [sV_n (by omega), sV_n (by omega)]
  · refine ⟨fun i hi => ?_, fun q hq => ?_, fun m hm => ?_⟩
    · rw [sV_n (by omega), sV_s]
      rcases (show i = 0 ∨ i = 1 ∨ i = 2 ∨ i = 3 ∨ i = 4 ∨ i = 5 by omega) with rfl | rfl | rfl | rfl | rfl | rfl <;> simp [upd, newR]
    · rw [sV_s]
      rcases (show q = 0 ∨ q = 1 ∨ q = 2 ∨ q = 3 by omega) with rfl | rfl | rfl | rfl <;> simp [upd, newR, dgt]
    · rw [sV_n (by omega), sV_n (by omega), h0 m hm, newR_20 (by omega)]
