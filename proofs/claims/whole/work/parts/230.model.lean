/-! the reference: its row, its numbers -/
def RoC (V : pV) (s : Nat → Nat) : Prop := ∀ i, i < 1093 → V 1279 i = nI (s i)
/-- what the numbers of a row may be -/
def RB (s : Nat → Nat) : Prop := SG s ∧ (∀ k, k < 48 → s (9 + 8 * k + 0) ≤ 2 ∧ s (9 + 8 * k + 1) < 6 ∧ s (9 + 8 * k + 2) ≤ 900 ∧ s (9 + 8 * k + 3) ≤ 12 ∧ s (9 + 8 * k + 4) ≤ 3 ∧ s (9 + 8 * k + 5) ≤ 3 ∧ s (9 + 8 * k + 6) ≤ 3 ∧ s (9 + 8 * k + 7) ≤ 3) ∧ (∀ k, k < 48 → ∀ m, m < 12 → s (393 + 12 * k + m) ≤ 4) ∧ ∀ q, q < 4 → s (1041 + q) ≤ 12 ∧ ∀ i, i < 12 → s (1045 + 12 * q + i) < 12
/-- a sailing's record, by its number -/
def recS (s : Nat → Nat) (k : Nat) : Nat → Nat
  | 0 => k
  | 1 => s (9 + 8 * k + 1)
  | 2 => s (9 + 8 * k + 2)
  | 3 => s (9 + 8 * k + 2) + s (9 + 8 * k + 3)
  | 4 => 1000 * s (9 + 8 * k + 4) + 100 * s (9 + 8 * k + 5) + 10 * s (9 + 8 * k + 6) + s (9 + 8 * k + 7)
  | 5 => s (9 + 8 * k + 0)
  | 10 => s (9 + 8 * k + 4)
  | 11 => s (9 + 8 * k + 5)
  | 12 => s (9 + 8 * k + 6)
  | 13 => s (9 + 8 * k + 7)
  | i => if 20 ≤ i ∧ i < 32 then s (393 + 12 * k + (i - 20)) else 0
theorem recS_20 {s : Nat → Nat} {k m : Nat} (hm : m < 12) : recS s k (20 + m) = s (393 + 12 * k + m) := by
  obtain ⟨i, hi⟩ : ∃ i, i = 20 + m := ⟨_, rfl⟩
  rw [← hi]
  have : recS s k i = if 20 ≤ i ∧ i < 32 then s (393 + 12 * k + (i - 20)) else 0 := by
    obtain ⟨j, rfl⟩ : ∃ j, i = j + 14 := ⟨i - 14, by omega⟩
    rfl
  rw [this, if_pos (by omega), show i - 20 = m by omega]
theorem recS_10 {s : Nat → Nat} {k q : Nat} (hq : q < 4) : recS s k (10 + q) = s (9 + 8 * k + (4 + q)) := by
  rcases (show q = 0 ∨ q = 1 ∨ q = 2 ∨ q = 3 by omega) with rfl | rfl | rfl | rfl <;> rfl
theorem r_ld {z : Nat} {X : pX} {s : Nat → Nat} (hr : RoC X.1 s) {i : Nat} (hi : i < 1093) : zld (hp z X) (z + 1279) 0 (nI i) = some (nI (s i)) := by
  rw [m_ld1279 hi, hr i hi]
theorem RoC.st {V : pV} {s : Nat → Nat} (hr : RoC V s) (i v : Nat) : RoC (sV V 1279 (upd (V 1279) i (nI v))) (updN s i v) := by
  intro j hj
  rw [sV_s]
  by_cases c : j = i
  · rw [c, pk_us, updN_s]
  · rw [pk_un c, updN_n c]; exact hr j hj
theorem RoC.kept {V V' : pV} {s : Nat → Nat} (hr : RoC V s) (h : V' 1279 = V 1279) : RoC V' s := by
  intro i hi; rw [h]; exact hr i hi
theorem e8_in (x a b : Int32) (h : zHp) : f_X8_in x a b h = some (bI (decide (a ≤ x ∧ x ≤ b)), h) := by
  simp only [f_X8_in_14, f_X8_in, lit_0, lit_1, lit_2, lit_3, lit_4, lit_5, lit_6, lit_7, lit_8, lit_9, lit_10, lit_11, lit_12, lit_13, lit_17, lit_20, lit_23, lit_24, lit_43, lit_48, lit_51, lit_57, lit_58, lit_59, lit_60, lit_61, lit_63, lit_77, lit_100, lit_140, lit_168, lit_200, lit_393, lit_400, lit_900, lit_969, lit_1000, lit_1041, lit_1045, lit_1093, lit_1168, lit_1200, lit_3279, lit_3333, lit_4372, lit_9999, zbool_0, zbool_1]
  by_cases h1 : x < a
  · rw [if_pos h1, bI_f (decide_eq_false (fun q => Int32.not_le.mpr h1 q.1))]
  · rw [if_neg h1]
    by_cases h2 : b < x
    · rw [if_pos h2, bI_f (decide_eq_false (fun q => Int32.not_le.mpr h2 q.2))]
    · rw [if_neg h2, bI_t (decide_eq_true ⟨Int32.not_lt.mp h1, Int32.not_lt.mp h2⟩)]
theorem le_rl {x : Int32} {p : Nat} (hp : p < 100000) : (x ≤ rl p) = (x < nI p) := by
  have t := rl_toInt hp
  have t2 := nI_toInt (n := p) (by omega)
  refine propext ⟨fun q => Int32.lt_iff_toInt_lt.mpr ?_, fun q => Int32.le_iff_toInt_le.mpr ?_⟩
  · have q := Int32.le_iff_toInt_le.mp q
    omega
  · have q := Int32.lt_iff_toInt_lt.mp q
    omega
theorem le_3 {x : Int32} : (x ≤ nI 3) = (x < nI 4) := le_rl (p := 4) (by omega)
theorem e8_isSail {z : Nat} {X : pX} {s : Nat → Nat} (hr : RoC X.1 s) (hB : RB s) (x : Int32) : f_X8_isSailing (z + 1278) x (hp z X) = some (bI (decide (nI 0 ≤ x ∧ x < nI (s 1))), hp z X) := by
  have b := hB.1.2.1
  have e := le_rl (x := x) (p := s 1) (by omega)
  simp (disch := first | assumption | omega) only [f_X8_isSailing, m_rm0, r_ld hr, e8_in, zb2_s, zif_t, zopt_n, zopt_s, b_s, znm_e, lit_0, lit_1, lit_2, lit_3, lit_4, lit_5, lit_6, lit_7, lit_8, lit_9, lit_10, lit_11, lit_12, lit_13, lit_17, lit_20, lit_23, lit_24, lit_43, lit_48, lit_51, lit_57, lit_58, lit_59, lit_60, lit_61, lit_63, lit_77, lit_100, lit_140, lit_168, lit_200, lit_393, lit_400, lit_900, lit_969, lit_1000, lit_1041, lit_1045, lit_1093, lit_1168, lit_1200, lit_3279, lit_3333, lit_4372, lit_9999, rl_d, e, zbool_b]
theorem e8_isMem {z : Nat} {X : pX} {s : Nat → Nat} (hr : RoC X.1 s) (hB : RB s) (x : Int32) : f_X8_isMember (z + 1278) x (hp z X) = some (bI (decide (nI 0 ≤ x ∧ x < nI (s 2))), hp z X) := by
  have b := hB.1.2.2.1
  have e := le_rl (x := x) (p := s 2) (by omega)
  simp (disch := first | assumption | omega) only [f_X8_isMember, m_rm0, r_ld hr, e8_in, zb2_s, zif_t, zopt_n, zopt_s, b_s, znm_e, lit_0, lit_1, lit_2, lit_3, lit_4, lit_5, lit_6, lit_7, lit_8, lit_9, lit_10, lit_11, lit_12, lit_13, lit_17, lit_20, lit_23, lit_24, lit_43, lit_48, lit_51, lit_57, lit_58, lit_59, lit_60, lit_61, lit_63, lit_77, lit_100, lit_140, lit_168, lit_200, lit_393, lit_400, lit_900, lit_969, lit_1000, lit_1041, lit_1045, lit_1093, lit_1168, lit_1200, lit_3279, lit_3333, lit_4372, lit_9999, rl_d, e, zbool_b]
theorem e8_isRole (x : Int32) (h : zHp) : f_X8_isRole x h = some (bI (decide (nI 0 ≤ x ∧ x < nI 4)), h) := by
  have e := le_3 (x := x)
  simp only [f_X8_isRole, e8_in, zb2_s, zif_t, zopt_n, zopt_s, b_s, znm_e, lit_0, lit_1, lit_2, lit_3, lit_4, lit_5, lit_6, lit_7, lit_8, lit_9, lit_10, lit_11, lit_12, lit_13, lit_17, lit_20, lit_23, lit_24, lit_43, lit_48, lit_51, lit_57, lit_58, lit_59, lit_60, lit_61, lit_63, lit_77, lit_100, lit_140, lit_168, lit_200, lit_393, lit_400, lit_900, lit_969, lit_1000, lit_1041, lit_1045, lit_1093, lit_1168, lit_1200, lit_3279, lit_3333, lit_4372, lit_9999, e, zbool_b]
theorem e8_of {z : Nat} {X : pX} {s : Nat → Nat} (hr : RoC X.1 s) {k w : Nat} (hk : k < 48) (hw : w < 8) : f_X8_of (z + 1278) (nI k) (nI w) (hp z X) = some (nI (s (9 + 8 * k + w)), hp z X) := by
  simp (disch := first | assumption | omega) only [f_X8_of, m_rm0, r_ld hr, zb2_s, zif_t, zopt_n, zopt_s, b_s, znm_e, lit_0, lit_1, lit_2, lit_3, lit_4, lit_5, lit_6, lit_7, lit_8, lit_9, lit_10, lit_11, lit_12, lit_13, lit_17, lit_20, lit_23, lit_24, lit_43, lit_48, lit_51, lit_57, lit_58, lit_59, lit_60, lit_61, lit_63, lit_77, lit_100, lit_140, lit_168, lit_200, lit_393, lit_400, lit_900, lit_969, lit_1000, lit_1041, lit_1045, lit_1093, lit_1168, lit_1200, lit_3279, lit_3333, lit_4372, lit_9999, nI_add, nI_mul]
theorem e8_place {z : Nat} {X : pX} {s : Nat → Nat} (hr : RoC X.1 s) {k m : Nat} (hk : k < 48) (hm : m < 12) : f_X8_placeOf (z + 1278) (nI k) (nI m) (hp z X) = some (nI (s (393 + 12 * k + m)), hp z X) := by
  simp (disch := first | assumption | omega) only [f_X8_placeOf, m_rm0, r_ld hr, zb2_s, zif_t, zopt_n, zopt_s, b_s, znm_e, lit_0, lit_1, lit_2, lit_3, lit_4, lit_5, lit_6, lit_7, lit_8, lit_9, lit_10, lit_11, lit_12, lit_13, lit_17, lit_20, lit_23, lit_24, lit_43, lit_48, lit_51, lit_57, lit_58, lit_59, lit_60, lit_61, lit_63, lit_77, lit_100, lit_140, lit_168, lit_200, lit_393, lit_400, lit_900, lit_969, lit_1000, lit_1041, lit_1045, lit_1093, lit_1168, lit_1200, lit_3279, lit_3333, lit_4372, lit_9999, nI_add, nI_mul]
theorem e8_has {z : Nat} {X : pX} {s : Nat → Nat} (hr : RoC X.1 s) {m w : Nat} (hm : m < 12) (hw : w < 6) : f_X8_has (z + 1278) (nI m) (nI w) (hp z X) = some (nI (s (969 + 6 * m + w)), hp z X) := by
  simp (disch := first | assumption | omega) only [f_X8_has, m_rm0, r_ld hr, zb2_s, zif_t, zopt_n, zopt_s, b_s, znm_e, lit_0, lit_1, lit_2, lit_3, lit_4, lit_5, lit_6, lit_7, lit_8, lit_9, lit_10, lit_11, lit_12, lit_13, lit_17, lit_20, lit_23, lit_24, lit_43, lit_48, lit_51, lit_57, lit_58, lit_59, lit_60, lit_61, lit_63, lit_77, lit_100, lit_140, lit_168, lit_200, lit_393, lit_400, lit_900, lit_969, lit_1000, lit_1041, lit_1045, lit_1093, lit_1168, lit_1200, lit_3279, lit_3333, lit_4372, lit_9999, nI_add, nI_mul]
theorem e8_put {z : Nat} {X : pX} {k w : Nat} (hk : k < 48) (hw : w < 8) (v : Int32) : f_X8_put (z + 1278) (nI k) (nI w) v (hp z X) = some (hp z (sV X.1 1279 (upd (X.1 1279) (9 + 8 * k + w) v), X.2)) := by
  simp (disch := first | assumption | omega) only [f_X8_put, m_rm0, m_st1279, zb2_s, zif_t, zopt_n, zopt_s, b_s, znm_e, lit_0, lit_1, lit_2, lit_3, lit_4, lit_5, lit_6, lit_7, lit_8, lit_9, lit_10, lit_11, lit_12, lit_13, lit_17, lit_20, lit_23, lit_24, lit_43, lit_48, lit_51, lit_57, lit_58, lit_59, lit_60, lit_61, lit_63, lit_77, lit_100, lit_140, lit_168, lit_200, lit_393, lit_400, lit_900, lit_969, lit_1000, lit_1041, lit_1045, lit_1093, lit_1168, lit_1200, lit_3279, lit_3333, lit_4372, lit_9999, nI_add, nI_mul]
theorem e8_setPl {z : Nat} {X : pX} {k m : Nat} (hk : k < 48) (hm : m < 12) (v : Int32) : f_X8_setPlace (z + 1278) (nI k) (nI m) v (hp z X) = some (hp z (sV X.1 1279 (upd (X.1 1279) (393 + 12 * k + m) v), X.2)) := by
  simp (disch := first | assumption | omega) only [f_X8_setPlace, m_rm0, m_st1279, zb2_s, zif_t, zopt_n, zopt_s, b_s, znm_e, lit_0, lit_1, lit_2, lit_3, lit_4, lit_5, lit_6, lit_7, lit_8, lit_9, lit_10, lit_11, lit_12, lit_13, lit_17, lit_20, lit_23, lit_24, lit_43, lit_48, lit_51, lit_57, lit_58, lit_59, lit_60, lit_61, lit_63, lit_77, lit_100, lit_140, lit_168, lit_200, lit_393, lit_400, lit_900, lit_969, lit_1000, lit_1041, lit_1045, lit_1093, lit_1168, lit_1200, lit_3279, lit_3333, lit_4372, lit_9999, nI_add, nI_mul]
theorem e8_note {z : Nat} {X : pX} {m w : Nat} (hm : m < 12) (hw : w < 6) (v : Int32) : f_X8_note (z + 1278) (nI m) (nI w) v (hp z X) = some (hp z (sV X.1 1279 (upd (X.1 1279) (969 + 6 * m + w) v), X.2)) := by
  simp (disch := first | assumption | omega) only [f_X8_note, m_rm0, m_st1279, zb2_s, zif_t, zopt_n, zopt_s, b_s, znm_e, lit_0, lit_1, lit_2, lit_3, lit_4, lit_5, lit_6, lit_7, lit_8, lit_9, lit_10, lit_11, lit_12, lit_13, lit_17, lit_20, lit_23, lit_24, lit_43, lit_48, lit_51, lit_57, lit_58, lit_59, lit_60, lit_61, lit_63, lit_77, lit_100, lit_140, lit_168, lit_200, lit_393, lit_400, lit_900, lit_969, lit_1000, lit_1041, lit_1045, lit_1093, lit_1168, lit_1200, lit_3279, lit_3333, lit_4372, lit_9999, nI_add, nI_mul]
theorem e8_end {z : Nat} {X : pX} {s : Nat → Nat} (hr : RoC X.1 s) {k : Nat} (hk : k < 48) : f_X8_end (z + 1278) (nI k) (hp z X) = some (nI (recS s k 3), hp z X) := by
  have g2 := e8_of (z := z) hr hk (w := 2) (by omega)
  have g3 := e8_of (z := z) hr hk (w := 3) (by omega)
  simp (disch := first | assumption | omega) only [f_X8_end, m_im, g2, g3, zb2_s, zif_t, zopt_n, zopt_s, b_s, znm_e, lit_0, lit_1, lit_2, lit_3, lit_4, lit_5, lit_6, lit_7, lit_8, lit_9, lit_10, lit_11, lit_12, lit_13, lit_17, lit_20, lit_23, lit_24, lit_43, lit_48, lit_51, lit_57, lit_58, lit_59, lit_60, lit_61, lit_63, lit_77, lit_100, lit_140, lit_168, lit_200, lit_393, lit_400, lit_900, lit_969, lit_1000, lit_1041, lit_1045, lit_1093, lit_1168, lit_1200, lit_3279, lit_3333, lit_4372, lit_9999, nI_add, nI_mul, recS]
theorem e8_is {z : Nat} {X : pX} {s : Nat → Nat} (hr : RoC X.1 s) (hB : RB s) {k v : Nat} (hk : k < 48) (hv : v < 4) : f_X8_is (z + 1278) (nI k) (nI v) (hp z X) = some (bI (decide (recS s k 5 = v)), hp z X) := by
  have g := e8_of (z := z) hr hk (w := 0) (by omega)
  have b := (hB.2.1 k hk).1
  simp (disch := first | assumption | omega) only [f_X8_is, m_im, g, zb2_s, zif_t, zopt_n, zopt_s, b_s, znm_e, lit_0, lit_1, lit_2, lit_3, lit_4, lit_5, lit_6, lit_7, lit_8, lit_9, lit_10, lit_11, lit_12, lit_13, lit_17, lit_20, lit_23, lit_24, lit_43, lit_48, lit_51, lit_57, lit_58, lit_59, lit_60, lit_61, lit_63, lit_77, lit_100, lit_140, lit_168, lit_200, lit_393, lit_400, lit_900, lit_969, lit_1000, lit_1041, lit_1045, lit_1093, lit_1168, lit_1200, lit_3279, lit_3333, lit_4372, lit_9999, nI_eqE, zbool_0, zbool_1, ite_b, recS]
/-- how many have a place of a role -/
def tkM (s : Nat → Nat) (k q : Nat) : Nat := cA (fun m => decide (recS s k (20 + m) = q + 1)) 0 (s 2)
theorem e8_takenL {z : Nat} {X : pX} {s : Nat → Nat} (hr : RoC X.1 s) (hB : RB s) {k q : Nat} (hk : k < 48) (hq : q < 4) : ∀ (n fuel m c : Nat), m + n = s 2 → n < fuel → c + n < 1000 → f_X8_taken_5 fuel (z + 1278) (nI k) (nI q) (nI c) (nI m) (hp z X) = some (nI (c + cA (fun m => decide (recS s k (20 + m) = q + 1)) m n), hp z X) := by
  intro n
  have b2 := hB.1.2.2.1
  induction n with
  | zero =>
    intro fuel m c h1 h2 h3
    obtain ⟨fuel, rfl⟩ : ∃ f, fuel = f + 1 := ⟨fuel - 1, by omega⟩
    have h1 : m = s 2 := h1
    simp (disch := first | assumption | omega) only [f_X8_taken_5, f_X8_taken_5_body, m_rm0, r_ld hr, zb2_s, zif_t, zopt_n, zopt_s, b_s, znm_e, lit_0, lit_1, lit_2, lit_3, lit_4, lit_5, lit_6, lit_7, lit_8, lit_9, lit_10, lit_11, lit_12, lit_13, lit_17, lit_20, lit_23, lit_24, lit_43, lit_48, lit_51, lit_57, lit_58, lit_59, lit_60, lit_61, lit_63, lit_77, lit_100, lit_140, lit_168, lit_200, lit_393, lit_400, lit_900, lit_969, lit_1000, lit_1041, lit_1045, lit_1093, lit_1168, lit_1200, lit_3279, lit_3333, lit_4372, lit_9999, nI_leE, cA_0, Nat.add_zero]
    rw [if_pos (by omega)]
  | succ n ih =>
    intro fuel m c h1 h2 h3
    obtain ⟨fuel, rfl⟩ : ∃ f, fuel = f + 1 := ⟨fuel - 1, by omega⟩
    have g := e8_place (z := z) hr hk (m := m) (by omega)
    have bp := hB.2.2.1 k hk m (by omega)
    have e := recS_20 (s := s) (k := k) (m := m) (by omega)
    have i1 := ih fuel (m + 1) (c + 1) (by omega) (by omega) (by omega)
    have i0 := ih fuel (m + 1) c (by omega) (by omega) (by omega)
    simp (disch := first | assumption | omega) only [f_X8_taken_5, f_X8_taken_5_body, f_X8_taken_35, m_rm0, m_im, r_ld hr, g, zb2_s, zif_t, zopt_n, zopt_s, b_s, znm_e, lit_0, lit_1, lit_2, lit_3, lit_4, lit_5, lit_6, lit_7, lit_8, lit_9, lit_10, lit_11, lit_12, lit_13, lit_17, lit_20, lit_23, lit_24, lit_43, lit_48, lit_51, lit_57, lit_58, lit_59, lit_60, lit_61, lit_63, lit_77, lit_100, lit_140, lit_168, lit_200, lit_393, lit_400, lit_900, lit_969, lit_1000, lit_1041, lit_1045, lit_1093, lit_1168, lit_1200, lit_3279, lit_3333, lit_4372, lit_9999, nI_leE, nI_eqE, nI_add, nI_mul, Nat.add_zero, i1, i0]
    rw [if_neg (by omega)]
    by_cases c1 : s (393 + 12 * k + m) = q + 1
    · rw [if_pos c1, cA_t (decide_eq_true (by rw [e]; exact c1)), Nat.add_assoc]
    · rw [if_neg c1, cA_f (decide_eq_false (by rw [e]; exact c1))]
theorem e8_taken {z : Nat} {X : pX} {s : Nat → Nat} (hr : RoC X.1 s) (hB : RB s) {k q : Nat} (hk : k < 48) (hq : q < 4) : f_X8_taken (z + 1278) (nI k) (nI q) (hp z X) = some (nI (tkM s k q), hp z X) := by
  have b2 := hB.1.2.2.1
  have h := e8_takenL (z := z) hr hB hk hq (s 2) zN 0 0 (by omega) (zN_lt (by omega)) (by omega)
  simp only [f_X8_taken, lit_0, lit_1, lit_2, lit_3, lit_4, lit_5, lit_6, lit_7, lit_8, lit_9, lit_10, lit_11, lit_12, lit_13, lit_17, lit_20, lit_23, lit_24, lit_43, lit_48, lit_51, lit_57, lit_58, lit_59, lit_60, lit_61, lit_63, lit_77, lit_100, lit_140, lit_168, lit_200, lit_393, lit_400, lit_900, lit_969, lit_1000, lit_1041, lit_1045, lit_1093, lit_1168, lit_1200, lit_3279, lit_3333, lit_4372, lit_9999, h, Nat.zero_add]
  rfl
theorem e8_needed {z : Nat} {X : pX} {s : Nat → Nat} (hr : RoC X.1 s) {k : Nat} (hk : k < 48) : f_X8_needed (z + 1278) (nI k) (hp z X) = some (nI (ned (recS s k)), hp z X) := by
  have g4 := e8_of (z := z) hr hk (w := 4) (by omega)
  have g5 := e8_of (z := z) hr hk (w := 5) (by omega)
  have g6 := e8_of (z := z) hr hk (w := 6) (by omega)
  have g7 := e8_of (z := z) hr hk (w := 7) (by omega)
  simp (disch := first | assumption | omega) only [f_X8_needed, m_im, g4, g5, g6, g7, zb2_s, zif_t, zopt_n, zopt_s, b_s, znm_e, lit_0, lit_1, lit_2, lit_3, lit_4, lit_5, lit_6, lit_7, lit_8, lit_9, lit_10, lit_11, lit_12, lit_13, lit_17, lit_20, lit_23, lit_24, lit_43, lit_48, lit_51, lit_57, lit_58, lit_59, lit_60, lit_61, lit_63, lit_77, lit_100, lit_140, lit_168, lit_200, lit_393, lit_400, lit_900, lit_969, lit_1000, lit_1041, lit_1045, lit_1093, lit_1168, lit_1200, lit_3279, lit_3333, lit_4372, lit_9999, nI_add, nI_mul, recS, ned]
def tkO (s : Nat → Nat) (k : Nat) : Nat := tkM s k 0 + tkM s k 1 + tkM s k 2 + tkM s k 3
theorem e8_takenOf {z : Nat} {X : pX} {s : Nat → Nat} (hr : RoC X.1 s) (hB : RB s) {k : Nat} (hk : k < 48) : f_X8_takenOf (z + 1278) (nI k) (hp z X) = some (nI (tkO s k), hp z X) := by
  have g0 := e8_taken (z := z) hr hB hk (q := 0) (by omega)
  have g1 := e8_taken (z := z) hr hB hk (q := 1) (by omega)
  have g2 := e8_taken (z := z) hr hB hk (q := 2) (by omega)
  have g3 := e8_taken (z := z) hr hB hk (q := 3) (by omega)
  simp (disch := first | assumption | omega) only [f_X8_takenOf, m_im, g0, g1, g2, g3, zb2_s, zif_t, zopt_n, zopt_s, b_s, znm_e, lit_0, lit_1, lit_2, lit_3, lit_4, lit_5, lit_6, lit_7, lit_8, lit_9, lit_10, lit_11, lit_12, lit_13, lit_17, lit_20, lit_23, lit_24, lit_43, lit_48, lit_51, lit_57, lit_58, lit_59, lit_60, lit_61, lit_63, lit_77, lit_100, lit_140, lit_168, lit_200, lit_393, lit_400, lit_900, lit_969, lit_1000, lit_1041, lit_1045, lit_1093, lit_1168, lit_1200, lit_3279, lit_3333, lit_4372, lit_9999, nI_add, nI_mul, tkO]
theorem e8_freeOf {z : Nat} {X : pX} {s : Nat → Nat} (hr : RoC X.1 s) (hB : RB s) {k : Nat} (hk : k < 48) : f_X8_freeOf (z + 1278) (nI k) (hp z X) = some (nI (ned (recS s k)) - nI (tkO s k), hp z X) := by
  have g0 := e8_needed (z := z) hr hk
  have g1 := e8_takenOf (z := z) hr hB hk
  simp (disch := first | assumption | omega) only [f_X8_freeOf, m_im, g0, g1, zb2_s, zif_t, zopt_n, zopt_s, b_s, znm_e, lit_0, lit_1, lit_2, lit_3, lit_4, lit_5, lit_6, lit_7, lit_8, lit_9, lit_10, lit_11, lit_12, lit_13, lit_17, lit_20, lit_23, lit_24, lit_43, lit_48, lit_51, lit_57, lit_58, lit_59, lit_60, lit_61, lit_63, lit_77, lit_100, lit_140, lit_168, lit_200, lit_393, lit_400, lit_900, lit_969, lit_1000, lit_1041, lit_1045, lit_1093, lit_1168, lit_1200, lit_3279, lit_3333, lit_4372, lit_9999]
theorem e8_isSick {z : Nat} {X : pX} {s : Nat → Nat} (hr : RoC X.1 s) (hB : RB s) {m : Nat} (hm : m < 12) : f_X8_isSick (z + 1278) (nI m) (hp z X) = some (bI (decide (s 0 < s (969 + 6 * m + 4))), hp z X) := by
  have g := e8_has (z := z) hr hm (w := 4) (by omega)
  have b0 := hB.1.1
  have b4 := hB.1.2.2.2.2 m hm 4 (by omega)
  simp (disch := first | assumption | omega) only [f_X8_isSick, m_im, m_rm0, r_ld hr, g, zb2_s, zif_t, zopt_n, zopt_s, b_s, znm_e, lit_0, lit_1, lit_2, lit_3, lit_4, lit_5, lit_6, lit_7, lit_8, lit_9, lit_10, lit_11, lit_12, lit_13, lit_17, lit_20, lit_23, lit_24, lit_43, lit_48, lit_51, lit_57, lit_58, lit_59, lit_60, lit_61, lit_63, lit_77, lit_100, lit_140, lit_168, lit_200, lit_393, lit_400, lit_900, lit_969, lit_1000, lit_1041, lit_1045, lit_1093, lit_1168, lit_1200, lit_3279, lit_3333, lit_4372, lit_9999, nI_leE, zbool_0, zbool_1]
  by_cases c : s 0 < s (969 + 6 * m + 4)
  · rw [if_neg (by omega), bI_t (decide_eq_true c)]
  · rw [if_pos (by omega), bI_f (decide_eq_false c)]
/-- whether a sailing counts for the duties of a member -/
def hdB (s : Nat → Nat) (m k : Nat) : Bool := decide (recS s k (20 + m) ≠ 0 ∧ recS s k 5 ≠ 2)
theorem e8_hasDuty {z : Nat} {X : pX} {s : Nat → Nat} (hr : RoC X.1 s) (hB : RB s) {k m : Nat} (hk : k < 48) (hm : m < 12) : f_X8_hasDuty (z + 1278) (nI k) (nI m) (hp z X) = some (bI (hdB s m k), hp z X) := by
  have g := e8_place (z := z) hr hk hm
  have bp := hB.2.2.1 k hk m hm
  have e := recS_20 (s := s) (k := k) hm
  have g2 := e8_is (z := z) hr hB hk (v := 2) (by omega)
  unfold hdB
  rw [e]
  simp (disch := first | assumption | omega) only [f_X8_hasDuty, f_X8_hasDuty_22, m_im, g, g2, zb2_s, zif_t, zopt_n, zopt_s, b_s, znm_e, lit_0, lit_1, lit_2, lit_3, lit_4, lit_5, lit_6, lit_7, lit_8, lit_9, lit_10, lit_11, lit_12, lit_13, lit_17, lit_20, lit_23, lit_24, lit_43, lit_48, lit_51, lit_57, lit_58, lit_59, lit_60, lit_61, lit_63, lit_77, lit_100, lit_140, lit_168, lit_200, lit_393, lit_400, lit_900, lit_969, lit_1000, lit_1041, lit_1045, lit_1093, lit_1168, lit_1200, lit_3279, lit_3333, lit_4372, lit_9999, nI_leE, zbool_0, zbool_1, bI_0]
  by_cases c : s (393 + 12 * k + m) = 0
  · rw [if_pos (by omega), bI_f (decide_eq_false (fun q => q.1 c))]
  · rw [if_neg (by omega)]
    by_cases c2 : recS s k 5 = 2
    · rw [if_neg (by simp [c2]), bI_f (decide_eq_false (fun q => q.2 c2))]
    · rw [if_pos (by simp [c2]), bI_t (decide_eq_true ⟨c, c2⟩)]
/-- the same ferry's duty that ends at a start -/
def lkB (s : Nat → Nat) (m k k' : Nat) : Bool := hdB s m k' && decide (recS s k' 1 = recS s k 1 ∧ recS s k' 3 = recS s k 2)
def bgN (s : Nat → Nat) (m k : Nat) : Nat := if s 7 = 0 ∨ recS s k 2 = 0 ∨ oA (lkB s m k) 0 (s 1) = true then recS s k 2 else recS s k 2 - 1
theorem e8_bgL {z : Nat} {X : pX} {s : Nat → Nat} (hr : RoC X.1 s) (hB : RB s) {k m : Nat} (hk : k < 48) (hm : m < 12) (h2 : recS s k 2 ≠ 0) : ∀ (n fuel k' : Nat), k' + n = s 1 → n < fuel → f_X8_begins_26 fuel (z + 1278) (nI k) (nI m) (nI (recS s k 2)) (nI k') (hp z X) = some (nI (if oA (lkB s m k) k' n = true then recS s k 2 else recS s k 2 - 1), hp z X) := by
  intro n
  have b1 := hB.1.2.1
  have bk := hB.2.1 k hk
  induction n with
  | zero =>
    intro fuel k' h1 h3
    obtain ⟨fuel, rfl⟩ : ∃ f, fuel = f + 1 := ⟨fuel - 1, by omega⟩
    have h1 : k' = s 1 := h1
    rw [if_neg (show ¬ oA (lkB s m k) k' 0 = true from Bool.false_ne_true)]
    simp (disch := first | assumption | omega) only [f_X8_begins_26, f_X8_begins_26_body, m_rm0, r_ld hr, zb2_s, zif_t, zopt_n, zopt_s, b_s, znm_e, lit_0, lit_1, lit_2, lit_3, lit_4, lit_5, lit_6, lit_7, lit_8, lit_9, lit_10, lit_11, lit_12, lit_13, lit_17, lit_20, lit_23, lit_24, lit_43, lit_48, lit_51, lit_57, lit_58, lit_59, lit_60, lit_61, lit_63, lit_77, lit_100, lit_140, lit_168, lit_200, lit_393, lit_400, lit_900, lit_969, lit_1000, lit_1041, lit_1045, lit_1093, lit_1168, lit_1200, lit_3279, lit_3333, lit_4372, lit_9999, nI_leE]
    rw [if_pos (by omega), nI_sub (by omega)]
  | succ n ih =>
    intro fuel k' h1 h3
    obtain ⟨fuel, rfl⟩ : ∃ f, fuel = f + 1 := ⟨fuel - 1, by omega⟩
    have hk' : k' < 48 := by omega
    have bk' := hB.2.1 k' hk'
    have g := e8_hasDuty (z := z) hr hB hk' hm
    have g1 := e8_of (z := z) hr hk' (w := 1) (by omega)
    have g2 := e8_of (z := z) hr hk (w := 1) (by omega)
    have g3 := e8_end (z := z) hr hk'
    have i1 := ih fuel (k' + 1) (by omega) (by omega)
    have e1 : recS s k' 1 = s (9 + 8 * k' + 1) := rfl
    have e2 : recS s k 1 = s (9 + 8 * k + 1) := rfl
    have e3 : recS s k' 3 = s (9 + 8 * k' + 2) + s (9 + 8 * k' + 3) := rfl
    have e4 : recS s k 2 = s (9 + 8 * k + 2) := rfl
    have l3 : recS s k' 3 < 2 ^ 31 := by rw [e3]; omega
    have l2 : recS s k 2 < 2 ^ 31 := by rw [e4]; omega
    simp (disch := first | assumption | omega) only [f_X8_begins_26, f_X8_begins_26_body, f_X8_begins_75, m_rm0, m_im, r_ld hr, g, g1, g2, g3, zb2_s, zif_t, zopt_n, zopt_s, b_s, znm_e, lit_0, lit_1, lit_2, lit_3, lit_4, lit_5, lit_6, lit_7, lit_8, lit_9, lit_10, lit_11, lit_12, lit_13, lit_17, lit_20, lit_23, lit_24, lit_43, lit_48, lit_51, lit_57, lit_58, lit_59, lit_60, lit_61, lit_63, lit_77, lit_100, lit_140, lit_168, lit_200, lit_393, lit_400, lit_900, lit_969, lit_1000, lit_1041, lit_1045, lit_1093, lit_1168, lit_1200, lit_3279, lit_3333, lit_4372, lit_9999, nI_leE, nI_eqE, bI_0, nI_add, nI_mul, i1]
    rw [if_neg (by omega)]
    by_cases c : lkB s m k k' = true
    · have c' := c
      unfold lkB at c'
      rw [Bool.and_eq_true, decide_eq_true_iff] at c'
      rw [if_neg (by simp [c'.1]), if_pos (by rw [← e1, ← e2]; exact c'.2.1), if_pos c'.2.2, oA_t c, if_pos rfl]
    · have cf : lkB s m k k' = false := by simpa using c
      rw [oA_f cf]
      by_cases d : hdB s m k' = false
      · rw [if_pos d]
      · rw [if_neg d]
        by_cases d2 : s (9 + 8 * k' + 1) = s (9 + 8 * k + 1)
        · rw [if_pos d2, if_neg (fun d3 => c (by
            unfold lkB
            rw [Bool.and_eq_true, decide_eq_true_iff]
            exact ⟨by simpa using d, d2, d3⟩))]
        · rw [if_neg d2]
theorem e8_begins {z : Nat} {X : pX} {s : Nat → Nat} (hr : RoC X.1 s) (hB : RB s) {k m : Nat} (hk : k < 48) (hm : m < 12) : f_X8_begins (z + 1278) (nI k) (nI m) (hp z X) = some (nI (bgN s m k), hp z X) := by
  have b1 := hB.1.2.1
  have bk := hB.2.1 k hk
  have g := e8_of (z := z) hr hk (w := 2) (by omega)
  have e4 : s (9 + 8 * k + 2) = recS s k 2 := rfl
  have b7 := hB.1.2.2.2.1.2.2.2.1
  rw [e4] at g bk
  unfold bgN
  simp (disch := first | assumption | omega) only [f_X8_begins, m_rm0, m_im, r_ld hr, g, zb2_s, zif_t, zopt_n, zopt_s, b_s, znm_e, lit_0, lit_1, lit_2, lit_3, lit_4, lit_5, lit_6, lit_7, lit_8, lit_9, lit_10, lit_11, lit_12, lit_13, lit_17, lit_20, lit_23, lit_24, lit_43, lit_48, lit_51, lit_57, lit_58, lit_59, lit_60, lit_61, lit_63, lit_77, lit_100, lit_140, lit_168, lit_200, lit_393, lit_400, lit_900, lit_969, lit_1000, lit_1041, lit_1045, lit_1093, lit_1168, lit_1200, lit_3279, lit_3333, lit_4372, lit_9999, nI_eqE]
  by_cases c7 : s 7 = 0
  · rw [if_pos c7, if_pos (Or.inl c7)]
  · rw [if_neg c7]
    by_cases c2 : recS s k 2 = 0
    · rw [if_pos c2, if_pos (Or.inr (Or.inl c2))]
    · have h := e8_bgL (z := z) hr hB hk hm c2 (s 1) zN 0 (by omega) (zN_lt (by omega))
      rw [if_neg c2, h]
      by_cases c3 : oA (lkB s m k) 0 (s 1) = true
      · rw [if_pos c3, if_pos (Or.inr (Or.inr c3))]
      · rw [if_neg c3, if_neg (by simp [c7, c2, c3])]
