/-! the reference: what it tells, loops over sailings -/
theorem nI_ne5 {j : Nat} (h : j < 2 ^ 31) : (nI j = -nI 5) = False := by
  refine eq_false (fun q => ?_)
  have h1 := nI_toInt h
  rw [q] at h1
  have h2 : (-nI 5 : Int32).toInt = -5 := by decide
  omega
theorem m5_e : (-nI 5 = -nI 5) = True := eq_true rfl
def FO (s : Nat → Nat) : Prop := ∀ k, k < s 1 → tkO s k ≤ ned (recS s k)
def fo (s : Nat → Nat) (k : Nat) : Nat := ned (recS s k) - tkO s k
theorem ned_le {s : Nat → Nat} (hB : RB s) {k : Nat} (hk : k < 48) : ned (recS s k) ≤ 12 := by
  have bk := hB.2.1 k hk
  show s (9 + 8 * k + 4) + s (9 + 8 * k + 5) + s (9 + 8 * k + 6) + s (9 + 8 * k + 7) ≤ 12
  omega
theorem tkO_le {s : Nat → Nat} (hB : RB s) (k : Nat) : tkO s k ≤ 48 := by
  have a0 := tkM_le hB k 0
  have a1 := tkM_le hB k 1
  have a2 := tkM_le hB k 2
  have a3 := tkM_le hB k 3
  unfold tkO; omega
theorem e8_free {z : Nat} {X : pX} {s : Nat → Nat} (hr : RoC X.1 s) (hB : RB s) (hF : FO s) {k : Nat} (hk : k < s 1) : f_X8_freeOf (z + 1278) (nI k) (hp z X) = some (nI (fo s k), hp z X) := by
  have b1 := hB.1.2.1
  rw [e8_freeOf (z := z) hr hB (by omega), nI_sub (hF k hk)]
  rfl
theorem fo_le {s : Nat → Nat} (hB : RB s) {k : Nat} (hk : k < 48) : fo s k ≤ 12 := by
  have := ned_le hB hk
  unfold fo; omega
theorem e8_ptL {z : Nat} {X : pX} {s : Nat → Nat} (hr : RoC X.1 s) (hB : RB s) {m st : Nat} (hm : m < 12) (hst : st < 4) : ∀ (n fuel k c : Nat), k + n = s 1 → n < fuel → f_X8_placesThat_5 fuel (z + 1278) (nI m) (nI st) (nI c) (nI k) (hp z X) = some (nI (c + cA (fun k => decide (recS s k 5 = st ∧ recS s k (20 + m) ≠ 0)) k n), hp z X) := by
  intro n
  have b1 := hB.1.2.1
  induction n with
  | zero =>
    intro fuel k c h1 h2
    obtain ⟨fuel, rfl⟩ : ∃ f, fuel = f + 1 := ⟨fuel - 1, by omega⟩
    have h1 : k = s 1 := h1
    simp (disch := first | assumption | omega) only [f_X8_placesThat_5, f_X8_placesThat_5_body, m_rm0, r_ld hr, zb2_s, zif_t, zopt_n, zopt_s, b_s, znm_e, lit_0, lit_1, lit_2, lit_3, lit_4, lit_5, lit_6, lit_7, lit_8, lit_9, lit_10, lit_11, lit_12, lit_13, lit_17, lit_20, lit_23, lit_24, lit_43, lit_48, lit_51, lit_57, lit_58, lit_59, lit_60, lit_61, lit_63, lit_77, lit_100, lit_140, lit_168, lit_200, lit_393, lit_400, lit_900, lit_969, lit_1000, lit_1041, lit_1045, lit_1093, lit_1168, lit_1200, lit_3279, lit_3333, lit_4372, lit_9999, nI_leE, cA_0, Nat.add_zero]
    rw [if_pos (by omega)]
  | succ n ih =>
    intro fuel k c h1 h2
    obtain ⟨fuel, rfl⟩ : ∃ f, fuel = f + 1 := ⟨fuel - 1, by omega⟩
    have hk : k < 48 := by omega
    have g := e8_place (z := z) hr hk hm
    have bp := hB.2.2.1 k hk m hm
    rw [← recS_20 (s := s) (k := k) hm] at g bp
    have g2 := e8_is (z := z) hr hB hk (v := st) hst
    have i1 := fun c => ih fuel (k + 1) c (by omega) (by omega)
    simp (disch := first | assumption | omega) only [f_X8_placesThat_5, f_X8_placesThat_5_body, f_X8_placesThat_41, f_X8_placesThat_42, m_rm0, m_im, r_ld hr, g, g2, zb2_s, zif_t, zopt_n, zopt_s, b_s, znm_e, lit_0, lit_1, lit_2, lit_3, lit_4, lit_5, lit_6, lit_7, lit_8, lit_9, lit_10, lit_11, lit_12, lit_13, lit_17, lit_20, lit_23, lit_24, lit_43, lit_48, lit_51, lit_57, lit_58, lit_59, lit_60, lit_61, lit_63, lit_77, lit_100, lit_140, lit_168, lit_200, lit_393, lit_400, lit_900, lit_969, lit_1000, lit_1041, lit_1045, lit_1093, lit_1168, lit_1200, lit_3279, lit_3333, lit_4372, lit_9999, nI_leE, bI_0, nI_add, nI_mul, Nat.add_zero, i1]
    rw [if_neg (by omega)]
    by_cases c1 : recS s k 5 = st ∧ recS s k (20 + m) ≠ 0
    · rw [if_neg (by omega), if_neg (by simp [c1.1]), cA_t (decide_eq_true c1), Nat.add_assoc]
    · rw [cA_f (decide_eq_false c1)]
      by_cases c2 : recS s k (20 + m) = 0
      · rw [if_pos (by omega)]
      · rw [if_neg (by omega), if_pos (by simpa using fun w => c1 ⟨w, c2⟩)]
theorem e8_places {z : Nat} {X : pX} {s : Nat → Nat} (hr : RoC X.1 s) (hB : RB s) {m st : Nat} (hm : m < 12) (hst : st < 4) : f_X8_placesThat (z + 1278) (nI m) (nI st) (hp z X) = some (nI (cA (fun k => decide (recS s k 5 = st ∧ recS s k (20 + m) ≠ 0)) 0 (s 1)), hp z X) := by
  have h := e8_ptL (z := z) hr hB hm hst (s 1) zN 0 0 (by omega) (zN_lt (by have := hB.1.2.1; omega))
  simp only [f_X8_placesThat, lit_0, lit_1, lit_2, lit_3, lit_4, lit_5, lit_6, lit_7, lit_8, lit_9, lit_10, lit_11, lit_12, lit_13, lit_17, lit_20, lit_23, lit_24, lit_43, lit_48, lit_51, lit_57, lit_58, lit_59, lit_60, lit_61, lit_63, lit_77, lit_100, lit_140, lit_168, lit_200, lit_393, lit_400, lit_900, lit_969, lit_1000, lit_1041, lit_1045, lit_1093, lit_1168, lit_1200, lit_3279, lit_3333, lit_4372, lit_9999, h, Nat.zero_add]
theorem e8_stL {z : Nat} {X : pX} {s : Nat → Nat} (hr : RoC X.1 s) (hB : RB s) {st : Nat} (hst : st < 4) : ∀ (n fuel k c : Nat), k + n = s 1 → n < fuel → f_X8_sailingsThat_4 fuel (z + 1278) (nI st) (nI c) (nI k) (hp z X) = some (nI (c + cA (fun k => decide (recS s k 5 = st)) k n), hp z X) := by
  intro n
  have b1 := hB.1.2.1
  induction n with
  | zero =>
    intro fuel k c h1 h2
    obtain ⟨fuel, rfl⟩ : ∃ f, fuel = f + 1 := ⟨fuel - 1, by omega⟩
    have h1 : k = s 1 := h1
    simp (disch := first | assumption | omega) only [f_X8_sailingsThat_4, f_X8_sailingsThat_4_body, m_rm0, r_ld hr, zb2_s, zif_t, zopt_n, zopt_s, b_s, znm_e, lit_0, lit_1, lit_2, lit_3, lit_4, lit_5, lit_6, lit_7, lit_8, lit_9, lit_10, lit_11, lit_12, lit_13, lit_17, lit_20, lit_23, lit_24, lit_43, lit_48, lit_51, lit_57, lit_58, lit_59, lit_60, lit_61, lit_63, lit_77, lit_100, lit_140, lit_168, lit_200, lit_393, lit_400, lit_900, lit_969, lit_1000, lit_1041, lit_1045, lit_1093, lit_1168, lit_1200, lit_3279, lit_3333, lit_4372, lit_9999, nI_leE, cA_0, Nat.add_zero]
    rw [if_pos (by omega)]
  | succ n ih =>
    intro fuel k c h1 h2
    obtain ⟨fuel, rfl⟩ : ∃ f, fuel = f + 1 := ⟨fuel - 1, by omega⟩
    have hk : k < 48 := by omega
    have g2 := e8_is (z := z) hr hB hk (v := st) hst
    have i1 := fun c => ih fuel (k + 1) c (by omega) (by omega)
    simp (disch := first | assumption | omega) only [f_X8_sailingsThat_4, f_X8_sailingsThat_4_body, f_X8_sailingsThat_29, m_rm0, m_im, r_ld hr, g2, zb2_s, zif_t, zopt_n, zopt_s, b_s, znm_e, lit_0, lit_1, lit_2, lit_3, lit_4, lit_5, lit_6, lit_7, lit_8, lit_9, lit_10, lit_11, lit_12, lit_13, lit_17, lit_20, lit_23, lit_24, lit_43, lit_48, lit_51, lit_57, lit_58, lit_59, lit_60, lit_61, lit_63, lit_77, lit_100, lit_140, lit_168, lit_200, lit_393, lit_400, lit_900, lit_969, lit_1000, lit_1041, lit_1045, lit_1093, lit_1168, lit_1200, lit_3279, lit_3333, lit_4372, lit_9999, nI_leE, bI_0, nI_add, nI_mul, Nat.add_zero, i1]
    rw [if_neg (by omega)]
    by_cases c1 : recS s k 5 = st
    · rw [if_neg (by simp [c1]), cA_t (decide_eq_true c1), Nat.add_assoc]
    · rw [if_pos (decide_eq_false c1), cA_f (decide_eq_false c1)]
theorem e8_that {z : Nat} {X : pX} {s : Nat → Nat} (hr : RoC X.1 s) (hB : RB s) {st : Nat} (hst : st < 4) : f_X8_sailingsThat (z + 1278) (nI st) (hp z X) = some (nI (cA (fun k => decide (recS s k 5 = st)) 0 (s 1)), hp z X) := by
  have h := e8_stL (z := z) hr hB hst (s 1) zN 0 0 (by omega) (zN_lt (by have := hB.1.2.1; omega))
  simp only [f_X8_sailingsThat, lit_0, lit_1, lit_2, lit_3, lit_4, lit_5, lit_6, lit_7, lit_8, lit_9, lit_10, lit_11, lit_12, lit_13, lit_17, lit_20, lit_23, lit_24, lit_43, lit_48, lit_51, lit_57, lit_58, lit_59, lit_60, lit_61, lit_63, lit_77, lit_100, lit_140, lit_168, lit_200, lit_393, lit_400, lit_900, lit_969, lit_1000, lit_1041, lit_1045, lit_1093, lit_1168, lit_1200, lit_3279, lit_3333, lit_4372, lit_9999, h, Nat.zero_add]
/-- the first by start, of several by number -/
def bsF (st : Nat → Nat) (P : Nat → Bool) : Nat → Nat → Option Nat → Option Nat
  | _, 0, b => b
  | k, n + 1, b => bsF st P (k + 1) n (match P k with
      | false => b
      | true => match b with
        | none => some k
        | some j => if st k < st j then some k else some j)
theorem bsF_f {st : Nat → Nat} {P : Nat → Bool} {k n : Nat} {b : Option Nat} (h : P k = false) : bsF st P k (n + 1) b = bsF st P (k + 1) n b := by
  show bsF st P (k + 1) n (match P k with | false => b | true => _) = _; rw [h]
theorem bsF_n {st : Nat → Nat} {P : Nat → Bool} {k n : Nat} (h : P k = true) : bsF st P k (n + 1) none = bsF st P (k + 1) n (some k) := by
  show bsF st P (k + 1) n (match P k with | false => _ | true => _) = _; rw [h]
theorem bsF_s {st : Nat → Nat} {P : Nat → Bool} {k n j : Nat} (h : P k = true) : bsF st P k (n + 1) (some j) = bsF st P (k + 1) n (if st k < st j then some k else some j) := by
  show bsF st P (k + 1) n (match P k with | false => _ | true => _) = _; rw [h]
theorem e8_nxL {z : Nat} {X : pX} {s : Nat → Nat} (hr : RoC X.1 s) (hB : RB s) {m : Nat} (hm : m < 12) : ∀ (n fuel k : Nat) (b : Option Nat), (∀ j, b = some j → j < 48) → k + n = s 1 → n < fuel → f_X8_nextOf_5 fuel (z + 1278) (nI m) (oI b) (nI k) (hp z X) = some (oI (bsF (fun k => recS s k 2) (fun k => decide (recS s k 5 = 0 ∧ recS s k (20 + m) ≠ 0)) k n b), hp z X) := by
  intro n
  have b1 := hB.1.2.1
  induction n with
  | zero =>
    intro fuel k b hb h1 h2
    obtain ⟨fuel, rfl⟩ : ∃ f, fuel = f + 1 := ⟨fuel - 1, by omega⟩
    have h1 : k = s 1 := h1
    simp (disch := first | assumption | omega) only [f_X8_nextOf_5, f_X8_nextOf_5_body, m_rm0, r_ld hr, zb2_s, zif_t, zopt_n, zopt_s, b_s, znm_e, lit_0, lit_1, lit_2, lit_3, lit_4, lit_5, lit_6, lit_7, lit_8, lit_9, lit_10, lit_11, lit_12, lit_13, lit_17, lit_20, lit_23, lit_24, lit_43, lit_48, lit_51, lit_57, lit_58, lit_59, lit_60, lit_61, lit_63, lit_77, lit_100, lit_140, lit_168, lit_200, lit_393, lit_400, lit_900, lit_969, lit_1000, lit_1041, lit_1045, lit_1093, lit_1168, lit_1200, lit_3279, lit_3333, lit_4372, lit_9999, nI_leE, bsF]
    rw [if_pos (by omega)]
  | succ n ih =>
    intro fuel k b hb h1 h2
    obtain ⟨fuel, rfl⟩ : ∃ f, fuel = f + 1 := ⟨fuel - 1, by omega⟩
    have hk : k < 48 := by omega
    have g := e8_place (z := z) hr hk hm
    have bp := hB.2.2.1 k hk m hm
    rw [← recS_20 (s := s) (k := k) hm] at g bp
    have g2 := e8_is (z := z) hr hB hk (v := 0) (by omega)
    have g3 := e8_of (z := z) hr hk (w := 2) (by omega)
    have bk := (hB.2.1 k hk).2.2.1
    rw [show s (9 + 8 * k + 2) = recS s k 2 from rfl] at g3 bk
    by_cases c1 : recS s k 5 = 0 ∧ recS s k (20 + m) ≠ 0
    · cases b with
      | none =>
        have i1 := ih fuel (k + 1) (some k) (fun j h => by cases h; exact hk) (by omega) (by omega)
        rw [bsF_n (decide_eq_true c1), ← i1]
        simp (disch := first | assumption | omega) only [f_X8_nextOf_5, f_X8_nextOf_5_body, f_X8_nextOf_54, f_X8_nextOf_56, m_rm0, m_im, r_ld hr, g, g2, zb2_s, zif_t, zopt_n, zopt_s, b_s, znm_e, lit_0, lit_1, lit_2, lit_3, lit_4, lit_5, lit_6, lit_7, lit_8, lit_9, lit_10, lit_11, lit_12, lit_13, lit_17, lit_20, lit_23, lit_24, lit_43, lit_48, lit_51, lit_57, lit_58, lit_59, lit_60, lit_61, lit_63, lit_77, lit_100, lit_140, lit_168, lit_200, lit_393, lit_400, lit_900, lit_969, lit_1000, lit_1041, lit_1045, lit_1093, lit_1168, lit_1200, lit_3279, lit_3333, lit_4372, lit_9999, nI_leE, bI_0, oI, m5_e, if_true, nI_add, nI_mul]
        rw [if_neg (by omega), if_neg (by omega), if_neg (by simp [c1.1])]
      | some j =>
        have hj := hb j rfl
        have g4 := e8_of (z := z) hr hj (w := 2) (by omega)
        have bj := (hB.2.1 j hj).2.2.1
        rw [show s (9 + 8 * j + 2) = recS s j 2 from rfl] at g4 bj
        have n5 := nI_ne5 (j := j) (by omega)
        rw [bsF_s (decide_eq_true c1)]
        simp (config := {maxSteps := 1000000}) (disch := first | assumption | omega) only [f_X8_nextOf_5, f_X8_nextOf_5_body, f_X8_nextOf_54, f_X8_nextOf_56, m_rm0, m_im, r_ld hr, g, g2, g3, g4, zb2_s, zif_t, zopt_n, zopt_s, b_s, znm_e, lit_0, lit_1, lit_2, lit_3, lit_4, lit_5, lit_6, lit_7, lit_8, lit_9, lit_10, lit_11, lit_12, lit_13, lit_17, lit_20, lit_23, lit_24, lit_43, lit_48, lit_51, lit_57, lit_58, lit_59, lit_60, lit_61, lit_63, lit_77, lit_100, lit_140, lit_168, lit_200, lit_393, lit_400, lit_900, lit_969, lit_1000, lit_1041, lit_1045, lit_1093, lit_1168, lit_1200, lit_3279, lit_3333, lit_4372, lit_9999, nI_leE, bI_0, oI, n5, if_false, nI_add, nI_mul]
        rw [if_neg (by omega), if_neg (by omega), if_neg (by simp [c1.1])]
        by_cases c2 : recS s k 2 < recS s j 2
        · rw [if_neg (by omega), if_pos c2]
          exact ih fuel (k + 1) (some k) (fun j h => by cases h; exact hk) (by omega) (by omega)
        · rw [if_pos (by omega), if_neg c2]
          exact ih fuel (k + 1) (some j) hb (by omega) (by omega)
    · have i1 := ih fuel (k + 1) b hb (by omega) (by omega)
      rw [bsF_f (decide_eq_false c1), ← i1]
      simp (config := {maxSteps := 1000000}) (disch := first | assumption | omega) only [f_X8_nextOf_5, f_X8_nextOf_5_body, f_X8_nextOf_56, m_rm0, m_im, r_ld hr, g, g2, zb2_s, zif_t, zopt_n, zopt_s, b_s, znm_e, lit_0, lit_1, lit_2, lit_3, lit_4, lit_5, lit_6, lit_7, lit_8, lit_9, lit_10, lit_11, lit_12, lit_13, lit_17, lit_20, lit_23, lit_24, lit_43, lit_48, lit_51, lit_57, lit_58, lit_59, lit_60, lit_61, lit_63, lit_77, lit_100, lit_140, lit_168, lit_200, lit_393, lit_400, lit_900, lit_969, lit_1000, lit_1041, lit_1045, lit_1093, lit_1168, lit_1200, lit_3279, lit_3333, lit_4372, lit_9999, nI_leE, bI_0, nI_add, nI_mul]
      rw [if_neg (by omega)]
      by_cases c2 : recS s k (20 + m) = 0
      · rw [if_pos (by omega)]
      · rw [if_neg (by omega), if_pos (by simpa using fun w => c1 ⟨w, c2⟩)]
theorem e8_next {z : Nat} {X : pX} {s : Nat → Nat} (hr : RoC X.1 s) (hB : RB s) {m : Nat} (hm : m < 12) : f_X8_nextOf (z + 1278) (nI m) (hp z X) = some (oI (bsF (fun k => recS s k 2) (fun k => decide (recS s k 5 = 0 ∧ recS s k (20 + m) ≠ 0)) 0 (s 1) none), hp z X) := by
  have h := e8_nxL (z := z) hr hB hm (s 1) zN 0 none (fun j h => by cases h) (by omega) (zN_lt (by have := hB.1.2.1; omega))
  simp only [f_X8_nextOf, lit_0, lit_1, lit_2, lit_3, lit_4, lit_5, lit_6, lit_7, lit_8, lit_9, lit_10, lit_11, lit_12, lit_13, lit_17, lit_20, lit_23, lit_24, lit_43, lit_48, lit_51, lit_57, lit_58, lit_59, lit_60, lit_61, lit_63, lit_77, lit_100, lit_140, lit_168, lit_200, lit_393, lit_400, lit_900, lit_969, lit_1000, lit_1041, lit_1045, lit_1093, lit_1168, lit_1200, lit_3279, lit_3333, lit_4372, lit_9999, ← h]
  rfl
theorem e8_rkL {z : Nat} {X : pX} {s : Nat → Nat} (hr : RoC X.1 s) (hB : RB s) (hF : FO s) : ∀ (n fuel k : Nat) (b : Option Nat), (∀ j, b = some j → j < 48) → k + n = s 1 → n < fuel → f_X8_atRisk_5 fuel (z + 1278) (oI b) (nI k) (hp z X) = some (oI (bsF (fun k => recS s k 2) (fun k => decide (recS s k 5 = 0 ∧ 0 < fo s k)) k n b), hp z X) := by
  intro n
  have b1 := hB.1.2.1
  induction n with
  | zero =>
    intro fuel k b hb h1 h2
    obtain ⟨fuel, rfl⟩ : ∃ f, fuel = f + 1 := ⟨fuel - 1, by omega⟩
    have h1 : k = s 1 := h1
    simp (disch := first | assumption | omega) only [f_X8_atRisk_5, f_X8_atRisk_5_body, m_rm0, r_ld hr, zb2_s, zif_t, zopt_n, zopt_s, b_s, znm_e, lit_0, lit_1, lit_2, lit_3, lit_4, lit_5, lit_6, lit_7, lit_8, lit_9, lit_10, lit_11, lit_12, lit_13, lit_17, lit_20, lit_23, lit_24, lit_43, lit_48, lit_51, lit_57, lit_58, lit_59, lit_60, lit_61, lit_63, lit_77, lit_100, lit_140, lit_168, lit_200, lit_393, lit_400, lit_900, lit_969, lit_1000, lit_1041, lit_1045, lit_1093, lit_1168, lit_1200, lit_3279, lit_3333, lit_4372, lit_9999, nI_leE, bsF]
    rw [if_pos (by omega)]
  | succ n ih =>
    intro fuel k b hb h1 h2
    obtain ⟨fuel, rfl⟩ : ∃ f, fuel = f + 1 := ⟨fuel - 1, by omega⟩
    have hk : k < 48 := by omega
    have g := e8_free (z := z) hr hB hF (k := k) (by omega)
    have bp := fo_le hB hk
    have g2 := e8_is (z := z) hr hB hk (v := 0) (by omega)
    have g3 := e8_of (z := z) hr hk (w := 2) (by omega)
    have bk := (hB.2.1 k hk).2.2.1
    rw [show s (9 + 8 * k + 2) = recS s k 2 from rfl] at g3 bk
    by_cases c1 : recS s k 5 = 0 ∧ 0 < fo s k
    · cases b with
      | none =>
        have i1 := ih fuel (k + 1) (some k) (fun j h => by cases h; exact hk) (by omega) (by omega)
        rw [bsF_n (decide_eq_true c1), ← i1]
        simp (config := {maxSteps := 1000000}) (disch := first | assumption | omega) only [f_X8_atRisk_5, f_X8_atRisk_5_body, f_X8_atRisk_53, f_X8_atRisk_55, m_rm0, m_im, r_ld hr, g, g2, zb2_s, zif_t, zopt_n, zopt_s, b_s, znm_e, lit_0, lit_1, lit_2, lit_3, lit_4, lit_5, lit_6, lit_7, lit_8, lit_9, lit_10, lit_11, lit_12, lit_13, lit_17, lit_20, lit_23, lit_24, lit_43, lit_48, lit_51, lit_57, lit_58, lit_59, lit_60, lit_61, lit_63, lit_77, lit_100, lit_140, lit_168, lit_200, lit_393, lit_400, lit_900, lit_969, lit_1000, lit_1041, lit_1045, lit_1093, lit_1168, lit_1200, lit_3279, lit_3333, lit_4372, lit_9999, nI_leE, bI_0, oI, m5_e, if_true, nI_add, nI_mul]
        rw [if_neg (by omega), if_neg (by simp [c1.1]), if_neg (by omega)]
      | some j =>
        have hj := hb j rfl
        have g4 := e8_of (z := z) hr hj (w := 2) (by omega)
        have bj := (hB.2.1 j hj).2.2.1
        rw [show s (9 + 8 * j + 2) = recS s j 2 from rfl] at g4 bj
        have n5 := nI_ne5 (j := j) (by omega)
        rw [bsF_s (decide_eq_true c1)]
        simp (config := {maxSteps := 1000000}) (disch := first | assumption | omega) only [f_X8_atRisk_5, f_X8_atRisk_5_body, f_X8_atRisk_53, f_X8_atRisk_55, m_rm0, m_im, r_ld hr, g, g2, g3, g4, zb2_s, zif_t, zopt_n, zopt_s, b_s, znm_e, lit_0, lit_1, lit_2, lit_3, lit_4, lit_5, lit_6, lit_7, lit_8, lit_9, lit_10, lit_11, lit_12, lit_13, lit_17, lit_20, lit_23, lit_24, lit_43, lit_48, lit_51, lit_57, lit_58, lit_59, lit_60, lit_61, lit_63, lit_77, lit_100, lit_140, lit_168, lit_200, lit_393, lit_400, lit_900, lit_969, lit_1000, lit_1041, lit_1045, lit_1093, lit_1168, lit_1200, lit_3279, lit_3333, lit_4372, lit_9999, nI_leE, bI_0, oI, n5, if_false, nI_add, nI_mul]
        rw [if_neg (by omega), if_neg (by simp [c1.1]), if_neg (by omega)]
        by_cases c2 : recS s k 2 < recS s j 2
        · rw [if_neg (by omega), if_pos c2]
          exact ih fuel (k + 1) (some k) (fun j h => by cases h; exact hk) (by omega) (by omega)
        · rw [if_pos (by omega), if_neg c2]
          exact ih fuel (k + 1) (some j) hb (by omega) (by omega)
    · have i1 := ih fuel (k + 1) b hb (by omega) (by omega)
      rw [bsF_f (decide_eq_false c1), ← i1]
      simp (config := {maxSteps := 1000000}) (disch := first | assumption | omega) only [f_X8_atRisk_5, f_X8_atRisk_5_body, f_X8_atRisk_55, m_rm0, m_im, r_ld hr, g, g2, zb2_s, zif_t, zopt_n, zopt_s, b_s, znm_e, lit_0, lit_1, lit_2, lit_3, lit_4, lit_5, lit_6, lit_7, lit_8, lit_9, lit_10, lit_11, lit_12, lit_13, lit_17, lit_20, lit_23, lit_24, lit_43, lit_48, lit_51, lit_57, lit_58, lit_59, lit_60, lit_61, lit_63, lit_77, lit_100, lit_140, lit_168, lit_200, lit_393, lit_400, lit_900, lit_969, lit_1000, lit_1041, lit_1045, lit_1093, lit_1168, lit_1200, lit_3279, lit_3333, lit_4372, lit_9999, nI_leE, bI_0, nI_add, nI_mul]
      rw [if_neg (by omega)]
      by_cases c2 : recS s k 5 = 0
      · rw [if_neg (by simp [c2]), if_pos (by omega)]
      · rw [if_pos (decide_eq_false c2)]
theorem e8_atRisk {z : Nat} {X : pX} {s : Nat → Nat} (hr : RoC X.1 s) (hB : RB s) (hF : FO s) : f_X8_atRisk (z + 1278) (hp z X) = some (oI (bsF (fun k => recS s k 2) (fun k => decide (recS s k 5 = 0 ∧ 0 < fo s k)) 0 (s 1) none), hp z X) := by
  have h := e8_rkL (z := z) hr hB hF (s 1) zN 0 none (fun j h => by cases h) (by omega) (zN_lt (by have := hB.1.2.1; omega))
  simp only [f_X8_atRisk, lit_0, lit_1, lit_2, lit_3, lit_4, lit_5, lit_6, lit_7, lit_8, lit_9, lit_10, lit_11, lit_12, lit_13, lit_17, lit_20, lit_23, lit_24, lit_43, lit_48, lit_51, lit_57, lit_58, lit_59, lit_60, lit_61, lit_63, lit_77, lit_100, lit_140, lit_168, lit_200, lit_393, lit_400, lit_900, lit_969, lit_1000, lit_1041, lit_1045, lit_1093, lit_1168, lit_1200, lit_3279, lit_3333, lit_4372, lit_9999, ← h]
  rfl
theorem e8_ciL {z : Nat} {X : pX} {s : Nat → Nat} (hr : RoC X.1 s) (hB : RB s) (hF : FO s) {H : Nat} (hH : H < 5000) : ∀ (n fuel k c : Nat), k + n = s 1 → n < fuel → f_X8_cancelledIn_18 fuel (z + 1278) (nI H) (nI c) (nI k) (hp z X) = some (nI (c + cA (fun k => decide (recS s k 5 = 0 ∧ recS s k 2 < s 0 + H ∧ 0 < fo s k)) k n), hp z X) := by
  intro n
  have b1 := hB.1.2.1
  have b0 := hB.1.1
  induction n with
  | zero =>
    intro fuel k c h1 h2
    obtain ⟨fuel, rfl⟩ : ∃ f, fuel = f + 1 := ⟨fuel - 1, by omega⟩
    have h1 : k = s 1 := h1
    simp (disch := first | assumption | omega) only [f_X8_cancelledIn_18, f_X8_cancelledIn_18_body, m_rm0, r_ld hr, zb2_s, zif_t, zopt_n, zopt_s, b_s, znm_e, lit_0, lit_1, lit_2, lit_3, lit_4, lit_5, lit_6, lit_7, lit_8, lit_9, lit_10, lit_11, lit_12, lit_13, lit_17, lit_20, lit_23, lit_24, lit_43, lit_48, lit_51, lit_57, lit_58, lit_59, lit_60, lit_61, lit_63, lit_77, lit_100, lit_140, lit_168, lit_200, lit_393, lit_400, lit_900, lit_969, lit_1000, lit_1041, lit_1045, lit_1093, lit_1168, lit_1200, lit_3279, lit_3333, lit_4372, lit_9999, nI_leE, cA_0, Nat.add_zero]
    rw [if_pos (by omega)]
  | succ n ih =>
    intro fuel k c h1 h2
    obtain ⟨fuel, rfl⟩ : ∃ f, fuel = f + 1 := ⟨fuel - 1, by omega⟩
    have hk : k < 48 := by omega
    have g := e8_free (z := z) hr hB hF (k := k) (by omega)
    have bp := fo_le hB hk
    have g2 := e8_is (z := z) hr hB hk (v := 0) (by omega)
    have g3 := e8_of (z := z) hr hk (w := 2) (by omega)
    have bk := (hB.2.1 k hk).2.2.1
    rw [show s (9 + 8 * k + 2) = recS s k 2 from rfl] at g3 bk
    have i1 := fun c => ih fuel (k + 1) c (by omega) (by omega)
    simp (config := {maxSteps := 1000000}) (disch := first | assumption | omega) only [f_X8_cancelledIn_18, f_X8_cancelledIn_18_body, f_X8_cancelledIn_67, f_X8_cancelledIn_68, m_rm0, m_im, r_ld hr, g, g2, g3, zb2_s, zif_t, zopt_n, zopt_s, b_s, znm_e, lit_0, lit_1, lit_2, lit_3, lit_4, lit_5, lit_6, lit_7, lit_8, lit_9, lit_10, lit_11, lit_12, lit_13, lit_17, lit_20, lit_23, lit_24, lit_43, lit_48, lit_51, lit_57, lit_58, lit_59, lit_60, lit_61, lit_63, lit_77, lit_100, lit_140, lit_168, lit_200, lit_393, lit_400, lit_900, lit_969, lit_1000, lit_1041, lit_1045, lit_1093, lit_1168, lit_1200, lit_3279, lit_3333, lit_4372, lit_9999, nI_leE, bI_0, nI_add, nI_mul, Nat.add_zero, i1]
    rw [if_neg (by omega)]
    by_cases c1 : recS s k 5 = 0 ∧ recS s k 2 < s 0 + H ∧ 0 < fo s k
    · rw [if_neg (by simp [c1.1]), if_neg (by omega), if_neg (by omega), cA_t (decide_eq_true c1), Nat.add_assoc]
    · rw [cA_f (decide_eq_false c1)]
      by_cases c2 : recS s k 5 = 0
      · rw [if_neg (by simp [c2])]
        by_cases c3 : s 0 + H ≤ recS s k 2
        · rw [if_pos c3]
        · rw [if_neg c3, if_pos (by omega)]
      · rw [if_pos (decide_eq_false c2)]
theorem e8_over {z : Nat} {X : pX} {s : Nat → Nat} (hr : RoC X.1 s) (hB : RB s) {m k : Nat} (hm : m < 12) (hk : k < 6) : ∃ V', f_X8_over (z + 1278) (nI m) (nI k) (hp z X) = some (nI (168 - cA (fD (dcN s m)) (168 * k) 168 - s 8), hp z (V', X.2)) ∧ KpY X.1 V' := by
  obtain ⟨V', q1, q2, q3⟩ := e8_count (z := z) hr hB hm
  have b8 := hB.1.2.2.2.1.2.2.2.2
  have g := e8_without (z := z) (X := (V', X.2)) q3 (dcN_ok hB m) (a := 168 * k) (N := 168) (by omega)
  have hc := cA_le (fD (dcN s m)) 168 (168 * k)
  have e1 : nI 168 - nI (cA (fD (dcN s m)) (168 * k) 168) = nI (168 - cA (fD (dcN s m)) (168 * k) 168) := nI_sub hc
  have r8 := r_ld (z := z) (X := (V', X.2)) (q2.ro hr) (i := 8) (by omega)
  have t := pk_sub_toInt (a := 168 - cA (fD (dcN s m)) (168 * k) 168) (b := s 8) (by omega) (by omega)
  have z0 : (nI 0).toInt = 0 := by decide
  refine ⟨V', ?_, q2⟩
  simp (config := {maxSteps := 1000000}) (disch := first | assumption | omega) only [f_X8_over, m_im, m_rm0, q1, nI_mul, g, r8, zb2_s, zif_t, zopt_n, zopt_s, b_s, znm_e, lit_0, lit_1, lit_2, lit_3, lit_4, lit_5, lit_6, lit_7, lit_8, lit_9, lit_10, lit_11, lit_12, lit_13, lit_17, lit_20, lit_23, lit_24, lit_43, lit_48, lit_51, lit_57, lit_58, lit_59, lit_60, lit_61, lit_63, lit_77, lit_100, lit_140, lit_168, lit_200, lit_393, lit_400, lit_900, lit_969, lit_1000, lit_1041, lit_1045, lit_1093, lit_1168, lit_1200, lit_3279, lit_3333, lit_4372, lit_9999, e1]
  by_cases c : 168 - cA (fD (dcN s m)) (168 * k) 168 ≤ s 8
  · rw [if_pos (Int32.le_iff_toInt_le.mpr (by omega)), show 168 - cA (fD (dcN s m)) (168 * k) 168 - s 8 = 0 by omega]
  · rw [if_neg (fun q => by have q := Int32.le_iff_toInt_le.mp q; omega), nI_sub (by omega)]
/-- a set of members, as bits -/
def abI (p : Nat → Bool) : Nat → Nat → Int32 → Int32
  | _, 0, c => c
  | k, n + 1, c => abI p (k + 1) n (match p k with
      | true => c ||| (nI 1 <<< (nI k &&& nI 31))
      | false => c)
theorem abI_t {p : Nat → Bool} {k n : Nat} {c : Int32} (h : p k = true) : abI p k (n + 1) c = abI p (k + 1) n (c ||| (nI 1 <<< (nI k &&& nI 31))) := by
  show abI p (k + 1) n (match p k with | true => _ | false => _) = _; rw [h]
theorem abI_f {p : Nat → Bool} {k n : Nat} {c : Int32} (h : p k = false) : abI p k (n + 1) c = abI p (k + 1) n c := by
  show abI p (k + 1) n (match p k with | true => _ | false => _) = _; rw [h]
theorem abI_congr {p q : Nat → Bool} : ∀ (n k : Nat) (c : Int32), (∀ i, k ≤ i → i < k + n → p i = q i) → abI p k n c = abI q k n c
  | 0, _, _, _ => rfl
  | n + 1, k, c, h => by
    have h2 := h k (by omega) (by omega)
    cases e : p k
    · rw [abI_f e, abI_f (h2 ▸ e), abI_congr n (k + 1) c (fun i a b => h i (by omega) (by omega))]
    · rw [abI_t e, abI_t (h2 ▸ e), abI_congr n (k + 1) _ (fun i a b => h i (by omega) (by omega))]
theorem lt31 : (31 : Int32) = nI 31 := by decide
theorem e8_ableL {z : Nat} {s : Nat → Nat} (hB : RB s) {k q : Nat} (hk : k < 48) (hq : q < 4) : ∀ (n fuel m : Nat) (c : Int32) (X : pX), RoC X.1 s → m + n = s 2 → n < fuel → ∃ V', f_X8_able_22 fuel (z + 1278) (nI k) (nI q) c (nI m) (hp z X) = some (abI (fun m => decide (rsnM s m k q = 0)) m n c, hp z (V', X.2)) ∧ KpM X.1 V' ∧ RoC V' s := by
  intro n
  have b2 := hB.1.2.2.1
  induction n with
  | zero =>
    intro fuel m c X hr h1 h2
    obtain ⟨fuel, rfl⟩ : ∃ f, fuel = f + 1 := ⟨fuel - 1, by omega⟩
    have h1 : m = s 2 := h1
    refine ⟨X.1, ?_, KpM.rf, hr⟩
    simp (disch := first | assumption | omega) only [f_X8_able_22, f_X8_able_22_body, m_rm0, r_ld hr, zb2_s, zif_t, zopt_n, zopt_s, b_s, znm_e, lit_0, lit_1, lit_2, lit_3, lit_4, lit_5, lit_6, lit_7, lit_8, lit_9, lit_10, lit_11, lit_12, lit_13, lit_17, lit_20, lit_23, lit_24, lit_43, lit_48, lit_51, lit_57, lit_58, lit_59, lit_60, lit_61, lit_63, lit_77, lit_100, lit_140, lit_168, lit_200, lit_393, lit_400, lit_900, lit_969, lit_1000, lit_1041, lit_1045, lit_1093, lit_1168, lit_1200, lit_3279, lit_3333, lit_4372, lit_9999, nI_leE, abI]
    rw [if_pos (by omega)]
  | succ n ih =>
    intro fuel m c X hr h1 h2
    obtain ⟨fuel, rfl⟩ : ∃ f, fuel = f + 1 := ⟨fuel - 1, by omega⟩
    obtain ⟨V1, p1, p2, p3⟩ := e8_reason (z := z) hr hB (m := m) (by omega) hk hq
    have b6 := rsnM_le s m k q
    by_cases d : rsnM s m k q = 0
    · obtain ⟨V', q1, q2, q3⟩ := ih fuel (m + 1) (c ||| (nI 1 <<< (nI m &&& nI 31))) (V1, X.2) p3 (by omega) (by omega)
      rw [abI_t (decide_eq_true d)]
      refine ⟨V', ?_, p2.tr q2, q3⟩
      simp (disch := first | assumption | omega) only [f_X8_able_22, f_X8_able_22_body, f_X8_able_53, m_rm0, m_im, r_ld hr, p1, d, lt31, zb2_s, zif_t, zopt_n, zopt_s, b_s, znm_e, lit_0, lit_1, lit_2, lit_3, lit_4, lit_5, lit_6, lit_7, lit_8, lit_9, lit_10, lit_11, lit_12, lit_13, lit_17, lit_20, lit_23, lit_24, lit_43, lit_48, lit_51, lit_57, lit_58, lit_59, lit_60, lit_61, lit_63, lit_77, lit_100, lit_140, lit_168, lit_200, lit_393, lit_400, lit_900, lit_969, lit_1000, lit_1041, lit_1045, lit_1093, lit_1168, lit_1200, lit_3279, lit_3333, lit_4372, lit_9999, nI_leE, if_true, nI_add, nI_mul, q1]
      rw [if_neg (by omega)]
    · obtain ⟨V', q1, q2, q3⟩ := ih fuel (m + 1) c (V1, X.2) p3 (by omega) (by omega)
      rw [abI_f (decide_eq_false d)]
      refine ⟨V', ?_, p2.tr q2, q3⟩
      have e0 : c ||| nI 0 = c := Int32.or_zero
      simp (disch := first | assumption | omega) only [f_X8_able_22, f_X8_able_22_body, f_X8_able_53, m_rm0, m_im, r_ld hr, p1, zb2_s, zif_t, zopt_n, zopt_s, b_s, znm_e, lit_0, lit_1, lit_2, lit_3, lit_4, lit_5, lit_6, lit_7, lit_8, lit_9, lit_10, lit_11, lit_12, lit_13, lit_17, lit_20, lit_23, lit_24, lit_43, lit_48, lit_51, lit_57, lit_58, lit_59, lit_60, lit_61, lit_63, lit_77, lit_100, lit_140, lit_168, lit_200, lit_393, lit_400, lit_900, lit_969, lit_1000, lit_1041, lit_1045, lit_1093, lit_1168, lit_1200, lit_3279, lit_3333, lit_4372, lit_9999, nI_leE, nI_eqE, nI_add, nI_mul, e0, q1]
      rw [if_neg (by omega), if_neg d]
/-- the first whose value is better than those before -/
def bF (val : Nat → Nat) (rel : Nat → Nat → Bool) : Nat → Nat → Option Nat → Nat → Option Nat
  | _, 0, b, _ => b
  | k, n + 1, b, v => match b.isNone || rel (val k) v with
    | true => bF val rel (k + 1) n (some k) (val k)
    | false => bF val rel (k + 1) n b v
theorem bF_t {val : Nat → Nat} {rel : Nat → Nat → Bool} {k n v : Nat} {b : Option Nat} (h : (b.isNone || rel (val k) v) = true) : bF val rel k (n + 1) b v = bF val rel (k + 1) n (some k) (val k) := by
  show (match b.isNone || rel (val k) v with | true => _ | false => _) = _; rw [h]
theorem bF_f {val : Nat → Nat} {rel : Nat → Nat → Bool} {k n v : Nat} {b : Option Nat} (h : (b.isNone || rel (val k) v) = false) : bF val rel k (n + 1) b v = bF val rel (k + 1) n b v := by
  show (match b.isNone || rel (val k) v with | true => _ | false => _) = _; rw [h]
theorem bF_congr {val val' : Nat → Nat} {rel : Nat → Nat → Bool} : ∀ (n k : Nat) (b : Option Nat) (v : Nat), (∀ i, k ≤ i → i < k + n → val i = val' i) → bF val rel k n b v = bF val' rel k n b v
  | 0, _, _, _, _ => rfl
  | n + 1, k, b, v, h => by
    have h2 := h k (by omega) (by omega)
    cases e : (b.isNone || rel (val k) v)
    · rw [bF_f e, bF_f (h2 ▸ e), bF_congr n (k + 1) b v (fun i a b => h i (by omega) (by omega))]
    · rw [bF_t e, bF_t (h2 ▸ e), bF_congr n (k + 1) _ _ (fun i a b => h i (by omega) (by omega)), h2]
theorem dh_lt {s : Nat → Nat} (hB : RB s) (m : Nat) : sA (dcN s m) 0 1200 < 100000 := by
  have h := (dcN_ok hB m).1
  have : ∀ n k, sA (dcN s m) k n ≤ 48 * n := by
    intro n
    induction n with
    | zero => intro k; exact Nat.le_refl _
    | succ n ih =>
      intro k
      have := ih (k + 1)
      have := h k
      rw [sA_s]
      omega
  have := this 1200 0
  omega
theorem e8_frL {z : Nat} {s : Nat → Nat} (hB : RB s) : ∀ (n fuel m v : Nat) (b : Option Nat) (X : pX), RoC X.1 s → v < 100000 → (∀ j, b = some j → j < 48) → m + n = s 2 → n < fuel → ∃ V', f_X8_freshest_7 fuel (z + 1278) (oI b) (nI v) (nI m) (hp z X) = some (oI (bF (fun m => sA (dcN s m) 0 1200) (fun a b => decide (a < b)) m n b v), hp z (V', X.2)) ∧ KpY X.1 V' := by
  intro n
  have b2 := hB.1.2.2.1
  induction n with
  | zero =>
    intro fuel m v b X hr hv hb h1 h2
    obtain ⟨fuel, rfl⟩ : ∃ f, fuel = f + 1 := ⟨fuel - 1, by omega⟩
    have h1 : m = s 2 := h1
    refine ⟨X.1, ?_, KpY.rf⟩
    simp (disch := first | assumption | omega) only [f_X8_freshest_7, f_X8_freshest_7_body, m_rm0, r_ld hr, zb2_s, zif_t, zopt_n, zopt_s, b_s, znm_e, lit_0, lit_1, lit_2, lit_3, lit_4, lit_5, lit_6, lit_7, lit_8, lit_9, lit_10, lit_11, lit_12, lit_13, lit_17, lit_20, lit_23, lit_24, lit_43, lit_48, lit_51, lit_57, lit_58, lit_59, lit_60, lit_61, lit_63, lit_77, lit_100, lit_140, lit_168, lit_200, lit_393, lit_400, lit_900, lit_969, lit_1000, lit_1041, lit_1045, lit_1093, lit_1168, lit_1200, lit_3279, lit_3333, lit_4372, lit_9999, nI_leE, bF]
    rw [if_pos (by omega)]
  | succ n ih =>
    intro fuel m v b X hr hv hb h1 h2
    obtain ⟨fuel, rfl⟩ : ∃ f, fuel = f + 1 := ⟨fuel - 1, by omega⟩
    obtain ⟨V1, p1, p2⟩ := e8_hours (z := z) hr hB (m := m) (by omega)
    have bl := dh_lt hB m
    obtain ⟨Va, a1, a2⟩ := ih fuel (m + 1) (sA (dcN s m) 0 1200) (some m) (V1, X.2) (p2.ro hr) bl (fun j h => by cases h; omega) (by omega) (by omega)
    obtain ⟨Vb, b1, b3⟩ := ih fuel (m + 1) v b (V1, X.2) (p2.ro hr) hv hb (by omega) (by omega)
    cases b with
    | none =>
      rw [bF_t (by rfl)]
      refine ⟨Va, ?_, p2.tr a2⟩
      have a1 : f_X8_freshest_7 fuel (z + 1278) (nI m) (nI (sA (dcN s m) 0 1200)) (nI (m + 1)) (hp z (V1, X.2)) = _ := a1
      simp (disch := first | assumption | omega) only [f_X8_freshest_7, f_X8_freshest_7_body, f_X8_freshest_36, f_X8_freshest_41, m_rm0, m_im, r_ld hr, p1, zb2_s, zif_t, zopt_n, zopt_s, b_s, znm_e, lit_0, lit_1, lit_2, lit_3, lit_4, lit_5, lit_6, lit_7, lit_8, lit_9, lit_10, lit_11, lit_12, lit_13, lit_17, lit_20, lit_23, lit_24, lit_43, lit_48, lit_51, lit_57, lit_58, lit_59, lit_60, lit_61, lit_63, lit_77, lit_100, lit_140, lit_168, lit_200, lit_393, lit_400, lit_900, lit_969, lit_1000, lit_1041, lit_1045, lit_1093, lit_1168, lit_1200, lit_3279, lit_3333, lit_4372, lit_9999, nI_leE, oI, m5_e, if_true, nI_add, nI_mul, a1]
      rw [if_neg (by omega)]
    | some j =>
      have hj := hb j rfl
      have n5 := nI_ne5 (j := j) (by omega)
      have a1 : f_X8_freshest_7 fuel (z + 1278) (nI m) (nI (sA (dcN s m) 0 1200)) (nI (m + 1)) (hp z (V1, X.2)) = _ := a1
      have b1 : f_X8_freshest_7 fuel (z + 1278) (nI j) (nI v) (nI (m + 1)) (hp z (V1, X.2)) = _ := b1
      by_cases c : sA (dcN s m) 0 1200 < v
      · rw [bF_t (by simp [c])]
        refine ⟨Va, ?_, p2.tr a2⟩
        simp (disch := first | assumption | omega) only [f_X8_freshest_7, f_X8_freshest_7_body, f_X8_freshest_36, f_X8_freshest_41, m_rm0, m_im, r_ld hr, p1, zb2_s, zif_t, zopt_n, zopt_s, b_s, znm_e, lit_0, lit_1, lit_2, lit_3, lit_4, lit_5, lit_6, lit_7, lit_8, lit_9, lit_10, lit_11, lit_12, lit_13, lit_17, lit_20, lit_23, lit_24, lit_43, lit_48, lit_51, lit_57, lit_58, lit_59, lit_60, lit_61, lit_63, lit_77, lit_100, lit_140, lit_168, lit_200, lit_393, lit_400, lit_900, lit_969, lit_1000, lit_1041, lit_1045, lit_1093, lit_1168, lit_1200, lit_3279, lit_3333, lit_4372, lit_9999, nI_leE, oI, n5, if_false, nI_add, nI_mul, a1]
        rw [if_neg (by omega), if_neg (by omega)]
      · rw [bF_f (by simp [c])]
        refine ⟨Vb, ?_, p2.tr b3⟩
        simp (disch := first | assumption | omega) only [f_X8_freshest_7, f_X8_freshest_7_body, f_X8_freshest_36, f_X8_freshest_41, m_rm0, m_im, r_ld hr, p1, zb2_s, zif_t, zopt_n, zopt_s, b_s, znm_e, lit_0, lit_1, lit_2, lit_3, lit_4, lit_5, lit_6, lit_7, lit_8, lit_9, lit_10, lit_11, lit_12, lit_13, lit_17, lit_20, lit_23, lit_24, lit_43, lit_48, lit_51, lit_57, lit_58, lit_59, lit_60, lit_61, lit_63, lit_77, lit_100, lit_140, lit_168, lit_200, lit_393, lit_400, lit_900, lit_969, lit_1000, lit_1041, lit_1045, lit_1093, lit_1168, lit_1200, lit_3279, lit_3333, lit_4372, lit_9999, nI_leE, oI, n5, if_false, nI_add, nI_mul, b1]
        rw [if_neg (by omega), if_pos (by omega)]
theorem e8_freshest {z : Nat} {X : pX} {s : Nat → Nat} (hr : RoC X.1 s) (hB : RB s) : ∃ V', f_X8_freshest (z + 1278) (hp z X) = some (oI (bF (fun m => sA (dcN s m) 0 1200) (fun a b => decide (a < b)) 0 (s 2) none 0), hp z (V', X.2)) ∧ KpY X.1 V' := by
  obtain ⟨V', h, h2⟩ := e8_frL (z := z) hB (s 2) zN 0 0 none X hr (by omega) (fun j h => by cases h) (by omega) (zN_lt (by have := hB.1.2.2.1; omega))
  exact ⟨V', by simp only [f_X8_freshest, lit_0, lit_1, lit_2, lit_3, lit_4, lit_5, lit_6, lit_7, lit_8, lit_9, lit_10, lit_11, lit_12, lit_13, lit_17, lit_20, lit_23, lit_24, lit_43, lit_48, lit_51, lit_57, lit_58, lit_59, lit_60, lit_61, lit_63, lit_77, lit_100, lit_140, lit_168, lit_200, lit_393, lit_400, lit_900, lit_969, lit_1000, lit_1041, lit_1045, lit_1093, lit_1168, lit_1200, lit_3279, lit_3333, lit_4372, lit_9999, ← h]; rfl, h2⟩
