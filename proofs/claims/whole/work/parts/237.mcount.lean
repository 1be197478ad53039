/-! the reference: count -/
def cnt (s : Nat → Nat) (sick over free taken kept len : Nat) (w : Int32) : Int32 :=
  if w = nI 0 then nI (s 0) else if w = nI 1 then nI (s 1) else if w = nI 2 then -nI 2 else if w = nI 3 then -nI 2 else if w = nI 4 then -nI 2 else if w = nI 5 then nI (s 2) else if w = nI 6 then nI sick else if w = nI 7 then nI free else if w = nI 8 then nI taken else if w = nI 9 then nI (s 3) else if w = nI 10 then nI over else if w = nI 11 then nI kept else if w = nI 12 then nI len else -nI 2
theorem lt11 : (11 : Int32) = nI 11 := by decide
theorem e8_cnS {z : Nat} {X : pX} {s : Nat → Nat} (hr : RoC X.1 s) (hB : RB s) (hF : FO s) {w : Int32} {sick over kept len : Nat} (hk9 : X.1 1278 9 = nI kept) (hk10 : X.1 1278 10 = nI len) : ∀ (n fuel k a b : Nat), k + n = s 1 → n < fuel → f_X8_count_123 fuel (z + 1278) w (nI sick) (nI over) (nI a) (nI b) (nI k) (hp z X) = some (cnt s sick over (a + sA (fun k => if recS s k 5 = 0 then fo s k else 0) k n) (b + sA (fun k => if recS s k 5 = 0 then tkO s k else 0) k n) kept len w, hp z X) := by
  intro n
  have b1 := hB.1.2.1
  induction n with
  | zero =>
    intro fuel k a b h1 h2
    obtain ⟨fuel, rfl⟩ : ∃ f, fuel = f + 1 := ⟨fuel - 1, by omega⟩
    have h1 : k = s 1 := h1
    have r0 := r_ld (z := z) hr (i := 0) (by omega)
    have r1 := r_ld (z := z) hr (i := 1) (by omega)
    have r2 := r_ld (z := z) hr (i := 2) (by omega)
    have r3 := r_ld (z := z) hr (i := 3) (by omega)
    rw [← lit_0] at r0
    rw [← lit_1] at r1
    rw [← lit_2] at r2
    rw [← lit_3] at r3
    show f_X8_count_123_body (f_X8_count_123 fuel) (z + 1278) w (nI sick) (nI over) (nI a) (nI b) (nI k) (hp z X) = _
    unfold f_X8_count_123_body cnt
    rw [m_rm0, b_s, r1, b_s, if_pos (nI_le (by omega) (by omega)), b_s, r0, b_s, b_s, r1, b_s, b_s, r2, b_s, b_s, r3, b_s, m_gm9, hk9, b_s, m_gm10, hk10, b_s, sA_0, sA_0, lit_0, lit_1, lit_2, lit_3, lit_4, lit_5, lit_6, lit_7, lit_8, lit_9, lit_10, lt11, lit_12]
    by_cases c0 : w = nI 0
    · rw [if_pos c0, if_pos c0]
    rw [if_neg c0, if_neg c0]
    by_cases c1 : w = nI 1
    · rw [if_pos c1, if_pos c1]
    rw [if_neg c1, if_neg c1]
    by_cases c2 : w = nI 2
    · rw [if_pos c2, if_pos c2]
    rw [if_neg c2, if_neg c2]
    by_cases c3 : w = nI 3
    · rw [if_pos c3, if_pos c3]
    rw [if_neg c3, if_neg c3]
    by_cases c4 : w = nI 4
    · rw [if_pos c4, if_pos c4]
    rw [if_neg c4, if_neg c4]
    by_cases c5 : w = nI 5
    · rw [if_pos c5, if_pos c5]
    rw [if_neg c5, if_neg c5]
    by_cases c6 : w = nI 6
    · rw [if_pos c6, if_pos c6]
    rw [if_neg c6, if_neg c6]
    by_cases c7 : w = nI 7
    · rw [if_pos c7, if_pos c7]; rfl
    rw [if_neg c7, if_neg c7]
    by_cases c8 : w = nI 8
    · rw [if_pos c8, if_pos c8]; rfl
    rw [if_neg c8, if_neg c8]
    by_cases c9 : w = nI 9
    · rw [if_pos c9, if_pos c9]
    rw [if_neg c9, if_neg c9]
    by_cases c10 : w = nI 10
    · rw [if_pos c10, if_pos c10]
    rw [if_neg c10, if_neg c10]
    by_cases c11 : w = nI 11
    · rw [if_pos c11, if_pos c11]
    rw [if_neg c11, if_neg c11]
    by_cases c12 : w = nI 12
    · rw [if_pos c12, if_pos c12]
    rw [if_neg c12, if_neg c12]
  | succ n ih =>
    intro fuel k a b h1 h2
    obtain ⟨fuel, rfl⟩ : ∃ f, fuel = f + 1 := ⟨fuel - 1, by omega⟩
    have hk : k < 48 := by omega
    have g1 := e8_is (z := z) hr hB hk (v := 0) (by omega)
    have g2 := e8_free (z := z) hr hB hF (k := k) (by omega)
    have g3 := e8_takenOf (z := z) hr hB hk
    have i1 := fun a b => ih fuel (k + 1) a b (by omega) (by omega)
    have r1 := r_ld (z := z) hr (i := 1) (by omega)
    rw [← lit_1] at r1
    show f_X8_count_123_body (f_X8_count_123 fuel) (z + 1278) w (nI sick) (nI over) (nI a) (nI b) (nI k) (hp z X) = _
    unfold f_X8_count_123_body
    rw [m_rm0, b_s, r1, b_s, if_neg (nI_ge (by omega) (by omega))]
    simp (config := {maxSteps := 1000000}) (disch := first | assumption | omega) only [f_X8_count_156, f_X8_count_181, m_im, g1, g2, g3, zb2_s, zif_t, zopt_n, zopt_s, b_s, znm_e, lit_0, lit_1, lit_2, lit_3, lit_4, lit_5, lit_6, lit_7, lit_8, lit_9, lit_10, lit_11, lit_12, lit_13, lit_17, lit_20, lit_23, lit_24, lit_43, lit_48, lit_51, lit_57, lit_58, lit_59, lit_60, lit_61, lit_63, lit_77, lit_100, lit_140, lit_168, lit_200, lit_393, lit_400, lit_900, lit_969, lit_1000, lit_1041, lit_1045, lit_1093, lit_1168, lit_1200, lit_3279, lit_3333, lit_4372, lit_9999, bI_0, nI_add, nI_mul, Nat.add_zero, i1]
    rw [sA_s, sA_s]
    by_cases c : recS s k 5 = 0
    · rw [if_neg (by simp [c]), if_neg (by simp [c]), if_pos c, if_pos c, Nat.add_assoc, Nat.add_assoc]
    · rw [if_pos (decide_eq_false c), if_pos (decide_eq_false c), if_neg c, if_neg c, Nat.zero_add, Nat.zero_add]
/-- hours beyond of a member in all weeks -/
def hbM (s : Nat → Nat) (m k : Nat) : Nat := 168 - cA (fD (dcN s m)) (168 * k) 168 - s 8
theorem e8_cnW {z : Nat} {s : Nat → Nat} (hB : RB s) {m : Nat} (hm : m < 12) {r53 : Nat → Int32 → Int32 → Int32 → Int32 → Int32 → Int32 → zHp → Option (Int32 × zHp)} {sick : Nat} : ∀ (n fuel k c : Nat) (X : pX), RoC X.1 s → k + n = 6 → n < fuel → ∃ V', f_X8_count_84 r53 fuel (z + 1278) (nI 10) (nI sick) (nI c) (nI 0) (nI 0) (nI m) (nI k) (hp z X) = r53 (z + 1278) (nI 10) (nI sick) (nI (c + sA (hbM s m) k n)) (nI 0) (nI 0) (nI (m + 1)) (hp z (V', X.2)) ∧ KpY X.1 V' := by
  intro n
  induction n with
  | zero =>
    intro fuel k c X hr h1 h2
    obtain ⟨fuel, rfl⟩ : ∃ f, fuel = f + 1 := ⟨fuel - 1, by omega⟩
    obtain rfl : k = 6 := by omega
    refine ⟨X.1, ?_, KpY.rf⟩
    simp (disch := first | assumption | omega) only [f_X8_count_84, f_X8_count_84_body, f_X8_count_114, zb2_s, zif_t, zopt_n, zopt_s, b_s, znm_e, lit_0, lit_1, lit_2, lit_3, lit_4, lit_5, lit_6, lit_7, lit_8, lit_9, lit_10, lit_11, lit_12, lit_13, lit_17, lit_20, lit_23, lit_24, lit_43, lit_48, lit_51, lit_57, lit_58, lit_59, lit_60, lit_61, lit_63, lit_77, lit_100, lit_140, lit_168, lit_200, lit_393, lit_400, lit_900, lit_969, lit_1000, lit_1041, lit_1045, lit_1093, lit_1168, lit_1200, lit_3279, lit_3333, lit_4372, lit_9999, nI_leE, Nat.le_refl, if_true, sA_0, Nat.add_zero, nI_add, nI_mul]
  | succ n ih =>
    intro fuel k c X hr h1 h2
    obtain ⟨fuel, rfl⟩ : ∃ f, fuel = f + 1 := ⟨fuel - 1, by omega⟩
    obtain ⟨V1, p1, p2⟩ := e8_over (z := z) hr hB hm (k := k) (by omega)
    obtain ⟨V', q1, q2⟩ := ih fuel (k + 1) (c + hbM s m k) (V1, X.2) (p2.ro hr) (by omega) (by omega)
    refine ⟨V', ?_, p2.tr q2⟩
    have p1 : f_X8_over (z + 1278) (nI m) (nI k) (hp z X) = some (nI (hbM s m k), hp z (V1, X.2)) := p1
    simp (disch := first | assumption | omega) only [f_X8_count_84, f_X8_count_84_body, m_im, zb2_s, zif_t, zopt_n, zopt_s, b_s, znm_e, lit_0, lit_1, lit_2, lit_3, lit_4, lit_5, lit_6, lit_7, lit_8, lit_9, lit_10, lit_11, lit_12, lit_13, lit_17, lit_20, lit_23, lit_24, lit_43, lit_48, lit_51, lit_57, lit_58, lit_59, lit_60, lit_61, lit_63, lit_77, lit_100, lit_140, lit_168, lit_200, lit_393, lit_400, lit_900, lit_969, lit_1000, lit_1041, lit_1045, lit_1093, lit_1168, lit_1200, lit_3279, lit_3333, lit_4372, lit_9999, nI_leE, p1, if_true, nI_add, nI_mul, q1, sA_s, Nat.add_assoc]
    rw [if_neg (by omega)]
theorem e8_cnM10 {z : Nat} {s : Nat → Nat} (hB : RB s) : ∀ (n fuel m a c : Nat) (X : pX), RoC X.1 s → m + n = s 2 → n < fuel → ∃ V' sick, f_X8_count_53 fuel (z + 1278) (nI 10) (nI a) (nI c) (nI 0) (nI 0) (nI m) (hp z X) = f_X8_count_123 zN (z + 1278) (nI 10) (nI sick) (nI (c + sA (fun m => sA (hbM s m) 0 6) m n)) (nI 0) (nI 0) (nI 0) (hp z (V', X.2)) ∧ KpY X.1 V' := by
  intro n
  have b2 := hB.1.2.2.1
  induction n with
  | zero =>
    intro fuel m a c X hr h1 h2
    obtain ⟨fuel, rfl⟩ : ∃ f, fuel = f + 1 := ⟨fuel - 1, by omega⟩
    have h1 : m = s 2 := h1
    refine ⟨X.1, a, ?_, KpY.rf⟩
    simp (disch := first | assumption | omega) only [f_X8_count_53, f_X8_count_53_body, m_rm0, r_ld hr, zb2_s, zif_t, zopt_n, zopt_s, b_s, znm_e, lit_0, lit_1, lit_2, lit_3, lit_4, lit_5, lit_6, lit_7, lit_8, lit_9, lit_10, lit_11, lit_12, lit_13, lit_17, lit_20, lit_23, lit_24, lit_43, lit_48, lit_51, lit_57, lit_58, lit_59, lit_60, lit_61, lit_63, lit_77, lit_100, lit_140, lit_168, lit_200, lit_393, lit_400, lit_900, lit_969, lit_1000, lit_1041, lit_1045, lit_1093, lit_1168, lit_1200, lit_3279, lit_3333, lit_4372, lit_9999, nI_leE, sA_0, Nat.add_zero]
    rw [if_pos (by omega)]
  | succ n ih =>
    intro fuel m a c X hr h1 h2
    obtain ⟨fuel, rfl⟩ : ∃ f, fuel = f + 1 := ⟨fuel - 1, by omega⟩
    have hm : m < 12 := by omega
    have g := e8_isSick (z := z) hr hB hm
    have key : ∀ a, ∃ V' sick, f_X8_count_84 (f_X8_count_53 fuel) zN (z + 1278) (nI 10) (nI a) (nI c) (nI 0) (nI 0) (nI m) (nI 0) (hp z X) = f_X8_count_123 zN (z + 1278) (nI 10) (nI sick) (nI (c + sA (fun m => sA (hbM s m) 0 6) m (n + 1))) (nI 0) (nI 0) (nI 0) (hp z (V', X.2)) ∧ KpY X.1 V' := by
      intro a
      obtain ⟨V1, p1, p2⟩ := e8_cnW (z := z) hB hm (r53 := f_X8_count_53 fuel) (sick := a) 6 zN 0 c X hr rfl (zN_lt (by omega))
      obtain ⟨V', sick, q1, q2⟩ := ih fuel (m + 1) a (c + sA (hbM s m) 0 6) (V1, X.2) (p2.ro hr) (by omega) (by omega)
      refine ⟨V', sick, ?_, p2.tr q2⟩
      rw [p1, q1, sA_s (f := fun m => sA (hbM s m) 0 6), Nat.add_assoc]
    by_cases c1 : s 0 < s (969 + 6 * m + 4)
    · obtain ⟨V', sick, q1, q2⟩ := key (a + 1)
      refine ⟨V', sick, ?_, q2⟩
      simp (disch := first | assumption | omega) only [f_X8_count_53, f_X8_count_53_body, f_X8_count_79, m_rm0, m_im, r_ld hr, g, zb2_s, zif_t, zopt_n, zopt_s, b_s, znm_e, lit_0, lit_1, lit_2, lit_3, lit_4, lit_5, lit_6, lit_7, lit_8, lit_9, lit_10, lit_11, lit_12, lit_13, lit_17, lit_20, lit_23, lit_24, lit_43, lit_48, lit_51, lit_57, lit_58, lit_59, lit_60, lit_61, lit_63, lit_77, lit_100, lit_140, lit_168, lit_200, lit_393, lit_400, lit_900, lit_969, lit_1000, lit_1041, lit_1045, lit_1093, lit_1168, lit_1200, lit_3279, lit_3333, lit_4372, lit_9999, nI_leE, bI_0, nI_add, nI_mul, q1]
      rw [if_neg (by omega), if_neg (by simp [c1])]
    · obtain ⟨V', sick, q1, q2⟩ := key a
      refine ⟨V', sick, ?_, q2⟩
      simp (disch := first | assumption | omega) only [f_X8_count_53, f_X8_count_53_body, f_X8_count_79, m_rm0, m_im, r_ld hr, g, zb2_s, zif_t, zopt_n, zopt_s, b_s, znm_e, lit_0, lit_1, lit_2, lit_3, lit_4, lit_5, lit_6, lit_7, lit_8, lit_9, lit_10, lit_11, lit_12, lit_13, lit_17, lit_20, lit_23, lit_24, lit_43, lit_48, lit_51, lit_57, lit_58, lit_59, lit_60, lit_61, lit_63, lit_77, lit_100, lit_140, lit_168, lit_200, lit_393, lit_400, lit_900, lit_969, lit_1000, lit_1041, lit_1045, lit_1093, lit_1168, lit_1200, lit_3279, lit_3333, lit_4372, lit_9999, nI_leE, bI_0, nI_add, nI_mul, Nat.add_zero, q1]
      rw [if_neg (by omega), if_pos (decide_eq_false c1)]
theorem e8_cnMx {z : Nat} {X : pX} {s : Nat → Nat} (hr : RoC X.1 s) (hB : RB s) {w : Int32} (hw : w ≠ nI 10) : ∀ (n fuel m a : Nat), m + n = s 2 → n < fuel → f_X8_count_53 fuel (z + 1278) w (nI a) (nI 0) (nI 0) (nI 0) (nI m) (hp z X) = f_X8_count_123 zN (z + 1278) w (nI (a + cA (fun m => decide (s 0 < s (969 + 6 * m + 4))) m n)) (nI 0) (nI 0) (nI 0) (nI 0) (hp z X) := by
  intro n
  have b2 := hB.1.2.2.1
  have hz : ∃ f, zN = f + 1 := ⟨zN - 1, by have := zN_eq; omega⟩
  induction n with
  | zero =>
    intro fuel m a h1 h2
    obtain ⟨fuel, rfl⟩ : ∃ f, fuel = f + 1 := ⟨fuel - 1, by omega⟩
    have h1 : m = s 2 := h1
    simp (disch := first | assumption | omega) only [f_X8_count_53, f_X8_count_53_body, m_rm0, r_ld hr, zb2_s, zif_t, zopt_n, zopt_s, b_s, znm_e, lit_0, lit_1, lit_2, lit_3, lit_4, lit_5, lit_6, lit_7, lit_8, lit_9, lit_10, lit_11, lit_12, lit_13, lit_17, lit_20, lit_23, lit_24, lit_43, lit_48, lit_51, lit_57, lit_58, lit_59, lit_60, lit_61, lit_63, lit_77, lit_100, lit_140, lit_168, lit_200, lit_393, lit_400, lit_900, lit_969, lit_1000, lit_1041, lit_1045, lit_1093, lit_1168, lit_1200, lit_3279, lit_3333, lit_4372, lit_9999, nI_leE, cA_0, Nat.add_zero]
    rw [if_pos (by omega)]
  | succ n ih =>
    intro fuel m a h1 h2
    obtain ⟨fuel, rfl⟩ : ∃ f, fuel = f + 1 := ⟨fuel - 1, by omega⟩
    have hm : m < 12 := by omega
    have g := e8_isSick (z := z) hr hB hm
    have i1 := fun a => ih fuel (m + 1) a (by omega) (by omega)
    have key : ∀ a, f_X8_count_84 (f_X8_count_53 fuel) zN (z + 1278) w (nI a) (nI 0) (nI 0) (nI 0) (nI m) (nI 0) (hp z X) = f_X8_count_53 fuel (z + 1278) w (nI a) (nI 0) (nI 0) (nI 0) (nI (m + 1)) (hp z X) := by
      intro a
      obtain ⟨f, hf⟩ := hz
      rw [hf]
      simp (disch := first | assumption | omega) only [f_X8_count_84, f_X8_count_84_body, f_X8_count_114, zb2_s, zif_t, zopt_n, zopt_s, b_s, znm_e, lit_0, lit_1, lit_2, lit_3, lit_4, lit_5, lit_6, lit_7, lit_8, lit_9, lit_10, lit_11, lit_12, lit_13, lit_17, lit_20, lit_23, lit_24, lit_43, lit_48, lit_51, lit_57, lit_58, lit_59, lit_60, lit_61, lit_63, lit_77, lit_100, lit_140, lit_168, lit_200, lit_393, lit_400, lit_900, lit_969, lit_1000, lit_1041, lit_1045, lit_1093, lit_1168, lit_1200, lit_3279, lit_3333, lit_4372, lit_9999, nI_leE, nI_add, nI_mul, hw, if_false]
      rw [if_neg (by omega)]
    by_cases c1 : s 0 < s (969 + 6 * m + 4)
    · simp (disch := first | assumption | omega) only [f_X8_count_53, f_X8_count_53_body, f_X8_count_79, m_rm0, m_im, r_ld hr, g, zb2_s, zif_t, zopt_n, zopt_s, b_s, znm_e, lit_0, lit_1, lit_2, lit_3, lit_4, lit_5, lit_6, lit_7, lit_8, lit_9, lit_10, lit_11, lit_12, lit_13, lit_17, lit_20, lit_23, lit_24, lit_43, lit_48, lit_51, lit_57, lit_58, lit_59, lit_60, lit_61, lit_63, lit_77, lit_100, lit_140, lit_168, lit_200, lit_393, lit_400, lit_900, lit_969, lit_1000, lit_1041, lit_1045, lit_1093, lit_1168, lit_1200, lit_3279, lit_3333, lit_4372, lit_9999, nI_leE, bI_0, nI_add, nI_mul, key, i1]
      rw [if_neg (by omega), if_neg (by simp [c1]), cA_t (decide_eq_true c1), Nat.add_assoc]
    · simp (disch := first | assumption | omega) only [f_X8_count_53, f_X8_count_53_body, f_X8_count_79, m_rm0, m_im, r_ld hr, g, zb2_s, zif_t, zopt_n, zopt_s, b_s, znm_e, lit_0, lit_1, lit_2, lit_3, lit_4, lit_5, lit_6, lit_7, lit_8, lit_9, lit_10, lit_11, lit_12, lit_13, lit_17, lit_20, lit_23, lit_24, lit_43, lit_48, lit_51, lit_57, lit_58, lit_59, lit_60, lit_61, lit_63, lit_77, lit_100, lit_140, lit_168, lit_200, lit_393, lit_400, lit_900, lit_969, lit_1000, lit_1041, lit_1045, lit_1093, lit_1168, lit_1200, lit_3279, lit_3333, lit_4372, lit_9999, nI_leE, bI_0, nI_add, nI_mul, Nat.add_zero, key, i1]
      rw [if_neg (by omega), if_pos (decide_eq_false c1), cA_f (decide_eq_false c1)]
/-- count's loops -/
theorem e8_cn {z : Nat} {X : pX} {s : Nat → Nat} (hr : RoC X.1 s) (hB : RB s) (hF : FO s) {w : Int32} {kept len : Nat} (hk9 : X.1 1278 9 = nI kept) (hk10 : X.1 1278 10 = nI len) : ∃ V', f_X8_count_53 zN (z + 1278) w (nI 0) (nI 0) (nI 0) (nI 0) (nI 0) (hp z X) = some (cnt s (cA (fun m => decide (s 0 < s (969 + 6 * m + 4))) 0 (s 2)) (sA (fun m => sA (hbM s m) 0 6) 0 (s 2)) (sA (fun k => if recS s k 5 = 0 then fo s k else 0) 0 (s 1)) (sA (fun k => if recS s k 5 = 0 then tkO s k else 0) 0 (s 1)) kept len w, hp z (V', X.2)) ∧ KpY X.1 V' := by
  have b1 := hB.1.2.1
  have b2 := hB.1.2.2.1
  by_cases c : w = nI 10
  · subst c
    obtain ⟨V', sick, q1, q2⟩ := e8_cnM10 (z := z) hB (s 2) zN 0 0 0 X hr (by omega) (zN_lt (by omega))
    have h := e8_cnS (z := z) (X := (V', X.2)) (q2.ro hr) hB hF (w := nI 10) (sick := sick) (over := 0 + sA (fun m => sA (hbM s m) 0 6) 0 (s 2)) (kept := kept) (len := len) (by dsimp only; rw [q2 1278 (by omega)]; exact hk9) (by dsimp only; rw [q2 1278 (by omega)]; exact hk10) (s 1) zN 0 0 0 (by omega) (zN_lt (by omega))
    refine ⟨V', ?_, q2⟩
    rw [q1, h, Nat.zero_add, Nat.zero_add, Nat.zero_add]
    rfl
  · refine ⟨X.1, ?_, KpY.rf⟩
    rw [e8_cnMx (z := z) hr hB c (s 2) zN 0 0 (by omega) (zN_lt (by omega)), Nat.zero_add, e8_cnS (z := z) hr hB hF (sick := _) (over := 0) hk9 hk10 (s 1) zN 0 0 0 (by omega) (zN_lt (by omega)), Nat.zero_add, Nat.zero_add]
    unfold cnt
    simp only [c, if_false]
