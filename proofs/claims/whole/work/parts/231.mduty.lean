/-! the reference counts duties hour by hour -/
def DyC (V : pV) (D : Nat → Nat) : Prop := ∀ h, h < 1200 → V 1285 h = nI (D h)
def DyOk (D : Nat → Nat) : Prop := (∀ h, D h ≤ 48) ∧ ∀ h, 1000 ≤ h → D h = 0
def KpY (V V' : pV) : Prop := ∀ o, o ≠ 1285 → V' o = V o
theorem KpY.tr {V V1 V2 : pV} (h : KpY V V1) (g : KpY V1 V2) : KpY V V2 := fun o a => (g o a).trans (h o a)
theorem KpY.rf {V : pV} : KpY V V := fun _ _ => rfl
theorem KpY.ro {V V' : pV} {s : Nat → Nat} (h : KpY V V') (hr : RoC V s) : RoC V' s := hr.kept (h 1279 (by omega))
def dcB (s : Nat → Nat) (m h k : Nat) : Bool := hdB s m k && decide (bgN s m k ≤ h ∧ h < recS s k 3)
def dcN (s : Nat → Nat) (m h : Nat) : Nat := cA (dcB s m h) 0 (s 1)
theorem bgN_le {s : Nat → Nat} {m k : Nat} : bgN s m k ≤ recS s k 2 := by
  unfold bgN; split <;> omega
theorem dcN_ok {s : Nat → Nat} (hB : RB s) (m : Nat) : DyOk (dcN s m) := by
  have b1 := hB.1.2.1
  refine ⟨fun h => ?_, fun h hh => ?_⟩
  · have := cA_le (dcB s m h) (s 1) 0
    unfold dcN; omega
  · refine cA_all0 _ _ (fun i _ hi => ?_)
    have bk := hB.2.1 i (by omega)
    have e3 : recS s i 3 = s (9 + 8 * i + 2) + s (9 + 8 * i + 3) := rfl
    unfold dcB
    rw [decide_eq_false (by omega), Bool.and_false]
theorem e8_cnL3 {z m : Nat} {e : Nat} (he : e < 1200) {r24 : Nat → Int32 → Int32 → zHp → Option zHp} {k : Nat} : ∀ (n fuel a : Nat) (X : pX) (D : Nat → Nat), a + n = e → n < fuel → DyC X.1 D → ∃ V', f_X8_countDuties_57 r24 fuel (z + 1278) (nI m) (nI k) (nI e) (nI a) (hp z X) = r24 (z + 1278) (nI m) (nI k + nI 1) (hp z (V', X.2)) ∧ KpY X.1 V' ∧ DyC V' (fun h => D h + (decide (a ≤ h ∧ h < e)).toNat) := by
  intro n
  induction n with
  | zero =>
    intro fuel a X D h1 h2 hD
    obtain ⟨fuel, rfl⟩ : ∃ f, fuel = f + 1 := ⟨fuel - 1, by omega⟩
    have h1 : a = e := h1
    refine ⟨X.1, ?_, KpY.rf, fun h hh => ?_⟩
    · simp (disch := first | assumption | omega) only [f_X8_countDuties_57, f_X8_countDuties_57_body, f_X8_countDuties_80, zb2_s, zif_t, zopt_n, zopt_s, b_s, znm_e, lit_0, lit_1, lit_2, lit_3, lit_4, lit_5, lit_6, lit_7, lit_8, lit_9, lit_10, lit_11, lit_12, lit_13, lit_17, lit_20, lit_23, lit_24, lit_43, lit_48, lit_51, lit_57, lit_58, lit_59, lit_60, lit_61, lit_63, lit_77, lit_100, lit_140, lit_168, lit_200, lit_393, lit_400, lit_900, lit_969, lit_1000, lit_1041, lit_1045, lit_1093, lit_1168, lit_1200, lit_3279, lit_3333, lit_4372, lit_9999, nI_leE]
      rw [if_pos (by omega)]
    · dsimp only; rw [decide_eq_false (by omega)]; exact hD h hh
  | succ n ih =>
    intro fuel a X D h1 h2 hD
    obtain ⟨fuel, rfl⟩ : ∃ f, fuel = f + 1 := ⟨fuel - 1, by omega⟩
    have ha := hD a (by omega)
    obtain ⟨V', q1, q2, q3⟩ := ih fuel (a + 1) (sV X.1 1285 (upd (X.1 1285) a (nI (D a + 1))), X.2) (updN D a (D a + 1)) (by omega) (by omega) (fun h hh => by
      dsimp only; rw [sV_s]
      by_cases c : h = a
      · rw [c, pk_us, updN_s]
      · rw [pk_un c, updN_n c]; exact hD h hh)
    refine ⟨V', ?_, fun o ho => by rw [q2 o ho]; exact sV_n ho, fun h hh => ?_⟩
    · simp (disch := first | assumption | omega) only [f_X8_countDuties_57, f_X8_countDuties_57_body, m_rm6, m_ld1285, m_st1285, zb2_s, zif_t, zopt_n, zopt_s, b_s, znm_e, lit_0, lit_1, lit_2, lit_3, lit_4, lit_5, lit_6, lit_7, lit_8, lit_9, lit_10, lit_11, lit_12, lit_13, lit_17, lit_20, lit_23, lit_24, lit_43, lit_48, lit_51, lit_57, lit_58, lit_59, lit_60, lit_61, lit_63, lit_77, lit_100, lit_140, lit_168, lit_200, lit_393, lit_400, lit_900, lit_969, lit_1000, lit_1041, lit_1045, lit_1093, lit_1168, lit_1200, lit_3279, lit_3333, lit_4372, lit_9999, nI_leE, ha, nI_add, nI_mul, q1]
      rw [if_neg (by omega)]
    · rw [q3 h hh]
      dsimp only
      by_cases c : h = a
      · subst c
        rw [updN_s, decide_eq_false (by omega), decide_eq_true (by omega)]; rfl
      · rw [updN_n c]
        by_cases d : a ≤ h ∧ h < e
        · rw [decide_eq_true d, decide_eq_true (by omega)]
        · rw [decide_eq_false d, decide_eq_false (by omega)]
theorem e8_cnL2 {z : Nat} {s : Nat → Nat} (hB : RB s) {m : Nat} (hm : m < 12) : ∀ (n fuel k : Nat) (X : pX) (D : Nat → Nat), RoC X.1 s → k + n = s 1 → n < fuel → DyC X.1 D → ∃ V', f_X8_countDuties_24 fuel (z + 1278) (nI m) (nI k) (hp z X) = some (hp z (V', X.2)) ∧ KpY X.1 V' ∧ DyC V' (fun h => D h + cA (dcB s m h) k n) := by
  intro n
  have b1 := hB.1.2.1
  induction n with
  | zero =>
    intro fuel k X D hr h1 h2 hD
    obtain ⟨fuel, rfl⟩ : ∃ f, fuel = f + 1 := ⟨fuel - 1, by omega⟩
    have h1 : k = s 1 := h1
    refine ⟨X.1, ?_, KpY.rf, hD⟩
    simp (disch := first | assumption | omega) only [f_X8_countDuties_24, f_X8_countDuties_24_body, m_rm0, r_ld hr, zb2_s, zif_t, zopt_n, zopt_s, b_s, znm_e, lit_0, lit_1, lit_2, lit_3, lit_4, lit_5, lit_6, lit_7, lit_8, lit_9, lit_10, lit_11, lit_12, lit_13, lit_17, lit_20, lit_23, lit_24, lit_43, lit_48, lit_51, lit_57, lit_58, lit_59, lit_60, lit_61, lit_63, lit_77, lit_100, lit_140, lit_168, lit_200, lit_393, lit_400, lit_900, lit_969, lit_1000, lit_1041, lit_1045, lit_1093, lit_1168, lit_1200, lit_3279, lit_3333, lit_4372, lit_9999, nI_leE]
    rw [if_pos (by omega)]
  | succ n ih =>
    intro fuel k X D hr h1 h2 hD
    obtain ⟨fuel, rfl⟩ : ∃ f, fuel = f + 1 := ⟨fuel - 1, by omega⟩
    have hk : k < 48 := by omega
    have bk := hB.2.1 k hk
    have g := e8_hasDuty (z := z) hr hB hk hm
    have g3 := e8_end (z := z) hr hk
    have g4 := e8_begins (z := z) hr hB hk hm
    have e3 : recS s k 3 = s (9 + 8 * k + 2) + s (9 + 8 * k + 3) := rfl
    have e2 : recS s k 2 = s (9 + 8 * k + 2) := rfl
    have hle := bgN_le (s := s) (m := m) (k := k)
    by_cases c : hdB s m k = true
    · obtain ⟨V1, p1, p2, p3⟩ := e8_cnL3 (z := z) (m := m) (e := recS s k 3) (by omega) (r24 := f_X8_countDuties_24 fuel) (k := k) (recS s k 3 - bgN s m k) zN (bgN s m k) X D (by omega) (zN_lt (by omega)) hD
      obtain ⟨V', q1, q2, q3⟩ := ih fuel (k + 1) (V1, X.2) _ (p2.ro hr) (by omega) (by omega) p3
      refine ⟨V', ?_, p2.tr q2, fun h hh => ?_⟩
      · rw [c] at g
        simp (disch := first | assumption | omega) only [f_X8_countDuties_24, f_X8_countDuties_24_body, m_rm0, m_im, r_ld hr, g, g3, g4, zb2_s, zif_t, zopt_n, zopt_s, b_s, znm_e, lit_0, lit_1, lit_2, lit_3, lit_4, lit_5, lit_6, lit_7, lit_8, lit_9, lit_10, lit_11, lit_12, lit_13, lit_17, lit_20, lit_23, lit_24, lit_43, lit_48, lit_51, lit_57, lit_58, lit_59, lit_60, lit_61, lit_63, lit_77, lit_100, lit_140, lit_168, lit_200, lit_393, lit_400, lit_900, lit_969, lit_1000, lit_1041, lit_1045, lit_1093, lit_1168, lit_1200, lit_3279, lit_3333, lit_4372, lit_9999, nI_leE, bI_0, p1, nI_add, nI_mul, q1]
        rw [if_neg (by omega), if_neg (by decide)]
      · rw [q3 h hh]
        show nI (D h + _ + cA (dcB s m h) (k + 1) n) = nI (D h + ((dcB s m h k).toNat + cA (dcB s m h) (k + 1) n))
        unfold dcB
        rw [c, Bool.true_and, Nat.add_assoc]
    · have cf : hdB s m k = false := by simpa using c
      obtain ⟨V', q1, q2, q3⟩ := ih fuel (k + 1) X D hr (by omega) (by omega) hD
      refine ⟨V', ?_, q2, fun h hh => ?_⟩
      · rw [cf] at g
        simp (disch := first | assumption | omega) only [f_X8_countDuties_24, f_X8_countDuties_24_body, f_X8_countDuties_80, m_rm0, m_im, r_ld hr, g, zb2_s, zif_t, zopt_n, zopt_s, b_s, znm_e, lit_0, lit_1, lit_2, lit_3, lit_4, lit_5, lit_6, lit_7, lit_8, lit_9, lit_10, lit_11, lit_12, lit_13, lit_17, lit_20, lit_23, lit_24, lit_43, lit_48, lit_51, lit_57, lit_58, lit_59, lit_60, lit_61, lit_63, lit_77, lit_100, lit_140, lit_168, lit_200, lit_393, lit_400, lit_900, lit_969, lit_1000, lit_1041, lit_1045, lit_1093, lit_1168, lit_1200, lit_3279, lit_3333, lit_4372, lit_9999, nI_leE, bI_0, nI_add, nI_mul, q1]
        rw [if_neg (by omega), if_pos trivial]
      · rw [q3 h hh]
        dsimp only
        rw [cA_f (show dcB s m h k = false by unfold dcB; rw [cf, Bool.false_and])]
theorem e8_cnL1 {z : Nat} {s : Nat → Nat} (hB : RB s) {m : Nat} (hm : m < 12) : ∀ (n fuel k : Nat) (X : pX), RoC X.1 s → k + n = 1200 → n < fuel → (∀ h, h < k → X.1 1285 h = nI 0) → ∃ V', f_X8_countDuties_2 fuel (z + 1278) (nI m) (nI k) (hp z X) = some (hp z (V', X.2)) ∧ KpY X.1 V' ∧ DyC V' (dcN s m) := by
  intro n
  induction n with
  | zero =>
    intro fuel k X hr h1 h2 h0
    obtain ⟨fuel, rfl⟩ : ∃ f, fuel = f + 1 := ⟨fuel - 1, by omega⟩
    obtain rfl : k = 1200 := by omega
    obtain ⟨V', q1, q2, q3⟩ := e8_cnL2 (z := z) hB hm (s 1) zN 0 X (fun _ => 0) hr (by omega) (zN_lt (by have := hB.1.2.1; omega)) h0
    refine ⟨V', ?_, q2, fun h hh => by rw [q3 h hh]; dsimp only; rw [Nat.zero_add]; rfl⟩
    simp (disch := first | assumption | omega) only [f_X8_countDuties_2, f_X8_countDuties_2_body, zb2_s, zif_t, zopt_n, zopt_s, b_s, znm_e, lit_0, lit_1, lit_2, lit_3, lit_4, lit_5, lit_6, lit_7, lit_8, lit_9, lit_10, lit_11, lit_12, lit_13, lit_17, lit_20, lit_23, lit_24, lit_43, lit_48, lit_51, lit_57, lit_58, lit_59, lit_60, lit_61, lit_63, lit_77, lit_100, lit_140, lit_168, lit_200, lit_393, lit_400, lit_900, lit_969, lit_1000, lit_1041, lit_1045, lit_1093, lit_1168, lit_1200, lit_3279, lit_3333, lit_4372, lit_9999, nI_leE, Nat.le_refl, if_true, q1]
  | succ n ih =>
    intro fuel k X hr h1 h2 h0
    obtain ⟨fuel, rfl⟩ : ∃ f, fuel = f + 1 := ⟨fuel - 1, by omega⟩
    obtain ⟨V', q1, q2, q3⟩ := ih fuel (k + 1) (sV X.1 1285 (upd (X.1 1285) k (nI 0)), X.2) (hr.kept (by dsimp only; rw [sV_n (by omega)])) (by omega) (by omega) (fun h hh => by
      dsimp only; rw [sV_s]
      by_cases c : h = k
      · rw [c, pk_us]
      · rw [pk_un c]; exact h0 h (by omega))
    refine ⟨V', ?_, fun o ho => by rw [q2 o ho]; exact sV_n ho, q3⟩
    simp (disch := first | assumption | omega) only [f_X8_countDuties_2, f_X8_countDuties_2_body, m_rm6, m_st1285, zb2_s, zif_t, zopt_n, zopt_s, b_s, znm_e, lit_0, lit_1, lit_2, lit_3, lit_4, lit_5, lit_6, lit_7, lit_8, lit_9, lit_10, lit_11, lit_12, lit_13, lit_17, lit_20, lit_23, lit_24, lit_43, lit_48, lit_51, lit_57, lit_58, lit_59, lit_60, lit_61, lit_63, lit_77, lit_100, lit_140, lit_168, lit_200, lit_393, lit_400, lit_900, lit_969, lit_1000, lit_1041, lit_1045, lit_1093, lit_1168, lit_1200, lit_3279, lit_3333, lit_4372, lit_9999, nI_leE, nI_add, nI_mul, q1]
    rw [if_neg (by omega)]
theorem e8_count {z : Nat} {X : pX} {s : Nat → Nat} (hr : RoC X.1 s) (hB : RB s) {m : Nat} (hm : m < 12) : ∃ V', f_X8_countDuties (z + 1278) (nI m) (hp z X) = some (hp z (V', X.2)) ∧ KpY X.1 V' ∧ DyC V' (dcN s m) := by
  obtain ⟨V', q1, q2⟩ := e8_cnL1 (z := z) hB hm 1200 zN 0 X hr rfl (zN_lt (by omega)) (fun h hh => by omega)
  exact ⟨V', by simp only [f_X8_countDuties, lit_0, lit_1, lit_2, lit_3, lit_4, lit_5, lit_6, lit_7, lit_8, lit_9, lit_10, lit_11, lit_12, lit_13, lit_17, lit_20, lit_23, lit_24, lit_43, lit_48, lit_51, lit_57, lit_58, lit_59, lit_60, lit_61, lit_63, lit_77, lit_100, lit_140, lit_168, lit_200, lit_393, lit_400, lit_900, lit_969, lit_1000, lit_1041, lit_1045, lit_1093, lit_1168, lit_1200, lit_3279, lit_3333, lit_4372, lit_9999, q1], q2⟩
def fD (D : Nat → Nat) (h : Nat) : Bool := decide (D h = 0)
theorem e8_wiL {z : Nat} {X : pX} {D : Nat → Nat} (hD : DyC X.1 D) (hO : DyOk D) {a N : Nat} (ha : a + N < 100000) : ∀ (n fuel k c : Nat), k + n = a + N → n < fuel → f_X8_without_5 fuel (z + 1278) (nI a) (nI N) (nI c) (nI k) (hp z X) = some (nI (c + cA (fD D) k n), hp z X) := by
  intro n
  induction n with
  | zero =>
    intro fuel k c h1 h2
    obtain ⟨fuel, rfl⟩ : ∃ f, fuel = f + 1 := ⟨fuel - 1, by omega⟩
    have h1 : k = a + N := h1
    simp (disch := first | assumption | omega) only [f_X8_without_5, f_X8_without_5_body, zb2_s, zif_t, zopt_n, zopt_s, b_s, znm_e, lit_0, lit_1, lit_2, lit_3, lit_4, lit_5, lit_6, lit_7, lit_8, lit_9, lit_10, lit_11, lit_12, lit_13, lit_17, lit_20, lit_23, lit_24, lit_43, lit_48, lit_51, lit_57, lit_58, lit_59, lit_60, lit_61, lit_63, lit_77, lit_100, lit_140, lit_168, lit_200, lit_393, lit_400, lit_900, lit_969, lit_1000, lit_1041, lit_1045, lit_1093, lit_1168, lit_1200, lit_3279, lit_3333, lit_4372, lit_9999, nI_add, nI_leE, cA_0, Nat.add_zero]
    rw [if_pos (by omega)]
  | succ n ih =>
    intro fuel k c h1 h2
    obtain ⟨fuel, rfl⟩ : ∃ f, fuel = f + 1 := ⟨fuel - 1, by omega⟩
    have i1 := ih fuel (k + 1) (c + 1) (by omega) (by omega)
    have i0 := ih fuel (k + 1) c (by omega) (by omega)
    have b := hO.1 k
    by_cases c1 : 1200 ≤ k
    · have hf : fD D k = true := decide_eq_true (hO.2 k (by omega))
      simp (disch := first | assumption | omega) only [f_X8_without_5, f_X8_without_5_body, f_X8_without_32, f_X8_without_37, zb2_s, zif_t, zopt_n, zopt_s, b_s, znm_e, lit_0, lit_1, lit_2, lit_3, lit_4, lit_5, lit_6, lit_7, lit_8, lit_9, lit_10, lit_11, lit_12, lit_13, lit_17, lit_20, lit_23, lit_24, lit_43, lit_48, lit_51, lit_57, lit_58, lit_59, lit_60, lit_61, lit_63, lit_77, lit_100, lit_140, lit_168, lit_200, lit_393, lit_400, lit_900, lit_969, lit_1000, lit_1041, lit_1045, lit_1093, lit_1168, lit_1200, lit_3279, lit_3333, lit_4372, lit_9999, nI_leE, nI_add, nI_mul, Nat.add_zero, i1]
      rw [if_neg (by omega), if_pos c1, cA_t hf, Nat.add_assoc]
    · have h0 := hD k (by omega)
      simp (disch := first | assumption | omega) only [f_X8_without_5, f_X8_without_5_body, f_X8_without_32, f_X8_without_37, m_rm6, m_ld1285, zb2_s, zif_t, zopt_n, zopt_s, b_s, znm_e, lit_0, lit_1, lit_2, lit_3, lit_4, lit_5, lit_6, lit_7, lit_8, lit_9, lit_10, lit_11, lit_12, lit_13, lit_17, lit_20, lit_23, lit_24, lit_43, lit_48, lit_51, lit_57, lit_58, lit_59, lit_60, lit_61, lit_63, lit_77, lit_100, lit_140, lit_168, lit_200, lit_393, lit_400, lit_900, lit_969, lit_1000, lit_1041, lit_1045, lit_1093, lit_1168, lit_1200, lit_3279, lit_3333, lit_4372, lit_9999, nI_leE, nI_eqE, h0, nI_add, nI_mul, Nat.add_zero, i1, i0]
      rw [if_neg (by omega), if_neg c1]
      by_cases c2 : D k = 0
      · rw [if_pos c2, cA_t (decide_eq_true c2), Nat.add_assoc]
      · rw [if_neg c2, cA_f (decide_eq_false c2)]
theorem e8_without {z : Nat} {X : pX} {D : Nat → Nat} (hD : DyC X.1 D) (hO : DyOk D) {a N : Nat} (ha : a + N < 100000) : f_X8_without (z + 1278) (nI a) (nI N) (hp z X) = some (nI (cA (fD D) a N), hp z X) := by
  have h := e8_wiL (z := z) hD hO ha N zN a 0 rfl (zN_lt (by omega))
  simp only [f_X8_without, lit_0, lit_1, lit_2, lit_3, lit_4, lit_5, lit_6, lit_7, lit_8, lit_9, lit_10, lit_11, lit_12, lit_13, lit_17, lit_20, lit_23, lit_24, lit_43, lit_48, lit_51, lit_57, lit_58, lit_59, lit_60, lit_61, lit_63, lit_77, lit_100, lit_140, lit_168, lit_200, lit_393, lit_400, lit_900, lit_969, lit_1000, lit_1041, lit_1045, lit_1093, lit_1168, lit_1200, lit_3279, lit_3333, lit_4372, lit_9999, h, Nat.zero_add]
theorem e8_rowL {z : Nat} {X : pX} {D : Nat → Nat} (hD : DyC X.1 D) (hO : DyOk D) {least len : Nat} (hl : least < 100000) (hlen : len ≤ 168) : ∀ (n fuel k : Nat), k + n = 1001 → n < fuel → f_X8_rowsHold_10 fuel (z + 1278) (nI len) (nI least) (nI (cA (fD D) k len)) (nI k) (hp z X) = some (bI (rowB (fD D) least len k 1001), hp z X) := by
  intro n
  induction n with
  | zero =>
    intro fuel k h1 h2
    obtain ⟨fuel, rfl⟩ : ∃ f, fuel = f + 1 := ⟨fuel - 1, by omega⟩
    obtain rfl : k = 1001 := by omega
    rw [rowB_t (Nat.le_refl _)]
    simp (disch := first | assumption | omega) only [f_X8_rowsHold_10, f_X8_rowsHold_10_body, zb2_s, zif_t, zopt_n, zopt_s, b_s, znm_e, lit_0, lit_1, lit_2, lit_3, lit_4, lit_5, lit_6, lit_7, lit_8, lit_9, lit_10, lit_11, lit_12, lit_13, lit_17, lit_20, lit_23, lit_24, lit_43, lit_48, lit_51, lit_57, lit_58, lit_59, lit_60, lit_61, lit_63, lit_77, lit_100, lit_140, lit_168, lit_200, lit_393, lit_400, lit_900, lit_969, lit_1000, lit_1041, lit_1045, lit_1093, lit_1168, lit_1200, lit_3279, lit_3333, lit_4372, lit_9999, nI_ltE, zbool_1]
    rw [if_pos (by omega)]; rfl
  | succ n ih =>
    intro fuel k h1 h2
    obtain ⟨fuel, rfl⟩ : ∃ f, fuel = f + 1 := ⟨fuel - 1, by omega⟩
    have hc := cA_le (fD D) len k
    have i1 := ih fuel (k + 1) (by omega) (by omega)
    have d1 := hD k (by omega)
    have d2 := hD (k + len) (by omega)
    have b1 := hO.1 k
    have b2 := hO.1 (k + len)
    have g3 := add_sub3 (cA_shift (fD D) k len)
    rw [rowB_s (by omega)]
    have key : ∀ x y : Nat, x = (fD D (k + len)).toNat → y = (fD D k).toNat → f_X8_rowsHold_58 (f_X8_rowsHold_10 fuel) (z + 1278) (nI len) (nI least) (nI k) (nI y) (nI x) (nI (cA (fD D) k len)) (hp z X) = some (bI (rowB (fD D) least len (k + 1) 1001), hp z X) := by
      intro x y hx hy
      unfold f_X8_rowsHold_58
      rw [hx, hy, g3]
      simp only [lit_0, lit_1, lit_2, lit_3, lit_4, lit_5, lit_6, lit_7, lit_8, lit_9, lit_10, lit_11, lit_12, lit_13, lit_17, lit_20, lit_23, lit_24, lit_43, lit_48, lit_51, lit_57, lit_58, lit_59, lit_60, lit_61, lit_63, lit_77, lit_100, lit_140, lit_168, lit_200, lit_393, lit_400, lit_900, lit_969, lit_1000, lit_1041, lit_1045, lit_1093, lit_1168, lit_1200, lit_3279, lit_3333, lit_4372, lit_9999, nI_add, nI_mul]
      exact i1
    have key2 : ∀ x : Nat, x = (fD D (k + len)).toNat → f_X8_rowsHold_43 (f_X8_rowsHold_10 fuel) (z + 1278) (nI len) (nI least) (nI k) (nI x) (nI (cA (fD D) k len)) (hp z X) = some (bI (rowB (fD D) least len (k + 1) 1001), hp z X) := by
      intro x hx
      have y1 := key x 1 hx
      have y0 := key x 0 hx
      simp (disch := first | assumption | omega) only [f_X8_rowsHold_43, m_rm6, m_ld1285, zb2_s, zif_t, zopt_n, zopt_s, b_s, znm_e, lit_0, lit_1, lit_2, lit_3, lit_4, lit_5, lit_6, lit_7, lit_8, lit_9, lit_10, lit_11, lit_12, lit_13, lit_17, lit_20, lit_23, lit_24, lit_43, lit_48, lit_51, lit_57, lit_58, lit_59, lit_60, lit_61, lit_63, lit_77, lit_100, lit_140, lit_168, lit_200, lit_393, lit_400, lit_900, lit_969, lit_1000, lit_1041, lit_1045, lit_1093, lit_1168, lit_1200, lit_3279, lit_3333, lit_4372, lit_9999, d1, nI_eqE]
      by_cases c : D k = 0
      · rw [if_pos c, y1 (by unfold fD; rw [decide_eq_true c]; rfl)]
      · rw [if_neg c, y0 (by unfold fD; rw [decide_eq_false c]; rfl)]
    have y1 := key2 1
    have y0 := key2 0
    simp (disch := first | assumption | omega) only [f_X8_rowsHold_10, f_X8_rowsHold_10_body, m_rm6, m_ld1285, zb2_s, zif_t, zopt_n, zopt_s, b_s, znm_e, lit_0, lit_1, lit_2, lit_3, lit_4, lit_5, lit_6, lit_7, lit_8, lit_9, lit_10, lit_11, lit_12, lit_13, lit_17, lit_20, lit_23, lit_24, lit_43, lit_48, lit_51, lit_57, lit_58, lit_59, lit_60, lit_61, lit_63, lit_77, lit_100, lit_140, lit_168, lit_200, lit_393, lit_400, lit_900, lit_969, lit_1000, lit_1041, lit_1045, lit_1093, lit_1168, lit_1200, lit_3279, lit_3333, lit_4372, lit_9999, nI_ltE, nI_leE, nI_eqE, nI_add, d2, zbool_0]
    rw [if_neg (by omega)]
    by_cases c : least ≤ cA (fD D) k len
    · rw [if_pos c, decide_eq_true c, Bool.true_and]
      by_cases c2 : D (k + len) = 0
      · rw [if_pos c2, y1 (by unfold fD; rw [decide_eq_true c2]; rfl)]
      · rw [if_neg c2, y0 (by unfold fD; rw [decide_eq_false c2]; rfl)]
    · rw [if_neg c, decide_eq_false c, Bool.false_and]; rfl
theorem e8_rows {z : Nat} {X : pX} {D : Nat → Nat} (hD : DyC X.1 D) (hO : DyOk D) {least len : Nat} (hl : least < 100000) (hlen : len ≤ 168) : f_X8_rowsHold (z + 1278) (nI len) (nI least) (hp z X) = some (bI (rowB (fD D) least len 0 1001), hp z X) := by
  have g := e8_without (z := z) hD hO (a := 0) (N := len) (by omega)
  have h := e8_rowL (z := z) hD hO hl hlen 1001 zN 0 rfl (zN_lt (by omega))
  simp (disch := first | assumption | omega) only [f_X8_rowsHold, m_im, zb2_s, zif_t, zopt_n, zopt_s, b_s, znm_e, lit_0, lit_1, lit_2, lit_3, lit_4, lit_5, lit_6, lit_7, lit_8, lit_9, lit_10, lit_11, lit_12, lit_13, lit_17, lit_20, lit_23, lit_24, lit_43, lit_48, lit_51, lit_57, lit_58, lit_59, lit_60, lit_61, lit_63, lit_77, lit_100, lit_140, lit_168, lit_200, lit_393, lit_400, lit_900, lit_969, lit_1000, lit_1041, lit_1045, lit_1093, lit_1168, lit_1200, lit_3279, lit_3333, lit_4372, lit_9999, g, h]
/-- the reference's way to tell that each day has a long rest -/
def drL (f : Nat → Bool) (len : Nat) : Nat → Nat → Nat → Nat → Bool
  | _, 0, _, _ => true
  | k, n + 1, run, lat =>
    let run' := match f k with | true => run + 1 | false => 0
    let lat' := if run' < len then lat else k + 1
    if 23 ≤ k ∧ lat' < k + len - 23 then false else drL f len (k + 1) n run' lat'
theorem e8_drL {z : Nat} {X : pX} {D : Nat → Nat} (hD : DyC X.1 D) (hO : DyOk D) {len : Nat} (hl0 : 0 < len) (hlen : len < 1000) : ∀ (n fuel k run lat : Nat), k + n = 1200 → run ≤ k → lat ≤ k → n < fuel → f_X8_longRestsHold_14 fuel (z + 1278) (nI len) (nI run) (rl lat) (nI k) (hp z X) = some (bI (drL (fD D) len k n run lat), hp z X) := by
  intro n
  induction n with
  | zero =>
    intro fuel k run lat h1 hr hlat h2
    obtain ⟨fuel, rfl⟩ : ∃ f, fuel = f + 1 := ⟨fuel - 1, by omega⟩
    obtain rfl : k = 1200 := by omega
    simp (disch := first | assumption | omega) only [f_X8_longRestsHold_14, f_X8_longRestsHold_14_body, zb2_s, zif_t, zopt_n, zopt_s, b_s, znm_e, lit_0, lit_1, lit_2, lit_3, lit_4, lit_5, lit_6, lit_7, lit_8, lit_9, lit_10, lit_11, lit_12, lit_13, lit_17, lit_20, lit_23, lit_24, lit_43, lit_48, lit_51, lit_57, lit_58, lit_59, lit_60, lit_61, lit_63, lit_77, lit_100, lit_140, lit_168, lit_200, lit_393, lit_400, lit_900, lit_969, lit_1000, lit_1041, lit_1045, lit_1093, lit_1168, lit_1200, lit_3279, lit_3333, lit_4372, lit_9999, nI_leE, Nat.le_refl, if_true, zbool_1]
    rfl
  | succ n ih =>
    intro fuel k run lat h1 hr hlat h2
    obtain ⟨fuel, rfl⟩ : ∃ f, fuel = f + 1 := ⟨fuel - 1, by omega⟩
    have d1 := hD k (by omega)
    have b1 := hO.1 k
    have key : ∀ run' lat', run' ≤ k + 1 → lat' ≤ k + 1 → f_X8_longRestsHold_51 (f_X8_longRestsHold_14 fuel) (z + 1278) (nI len) (nI run') (nI k) (rl lat') (hp z X) = some (bI (if 23 ≤ k ∧ lat' < k + len - 23 then false else drL (fD D) len (k + 1) n run' lat'), hp z X) := by
      intro run' lat' q1 q2
      have i1 := ih fuel (k + 1) run' lat' (by omega) (by omega) (by omega) (by omega)
      have t3 := rl_toInt (p := lat') (by omega)
      simp (disch := first | assumption | omega) only [f_X8_longRestsHold_51, f_X8_longRestsHold_72, zb2_s, zif_t, zopt_n, zopt_s, b_s, znm_e, lit_0, lit_1, lit_2, lit_3, lit_4, lit_5, lit_6, lit_7, lit_8, lit_9, lit_10, lit_11, lit_12, lit_13, lit_17, lit_20, lit_23, lit_24, lit_43, lit_48, lit_51, lit_57, lit_58, lit_59, lit_60, lit_61, lit_63, lit_77, lit_100, lit_140, lit_168, lit_200, lit_393, lit_400, lit_900, lit_969, lit_1000, lit_1041, lit_1045, lit_1093, lit_1168, lit_1200, lit_3279, lit_3333, lit_4372, lit_9999, nI_add, nI_mul, nI_ltE, i1, zbool_0]
      by_cases c1 : k < 23
      · rw [if_pos c1, if_neg (by omega)]
      · have e : nI k - nI 24 + nI len = nI (k + len) - nI 24 := by
          rw [Int32.sub_eq_add_neg, Int32.add_assoc, Int32.add_comm (-nI 24), ← Int32.add_assoc, nI_add, ← Int32.sub_eq_add_neg]
        have t1 := pk_sub_toInt (a := k + len) (b := 24) (by omega) (by omega)
        rw [if_neg c1, e]
        by_cases c2 : lat' < k + len - 23
        · rw [if_neg (fun q => by have := Int32.le_iff_toInt_le.mp q; omega), if_pos ⟨by omega, c2⟩]; rfl
        · rw [if_pos (Int32.le_iff_toInt_le.mpr (by omega)), if_neg (fun q => c2 q.2)]
    have key2 : ∀ run', run' ≤ k + 1 → f_X8_longRestsHold_39 (f_X8_longRestsHold_14 fuel) (z + 1278) (nI len) (rl lat) (nI k) (nI run') (hp z X) = some (bI (if 23 ≤ k ∧ (if run' < len then lat else k + 1) < k + len - 23 then false else drL (fD D) len (k + 1) n run' (if run' < len then lat else k + 1)), hp z X) := by
      intro run' q1
      by_cases c : run' < len
      · have := key run' lat q1 (by omega)
        simp (disch := first | assumption | omega) only [f_X8_longRestsHold_39, lit_0, lit_1, lit_2, lit_3, lit_4, lit_5, lit_6, lit_7, lit_8, lit_9, lit_10, lit_11, lit_12, lit_13, lit_17, lit_20, lit_23, lit_24, lit_43, lit_48, lit_51, lit_57, lit_58, lit_59, lit_60, lit_61, lit_63, lit_77, lit_100, lit_140, lit_168, lit_200, lit_393, lit_400, lit_900, lit_969, lit_1000, lit_1041, lit_1045, lit_1093, lit_1168, lit_1200, lit_3279, lit_3333, lit_4372, lit_9999, nI_ltE]
        rw [if_pos c, if_pos c, this]
      · have := key run' (k + 1) q1 (by omega)
        rw [rl_s] at this
        simp (disch := first | assumption | omega) only [f_X8_longRestsHold_39, lit_0, lit_1, lit_2, lit_3, lit_4, lit_5, lit_6, lit_7, lit_8, lit_9, lit_10, lit_11, lit_12, lit_13, lit_17, lit_20, lit_23, lit_24, lit_43, lit_48, lit_51, lit_57, lit_58, lit_59, lit_60, lit_61, lit_63, lit_77, lit_100, lit_140, lit_168, lit_200, lit_393, lit_400, lit_900, lit_969, lit_1000, lit_1041, lit_1045, lit_1093, lit_1168, lit_1200, lit_3279, lit_3333, lit_4372, lit_9999, nI_ltE]
        rw [if_neg c, if_neg c, this]
    have y1 := key2 (run + 1) (by omega)
    have y0 := key2 0 (by omega)
    simp (disch := first | assumption | omega) only [f_X8_longRestsHold_14, f_X8_longRestsHold_14_body, m_rm6, m_ld1285, zb2_s, zif_t, zopt_n, zopt_s, b_s, znm_e, lit_0, lit_1, lit_2, lit_3, lit_4, lit_5, lit_6, lit_7, lit_8, lit_9, lit_10, lit_11, lit_12, lit_13, lit_17, lit_20, lit_23, lit_24, lit_43, lit_48, lit_51, lit_57, lit_58, lit_59, lit_60, lit_61, lit_63, lit_77, lit_100, lit_140, lit_168, lit_200, lit_393, lit_400, lit_900, lit_969, lit_1000, lit_1041, lit_1045, lit_1093, lit_1168, lit_1200, lit_3279, lit_3333, lit_4372, lit_9999, nI_leE, nI_eqE, d1, nI_add, nI_mul, y1, y0]
    rw [if_neg (by omega)]
    by_cases c : D k = 0
    · have hf : fD D k = true := decide_eq_true c
      rw [if_pos c]; simp only [drL, hf]
    · have hf : fD D k = false := decide_eq_false c
      rw [if_neg c]; simp only [drL, hf]
theorem e8_dr {z : Nat} {X : pX} {s : Nat → Nat} (hr : RoC X.1 s) (hB : RB s) {D : Nat → Nat} (hD : DyC X.1 D) (hO : DyOk D) (h5 : 0 < s 5) : f_X8_longRestsHold (z + 1278) (hp z X) = some (bI (drL (fD D) (s 5) 0 1200 0 0), hp z X) := by
  have b5 := hB.1.2.2.2.1.2.1
  have h := e8_drL (z := z) hD hO h5 (by omega) 1200 zN 0 0 0 rfl (Nat.le_refl _) (Nat.le_refl _) (zN_lt (by omega))
  rw [rl_0] at h
  simp (disch := first | assumption | omega) only [f_X8_longRestsHold, m_rm0, r_ld hr, zb2_s, zif_t, zopt_n, zopt_s, b_s, znm_e, lit_0, lit_1, lit_2, lit_3, lit_4, lit_5, lit_6, lit_7, lit_8, lit_9, lit_10, lit_11, lit_12, lit_13, lit_17, lit_20, lit_23, lit_24, lit_43, lit_48, lit_51, lit_57, lit_58, lit_59, lit_60, lit_61, lit_63, lit_77, lit_100, lit_140, lit_168, lit_200, lit_393, lit_400, lit_900, lit_969, lit_1000, lit_1041, lit_1045, lit_1093, lit_1168, lit_1200, lit_3279, lit_3333, lit_4372, lit_9999, h]
/-- whether all rests hold, as the reference tells it -/
def rsM (s : Nat → Nat) (D : Nat → Nat) : Bool := aA (fun h => decide (D h ≤ 1)) 0 1200 && (rowB (fD D) (s 4) 24 0 1001 && ((decide (s 5 = 0) || drL (fD D) (s 5) 0 1200 0 0) && rowB (fD D) (s 6) 168 0 1001))
theorem e8_rsL {z : Nat} {X : pX} {s : Nat → Nat} (hr : RoC X.1 s) (hB : RB s) {D : Nat → Nat} (hD : DyC X.1 D) (hO : DyOk D) : ∀ (n fuel k : Nat), k + n = 1200 → n < fuel → f_X8_restsHold_7 fuel (z + 1278) (nI k) (hp z X) = some (bI (aA (fun h => decide (D h ≤ 1)) k n && (rowB (fD D) (s 4) 24 0 1001 && ((decide (s 5 = 0) || drL (fD D) (s 5) 0 1200 0 0) && rowB (fD D) (s 6) 168 0 1001))), hp z X) := by
  intro n
  have hG := hB.1.2.2.2.1
  induction n with
  | zero =>
    intro fuel k h1 h2
    obtain ⟨fuel, rfl⟩ : ∃ f, fuel = f + 1 := ⟨fuel - 1, by omega⟩
    obtain rfl : k = 1200 := by omega
    have g1 := e8_rows (z := z) hD hO (least := s 4) (len := 24) (by omega) (by omega)
    have g3 := e8_rows (z := z) hD hO (least := s 6) (len := 168) (by omega) (by omega)
    have e0 : aA (fun h => decide (D h ≤ 1)) 1200 0 = true := rfl
    rw [e0, Bool.true_and]
    by_cases c5 : s 5 = 0
    · simp (disch := first | assumption | omega) only [f_X8_restsHold_7, f_X8_restsHold_7_body, f_X8_restsHold_63, f_X8_restsHold_84, m_rm0, m_im, r_ld hr, zb2_s, zif_t, zopt_n, zopt_s, b_s, znm_e, lit_0, lit_1, lit_2, lit_3, lit_4, lit_5, lit_6, lit_7, lit_8, lit_9, lit_10, lit_11, lit_12, lit_13, lit_17, lit_20, lit_23, lit_24, lit_43, lit_48, lit_51, lit_57, lit_58, lit_59, lit_60, lit_61, lit_63, lit_77, lit_100, lit_140, lit_168, lit_200, lit_393, lit_400, lit_900, lit_969, lit_1000, lit_1041, lit_1045, lit_1093, lit_1168, lit_1200, lit_3279, lit_3333, lit_4372, lit_9999, nI_leE, nI_eqE, Nat.le_refl, if_true, g1, g3, bI_0, zbool_0, zbool_1]
      rw [decide_eq_true c5, Bool.true_or, Bool.true_and]
      cases rowB (fD D) (s 4) 24 0 1001
      · rw [if_pos rfl]; rfl
      · rw [if_neg (by decide), if_pos c5]
        cases rowB (fD D) (s 6) 168 0 1001
        · rw [if_pos rfl]; rfl
        · rw [if_neg (by decide)]; rfl
    · have g2 := e8_dr (z := z) hr hB hD hO (by omega)
      simp (disch := first | assumption | omega) only [f_X8_restsHold_7, f_X8_restsHold_7_body, f_X8_restsHold_63, f_X8_restsHold_84, m_rm0, m_im, r_ld hr, zb2_s, zif_t, zopt_n, zopt_s, b_s, znm_e, lit_0, lit_1, lit_2, lit_3, lit_4, lit_5, lit_6, lit_7, lit_8, lit_9, lit_10, lit_11, lit_12, lit_13, lit_17, lit_20, lit_23, lit_24, lit_43, lit_48, lit_51, lit_57, lit_58, lit_59, lit_60, lit_61, lit_63, lit_77, lit_100, lit_140, lit_168, lit_200, lit_393, lit_400, lit_900, lit_969, lit_1000, lit_1041, lit_1045, lit_1093, lit_1168, lit_1200, lit_3279, lit_3333, lit_4372, lit_9999, nI_leE, nI_eqE, Nat.le_refl, if_true, g1, g2, g3, bI_0, zbool_0, zbool_1]
      rw [decide_eq_false c5, Bool.false_or]
      cases rowB (fD D) (s 4) 24 0 1001
      · rw [if_pos rfl]; rfl
      · rw [if_neg (by decide), if_neg c5]
        cases drL (fD D) (s 5) 0 1200 0 0
        · rw [if_pos rfl]; rfl
        · rw [if_neg (by decide)]
          cases rowB (fD D) (s 6) 168 0 1001
          · rw [if_pos rfl]; rfl
          · rw [if_neg (by decide)]; rfl
  | succ n ih =>
    intro fuel k h1 h2
    obtain ⟨fuel, rfl⟩ : ∃ f, fuel = f + 1 := ⟨fuel - 1, by omega⟩
    have d1 := hD k (by omega)
    have b1 := hO.1 k
    have i1 := ih fuel (k + 1) (by omega) (by omega)
    simp (disch := first | assumption | omega) only [f_X8_restsHold_7, f_X8_restsHold_7_body, m_rm6, m_ld1285, zb2_s, zif_t, zopt_n, zopt_s, b_s, znm_e, lit_0, lit_1, lit_2, lit_3, lit_4, lit_5, lit_6, lit_7, lit_8, lit_9, lit_10, lit_11, lit_12, lit_13, lit_17, lit_20, lit_23, lit_24, lit_43, lit_48, lit_51, lit_57, lit_58, lit_59, lit_60, lit_61, lit_63, lit_77, lit_100, lit_140, lit_168, lit_200, lit_393, lit_400, lit_900, lit_969, lit_1000, lit_1041, lit_1045, lit_1093, lit_1168, lit_1200, lit_3279, lit_3333, lit_4372, lit_9999, nI_leE, d1, nI_add, nI_mul, i1, zbool_0]
    rw [if_neg (by omega)]
    by_cases c : D k ≤ 1
    · rw [if_pos c, aA_t (decide_eq_true c)]
    · rw [if_neg c, aA_f (decide_eq_false c), Bool.false_and]; rfl
theorem e8_rests {z : Nat} {X : pX} {s : Nat → Nat} (hr : RoC X.1 s) (hB : RB s) {m : Nat} (hm : m < 12) : ∃ V', f_X8_restsHold (z + 1278) (nI m) (hp z X) = some (bI (rsM s (dcN s m)), hp z (V', X.2)) ∧ KpY X.1 V' := by
  obtain ⟨V', q1, q2, q3⟩ := e8_count (z := z) hr hB hm
  have h := e8_rsL (z := z) (q2.ro hr) hB (X := (V', X.2)) q3 (dcN_ok hB m) 1200 zN 0 rfl (zN_lt (by omega))
  exact ⟨V', by simp (disch := first | assumption | omega) only [f_X8_restsHold, m_im, q1, zb2_s, zif_t, zopt_n, zopt_s, b_s, znm_e, lit_0, lit_1, lit_2, lit_3, lit_4, lit_5, lit_6, lit_7, lit_8, lit_9, lit_10, lit_11, lit_12, lit_13, lit_17, lit_20, lit_23, lit_24, lit_43, lit_48, lit_51, lit_57, lit_58, lit_59, lit_60, lit_61, lit_63, lit_77, lit_100, lit_140, lit_168, lit_200, lit_393, lit_400, lit_900, lit_969, lit_1000, lit_1041, lit_1045, lit_1093, lit_1168, lit_1200, lit_3279, lit_3333, lit_4372, lit_9999, h, rsM], q2⟩
theorem e8_dhL {z : Nat} {X : pX} {D : Nat → Nat} (hD : DyC X.1 D) (hO : DyOk D) : ∀ (n fuel k c : Nat), k + n = 1200 → n < fuel → f_X8_dutyHours_9 fuel (z + 1278) (nI c) (nI k) (hp z X) = some (nI (c + sA D k n), hp z X) := by
  intro n
  induction n with
  | zero =>
    intro fuel k c h1 h2
    obtain ⟨fuel, rfl⟩ : ∃ f, fuel = f + 1 := ⟨fuel - 1, by omega⟩
    obtain rfl : k = 1200 := by omega
    simp (disch := first | assumption | omega) only [f_X8_dutyHours_9, f_X8_dutyHours_9_body, zb2_s, zif_t, zopt_n, zopt_s, b_s, znm_e, lit_0, lit_1, lit_2, lit_3, lit_4, lit_5, lit_6, lit_7, lit_8, lit_9, lit_10, lit_11, lit_12, lit_13, lit_17, lit_20, lit_23, lit_24, lit_43, lit_48, lit_51, lit_57, lit_58, lit_59, lit_60, lit_61, lit_63, lit_77, lit_100, lit_140, lit_168, lit_200, lit_393, lit_400, lit_900, lit_969, lit_1000, lit_1041, lit_1045, lit_1093, lit_1168, lit_1200, lit_3279, lit_3333, lit_4372, lit_9999, nI_leE, Nat.le_refl, if_true, sA_0, Nat.add_zero]
  | succ n ih =>
    intro fuel k c h1 h2
    obtain ⟨fuel, rfl⟩ : ∃ f, fuel = f + 1 := ⟨fuel - 1, by omega⟩
    have d1 := hD k (by omega)
    have i1 := fun c => ih fuel (k + 1) c (by omega) (by omega)
    simp (disch := first | assumption | omega) only [f_X8_dutyHours_9, f_X8_dutyHours_9_body, m_rm6, m_ld1285, zb2_s, zif_t, zopt_n, zopt_s, b_s, znm_e, lit_0, lit_1, lit_2, lit_3, lit_4, lit_5, lit_6, lit_7, lit_8, lit_9, lit_10, lit_11, lit_12, lit_13, lit_17, lit_20, lit_23, lit_24, lit_43, lit_48, lit_51, lit_57, lit_58, lit_59, lit_60, lit_61, lit_63, lit_77, lit_100, lit_140, lit_168, lit_200, lit_393, lit_400, lit_900, lit_969, lit_1000, lit_1041, lit_1045, lit_1093, lit_1168, lit_1200, lit_3279, lit_3333, lit_4372, lit_9999, nI_leE, d1, nI_add, nI_mul, i1, sA_s, Nat.add_assoc]
    rw [if_neg (by omega)]
theorem e8_hours {z : Nat} {X : pX} {s : Nat → Nat} (hr : RoC X.1 s) (hB : RB s) {m : Nat} (hm : m < 12) : ∃ V', f_X8_dutyHours (z + 1278) (nI m) (hp z X) = some (nI (sA (dcN s m) 0 1200), hp z (V', X.2)) ∧ KpY X.1 V' := by
  obtain ⟨V', q1, q2, q3⟩ := e8_count (z := z) hr hB hm
  have h := e8_dhL (z := z) (X := (V', X.2)) q3 (dcN_ok hB m) 1200 zN 0 0 rfl (zN_lt (by omega))
  exact ⟨V', by simp (disch := first | assumption | omega) only [f_X8_dutyHours, m_im, q1, zb2_s, zif_t, zopt_n, zopt_s, b_s, znm_e, lit_0, lit_1, lit_2, lit_3, lit_4, lit_5, lit_6, lit_7, lit_8, lit_9, lit_10, lit_11, lit_12, lit_13, lit_17, lit_20, lit_23, lit_24, lit_43, lit_48, lit_51, lit_57, lit_58, lit_59, lit_60, lit_61, lit_63, lit_77, lit_100, lit_140, lit_168, lit_200, lit_393, lit_400, lit_900, lit_969, lit_1000, lit_1041, lit_1045, lit_1093, lit_1168, lit_1200, lit_3279, lit_3333, lit_4372, lit_9999, h, Nat.zero_add], q2⟩
/-- the longest rest of a row of a day -/
def lgL (f : Nat → Bool) : Nat → Nat → Nat → Nat → Nat
  | _, 0, most, _ => most
  | k, n + 1, most, run =>
    let run' := match f k with | true => run + 1 | false => 0
    lgL f (k + 1) n (if run' ≤ most then most else run') run'
theorem e8_lgL {z : Nat} {X : pX} {D : Nat → Nat} (hD : DyC X.1 D) (hO : DyOk D) {a : Nat} (ha : a ≤ 1100) : ∀ (n fuel k most run : Nat), k + n = a + 24 → n < fuel → run ≤ 5000 - n → most ≤ 5000 → f_X8_longRest_7 fuel (z + 1278) (nI a) (nI most) (nI run) (nI k) (hp z X) = some (nI (lgL (fD D) k n most run), hp z X) := by
  intro n
  induction n with
  | zero =>
    intro fuel k most run h1 h2 h3 h4
    obtain ⟨fuel, rfl⟩ : ∃ f, fuel = f + 1 := ⟨fuel - 1, by omega⟩
    have h1 : k = a + 24 := h1
    simp (disch := first | assumption | omega) only [f_X8_longRest_7, f_X8_longRest_7_body, zb2_s, zif_t, zopt_n, zopt_s, b_s, znm_e, lit_0, lit_1, lit_2, lit_3, lit_4, lit_5, lit_6, lit_7, lit_8, lit_9, lit_10, lit_11, lit_12, lit_13, lit_17, lit_20, lit_23, lit_24, lit_43, lit_48, lit_51, lit_57, lit_58, lit_59, lit_60, lit_61, lit_63, lit_77, lit_100, lit_140, lit_168, lit_200, lit_393, lit_400, lit_900, lit_969, lit_1000, lit_1041, lit_1045, lit_1093, lit_1168, lit_1200, lit_3279, lit_3333, lit_4372, lit_9999, nI_add, nI_leE, lgL]
    rw [if_pos (by omega)]
  | succ n ih =>
    intro fuel k most run h1 h2 h3 h4
    obtain ⟨fuel, rfl⟩ : ∃ f, fuel = f + 1 := ⟨fuel - 1, by omega⟩
    have d1 := hD k (by omega)
    have b1 := hO.1 k
    have key : ∀ run', run' ≤ 5000 - n → f_X8_longRest_33 (f_X8_longRest_7 fuel) (z + 1278) (nI a) (nI most) (nI k) (nI run') (hp z X) = some (nI (lgL (fD D) (k + 1) n (if run' ≤ most then most else run') run'), hp z X) := by
      intro run' q
      have i1 := ih fuel (k + 1) most run' (by omega) (by omega) q h4
      have i2 := ih fuel (k + 1) run' run' (by omega) (by omega) q (by omega)
      simp (disch := first | assumption | omega) only [f_X8_longRest_33, f_X8_longRest_44, lit_0, lit_1, lit_2, lit_3, lit_4, lit_5, lit_6, lit_7, lit_8, lit_9, lit_10, lit_11, lit_12, lit_13, lit_17, lit_20, lit_23, lit_24, lit_43, lit_48, lit_51, lit_57, lit_58, lit_59, lit_60, lit_61, lit_63, lit_77, lit_100, lit_140, lit_168, lit_200, lit_393, lit_400, lit_900, lit_969, lit_1000, lit_1041, lit_1045, lit_1093, lit_1168, lit_1200, lit_3279, lit_3333, lit_4372, lit_9999, nI_leE, nI_add, nI_mul, i1, i2]
      by_cases c : run' ≤ most
      · rw [if_pos c, if_pos c]
      · rw [if_neg c, if_neg c]
    have y1 := key (run + 1) (by omega)
    have y0 := key 0 (by omega)
    simp (disch := first | assumption | omega) only [f_X8_longRest_7, f_X8_longRest_7_body, m_rm6, m_ld1285, zb2_s, zif_t, zopt_n, zopt_s, b_s, znm_e, lit_0, lit_1, lit_2, lit_3, lit_4, lit_5, lit_6, lit_7, lit_8, lit_9, lit_10, lit_11, lit_12, lit_13, lit_17, lit_20, lit_23, lit_24, lit_43, lit_48, lit_51, lit_57, lit_58, lit_59, lit_60, lit_61, lit_63, lit_77, lit_100, lit_140, lit_168, lit_200, lit_393, lit_400, lit_900, lit_969, lit_1000, lit_1041, lit_1045, lit_1093, lit_1168, lit_1200, lit_3279, lit_3333, lit_4372, lit_9999, nI_add, nI_leE, nI_eqE, d1, y1, y0]
    rw [if_neg (by omega)]
    by_cases c : D k = 0
    · have hf : fD D k = true := decide_eq_true c
      rw [if_pos c]; simp only [lgL, hf]
    · have hf : fD D k = false := decide_eq_false c
      rw [if_neg c]; simp only [lgL, hf]
theorem e8_long {z : Nat} {X : pX} {D : Nat → Nat} (hD : DyC X.1 D) (hO : DyOk D) {a : Nat} (ha : a ≤ 1100) : f_X8_longRest (z + 1278) (nI a) (hp z X) = some (nI (lgL (fD D) a 24 0 0), hp z X) := by
  have h := e8_lgL (z := z) hD hO ha 24 zN a 0 0 rfl (zN_lt (by omega)) (by omega) (by omega)
  simp only [f_X8_longRest, lit_0, lit_1, lit_2, lit_3, lit_4, lit_5, lit_6, lit_7, lit_8, lit_9, lit_10, lit_11, lit_12, lit_13, lit_17, lit_20, lit_23, lit_24, lit_43, lit_48, lit_51, lit_57, lit_58, lit_59, lit_60, lit_61, lit_63, lit_77, lit_100, lit_140, lit_168, lit_200, lit_393, lit_400, lit_900, lit_969, lit_1000, lit_1041, lit_1045, lit_1093, lit_1168, lit_1200, lit_3279, lit_3333, lit_4372, lit_9999, h]
