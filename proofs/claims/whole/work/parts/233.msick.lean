/-! the reference: calling off, falling sick, hours pass -/
def clrM (s : Nat → Nat) (k n : Nat) : Nat → Nat := fun i => if 393 + 12 * k + (12 - n) ≤ i ∧ i < 393 + 12 * k + 12 then 0 else s i
theorem clrM_0 {s : Nat → Nat} {k : Nat} : clrM s k 0 = s := by funext i; unfold clrM; rw [if_neg (by omega)]
theorem clrM_s {s : Nat → Nat} {k n : Nat} (hn : n < 12) : clrM (updN s (393 + 12 * k + (12 - (n + 1))) 0) k n = clrM s k (n + 1) := by
  funext i; unfold clrM updN
  by_cases h : 393 + 12 * k + (12 - n) ≤ i ∧ i < 393 + 12 * k + 12
  · rw [if_pos h, if_pos (by omega)]
  · rw [if_neg h]
    by_cases c : i = 393 + 12 * k + (12 - (n + 1))
    · rw [if_pos c, if_pos (by omega)]
    · rw [if_neg c, if_neg (by omega)]
theorem e8_clrL {z k : Nat} (hk : k < 48) : ∀ (n fuel m : Nat) (X : pX) (s : Nat → Nat), RoC X.1 s → m + n = 12 → n < fuel → ∃ V', f_X8_clearPlaces_2 fuel (z + 1278) (nI k) (nI m) (hp z X) = some (hp z (V', X.2)) ∧ KpM X.1 V' ∧ RoC V' (clrM s k n) := by
  intro n
  induction n with
  | zero =>
    intro fuel m X s hr h1 h2
    obtain ⟨fuel, rfl⟩ : ∃ f, fuel = f + 1 := ⟨fuel - 1, by omega⟩
    obtain rfl : m = 12 := by omega
    refine ⟨X.1, ?_, KpM.rf, by rw [clrM_0]; exact hr⟩
    simp (disch := first | assumption | omega) only [f_X8_clearPlaces_2, f_X8_clearPlaces_2_body, zb2_s, zif_t, zopt_n, zopt_s, b_s, znm_e, lit_0, lit_1, lit_2, lit_3, lit_4, lit_5, lit_6, lit_7, lit_8, lit_9, lit_10, lit_11, lit_12, lit_13, lit_17, lit_20, lit_23, lit_24, lit_43, lit_48, lit_51, lit_57, lit_58, lit_59, lit_60, lit_61, lit_63, lit_77, lit_100, lit_140, lit_168, lit_200, lit_393, lit_400, lit_900, lit_969, lit_1000, lit_1041, lit_1045, lit_1093, lit_1168, lit_1200, lit_3279, lit_3333, lit_4372, lit_9999, nI_leE, Nat.le_refl, if_true]
  | succ n ih =>
    intro fuel m X s hr h1 h2
    obtain ⟨fuel, rfl⟩ : ∃ f, fuel = f + 1 := ⟨fuel - 1, by omega⟩
    have p := e8_setPl (z := z) (X := X) hk (m := m) (by omega) (nI 0)
    obtain ⟨V', q1, q2, q3⟩ := ih fuel (m + 1) (sV X.1 1279 (upd (X.1 1279) (393 + 12 * k + m) (nI 0)), X.2) (updN s (393 + 12 * k + m) 0) (hr.st _ 0) (by omega) (by omega)
    rw [show m = 12 - (n + 1) by omega, clrM_s (by omega)] at q3
    refine ⟨V', ?_, KpM.up.tr q2, q3⟩
    simp (disch := first | assumption | omega) only [f_X8_clearPlaces_2, f_X8_clearPlaces_2_body, m_im, zb2_s, zif_t, zopt_n, zopt_s, b_s, znm_e, lit_0, lit_1, lit_2, lit_3, lit_4, lit_5, lit_6, lit_7, lit_8, lit_9, lit_10, lit_11, lit_12, lit_13, lit_17, lit_20, lit_23, lit_24, lit_43, lit_48, lit_51, lit_57, lit_58, lit_59, lit_60, lit_61, lit_63, lit_77, lit_100, lit_140, lit_168, lit_200, lit_393, lit_400, lit_900, lit_969, lit_1000, lit_1041, lit_1045, lit_1093, lit_1168, lit_1200, lit_3279, lit_3333, lit_4372, lit_9999, nI_leE, p, nI_add, nI_mul, q1]
    rw [if_neg (by omega)]
theorem e8_cancelNow {z : Nat} {X : pX} {s : Nat → Nat} (hr : RoC X.1 s) {k : Nat} (hk : k < 48) : ∃ V', f_X8_cancelNow (z + 1278) (nI k) (hp z X) = some (hp z (V', X.2)) ∧ KpM X.1 V' ∧ RoC V' (clrM (updN s (9 + 8 * k + 0) 2) k 12) := by
  have p := e8_put (z := z) (X := X) hk (w := 0) (by omega) (nI 2)
  obtain ⟨V', q1, q2, q3⟩ := e8_clrL (z := z) hk 12 zN 0 (sV X.1 1279 (upd (X.1 1279) (9 + 8 * k + 0) (nI 2)), X.2) _ (hr.st _ 2) rfl (zN_lt (by omega))
  refine ⟨V', ?_, KpM.up.tr q2, q3⟩
  simp (disch := first | assumption | omega) only [f_X8_cancelNow, f_X8_clearPlaces, m_im, zb2_s, zif_t, zopt_n, zopt_s, b_s, znm_e, lit_0, lit_1, lit_2, lit_3, lit_4, lit_5, lit_6, lit_7, lit_8, lit_9, lit_10, lit_11, lit_12, lit_13, lit_17, lit_20, lit_23, lit_24, lit_43, lit_48, lit_51, lit_57, lit_58, lit_59, lit_60, lit_61, lit_63, lit_77, lit_100, lit_140, lit_168, lit_200, lit_393, lit_400, lit_900, lit_969, lit_1000, lit_1041, lit_1045, lit_1093, lit_1168, lit_1200, lit_3279, lit_3333, lit_4372, lit_9999, p, q1]
theorem RB.clr {s : Nat → Nat} (h : RB s) {k : Nat} (hk : k < 48) : ∀ n, n ≤ 12 → RB (clrM s k n)
  | 0, _ => by rw [clrM_0]; exact h
  | n + 1, hn => by
    rw [← clrM_s (by omega)]
    exact RB.clr (h.pl hk (m := 12 - (n + 1)) (by omega) (Nat.zero_le _)) hk n (by omega)
/-- a sailing's hour comes -/
def depM (s : Nat → Nat) (k : Nat) : Nat → Nat := if ned (recS s k) = tkO s k then updN s (9 + 8 * k + 0) 1 else clrM (updN s (9 + 8 * k + 0) 2) k 12
def phB (s : Nat → Nat) (k : Nat) : Bool := decide (recS s k 5 = 0 ∧ recS s k 2 = s 0)
def phL : Nat → Nat → (Nat → Nat) → Nat → Nat
  | _, 0, s => s
  | k, n + 1, s => phL (k + 1) n (match phB s k with | true => depM s k | false => s)
theorem RB.dep {s : Nat → Nat} (h : RB s) {k : Nat} (hk : k < 48) : RB (depM s k) := by
  unfold depM
  split
  · exact h.stt hk (by omega)
  · exact (h.stt hk (by omega)).clr hk 12 (Nat.le_refl _)
theorem depM_1 {s : Nat → Nat} {k i : Nat} (hi : i < 9 ∨ 969 ≤ i) (hk : k < 48) : depM s k i = s i := by
  unfold depM
  split
  · rw [updN_n (by omega)]
  · unfold clrM; rw [if_neg (by omega), updN_n (by omega)]
def passH (s : Nat → Nat) : Nat → Nat := updN (phL 0 (s 1) s) 0 (s 0 + 1)
theorem e8_phL {z : Nat} : ∀ (n fuel k : Nat) (X : pX) (s : Nat → Nat), RoC X.1 s → RB s → k + n = s 1 → n < fuel → ∃ V', f_X8_passHour_2 fuel (z + 1278) (nI k) (hp z X) = some (hp z (V', X.2)) ∧ KpM X.1 V' ∧ RoC V' (updN (phL k n s) 0 (s 0 + 1)) ∧ RB (phL k n s) ∧ phL k n s 0 = s 0 := by
  intro n
  induction n with
  | zero =>
    intro fuel k X s hr hB h1 h2
    obtain ⟨fuel, rfl⟩ : ∃ f, fuel = f + 1 := ⟨fuel - 1, by omega⟩
    have h1 : k = s 1 := h1
    have b1 := hB.1.2.1
    refine ⟨sV X.1 1279 (upd (X.1 1279) 0 (nI (s 0 + 1))), ?_, KpM.up, hr.st 0 (s 0 + 1), hB, rfl⟩
    simp (disch := first | assumption | omega) only [f_X8_passHour_2, f_X8_passHour_2_body, m_rm0, r_ld hr, m_st1279, zb2_s, zif_t, zopt_n, zopt_s, b_s, znm_e, lit_0, lit_1, lit_2, lit_3, lit_4, lit_5, lit_6, lit_7, lit_8, lit_9, lit_10, lit_11, lit_12, lit_13, lit_17, lit_20, lit_23, lit_24, lit_43, lit_48, lit_51, lit_57, lit_58, lit_59, lit_60, lit_61, lit_63, lit_77, lit_100, lit_140, lit_168, lit_200, lit_393, lit_400, lit_900, lit_969, lit_1000, lit_1041, lit_1045, lit_1093, lit_1168, lit_1200, lit_3279, lit_3333, lit_4372, lit_9999, nI_leE, nI_add, nI_mul]
    rw [if_pos (by omega)]
  | succ n ih =>
    intro fuel k X s hr hB h1 h2
    obtain ⟨fuel, rfl⟩ : ∃ f, fuel = f + 1 := ⟨fuel - 1, by omega⟩
    have b1 := hB.1.2.1
    have b0 := hB.1.1
    have hk : k < 48 := by omega
    have bk := hB.2.1 k hk
    have e2 : s (9 + 8 * k + 2) = recS s k 2 := rfl
    have g1 := e8_is (z := z) hr hB hk (v := 0) (by omega)
    have g2 := e8_of (z := z) hr hk (w := 2) (by omega)
    rw [e2] at g2 bk
    have g3 := e8_freeOf (z := z) hr hB hk
    have l1 : ned (recS s k) < 2 ^ 30 := by
      show s (9 + 8 * k + 4) + s (9 + 8 * k + 5) + s (9 + 8 * k + 6) + s (9 + 8 * k + 7) < 2 ^ 30
      omega
    have l2 : tkO s k < 2 ^ 30 := by
      have a0 := tkM_le hB k 0
      have a1 := tkM_le hB k 1
      have a2 := tkM_le hB k 2
      have a3 := tkM_le hB k 3
      unfold tkO; omega
    by_cases c : recS s k 5 = 0 ∧ recS s k 2 = s 0
    · have hc : phB s k = true := decide_eq_true c
      have e : phL k (n + 1) s = phL (k + 1) n (depM s k) := by show phL (k + 1) n (match phB s k with | true => _ | false => _) = _; rw [hc]
      have eq0 := depM_1 (s := s) (k := k) (i := 0) (Or.inl (by omega)) hk
      have eq1 := depM_1 (s := s) (k := k) (i := 1) (Or.inl (by omega)) hk
      by_cases d : ned (recS s k) = tkO s k
      · have ed : depM s k = updN s (9 + 8 * k + 0) 1 := if_pos d
        have p := e8_put (z := z) (X := X) hk (w := 0) (by omega) (nI 1)
        obtain ⟨V', q1, q2, q3, q4, q5⟩ := ih fuel (k + 1) (sV X.1 1279 (upd (X.1 1279) (9 + 8 * k + 0) (nI 1)), X.2) (depM s k) (by rw [ed]; exact hr.st _ 1) (hB.dep hk) (by rw [eq1]; omega) (by omega)
        rw [eq0] at q3 q5
        rw [e]
        refine ⟨V', ?_, KpM.up.tr q2, q3, q4, q5⟩
        simp (config := {maxSteps := 1000000}) (disch := first | assumption | omega) only [f_X8_passHour_2, f_X8_passHour_2_body, f_X8_passHour_59, m_rm0, m_im, r_ld hr, g1, g2, g3, zb2_s, zif_t, zopt_n, zopt_s, b_s, znm_e, lit_0, lit_1, lit_2, lit_3, lit_4, lit_5, lit_6, lit_7, lit_8, lit_9, lit_10, lit_11, lit_12, lit_13, lit_17, lit_20, lit_23, lit_24, lit_43, lit_48, lit_51, lit_57, lit_58, lit_59, lit_60, lit_61, lit_63, lit_77, lit_100, lit_140, lit_168, lit_200, lit_393, lit_400, lit_900, lit_969, lit_1000, lit_1041, lit_1045, lit_1093, lit_1168, lit_1200, lit_3279, lit_3333, lit_4372, lit_9999, nI_leE, nI_eqE, nI_sub0, bI_0, p, nI_add, nI_mul, q1]
        rw [if_neg (by omega), if_neg (by simp [c.1]), if_pos c.2, if_pos d]
      · have ed : depM s k = clrM (updN s (9 + 8 * k + 0) 2) k 12 := if_neg d
        obtain ⟨V1, p1, p2, p3⟩ := e8_cancelNow (z := z) hr hk
        obtain ⟨V', q1, q2, q3, q4, q5⟩ := ih fuel (k + 1) (V1, X.2) (depM s k) (by rw [ed]; exact p3) (hB.dep hk) (by rw [eq1]; omega) (by omega)
        rw [eq0] at q3 q5
        rw [e]
        refine ⟨V', ?_, p2.tr q2, q3, q4, q5⟩
        simp (config := {maxSteps := 1000000}) (disch := first | assumption | omega) only [f_X8_passHour_2, f_X8_passHour_2_body, f_X8_passHour_59, m_rm0, m_im, r_ld hr, g1, g2, g3, zb2_s, zif_t, zopt_n, zopt_s, b_s, znm_e, lit_0, lit_1, lit_2, lit_3, lit_4, lit_5, lit_6, lit_7, lit_8, lit_9, lit_10, lit_11, lit_12, lit_13, lit_17, lit_20, lit_23, lit_24, lit_43, lit_48, lit_51, lit_57, lit_58, lit_59, lit_60, lit_61, lit_63, lit_77, lit_100, lit_140, lit_168, lit_200, lit_393, lit_400, lit_900, lit_969, lit_1000, lit_1041, lit_1045, lit_1093, lit_1168, lit_1200, lit_3279, lit_3333, lit_4372, lit_9999, nI_leE, nI_eqE, nI_sub0, bI_0, p1, nI_add, nI_mul, q1]
        rw [if_neg (by omega), if_neg (by simp [c.1]), if_pos c.2, if_neg d]
    · have hc : phB s k = false := decide_eq_false c
      have e : phL k (n + 1) s = phL (k + 1) n s := by show phL (k + 1) n (match phB s k with | true => _ | false => _) = _; rw [hc]
      obtain ⟨V', q1, q2⟩ := ih fuel (k + 1) X s hr hB (by omega) (by omega)
      rw [e]
      refine ⟨V', ?_, q2⟩
      simp (config := {maxSteps := 1000000}) (disch := first | assumption | omega) only [f_X8_passHour_2, f_X8_passHour_2_body, f_X8_passHour_59, m_rm0, m_im, r_ld hr, g1, g2, zb2_s, zif_t, zopt_n, zopt_s, b_s, znm_e, lit_0, lit_1, lit_2, lit_3, lit_4, lit_5, lit_6, lit_7, lit_8, lit_9, lit_10, lit_11, lit_12, lit_13, lit_17, lit_20, lit_23, lit_24, lit_43, lit_48, lit_51, lit_57, lit_58, lit_59, lit_60, lit_61, lit_63, lit_77, lit_100, lit_140, lit_168, lit_200, lit_393, lit_400, lit_900, lit_969, lit_1000, lit_1041, lit_1045, lit_1093, lit_1168, lit_1200, lit_3279, lit_3333, lit_4372, lit_9999, nI_leE, nI_eqE, bI_0, nI_add, nI_mul, q1]
      rw [if_neg (by omega)]
      by_cases d : recS s k 5 = 0
      · rw [if_neg (by simp [d]), if_neg (fun w => c ⟨d, w⟩)]
      · rw [if_pos (by simp [d])]
theorem RB.now {s : Nat → Nat} (h : RB s) {v : Nat} (hv : v ≤ 1000) : RB (updN s 0 v) := by
  obtain ⟨⟨a, b, c, ⟨d1, d2, d3, d4, d5⟩, e⟩, f, g, i⟩ := h
  refine ⟨⟨?_, ?_, ?_, ⟨?_, ?_, ?_, ?_, ?_⟩, fun m' hm' q hq => ?_⟩, fun k' hk' => ?_, fun k' hk' m' hm' => ?_, fun q hq => ⟨?_, fun j hj => ?_⟩⟩
  · rw [updN_s]; exact hv
  · rw [updN_n (by omega)]; exact b
  · rw [updN_n (by omega)]; exact c
  · rw [updN_n (by omega)]; exact d1
  · rw [updN_n (by omega)]; exact d2
  · rw [updN_n (by omega)]; exact d3
  · rw [updN_n (by omega)]; exact d4
  · rw [updN_n (by omega)]; exact d5
  · rw [updN_n (by omega)]; exact e m' hm' q hq
  · have := f k' hk'
    rw [updN_n (by omega), updN_n (by omega), updN_n (by omega), updN_n (by omega), updN_n (by omega), updN_n (by omega), updN_n (by omega), updN_n (by omega)]; exact this
  · rw [updN_n (by omega)]; exact g k' hk' m' hm'
  · rw [updN_n (by omega)]; exact (i q hq).1
  · rw [updN_n (by omega)]; exact (i q hq).2 j hj
theorem e8_passHour {z : Nat} {X : pX} {s : Nat → Nat} (hr : RoC X.1 s) (hB : RB s) (h0 : s 0 < 1000) : ∃ V', f_X8_passHour (z + 1278) (hp z X) = some (hp z (V', X.2)) ∧ KpM X.1 V' ∧ RoC V' (passH s) ∧ RB (passH s) := by
  obtain ⟨V', q1, q2, q3, q4, q5⟩ := e8_phL (z := z) (s 1) zN 0 X s hr hB (by omega) (zN_lt (by have := hB.1.2.1; omega))
  exact ⟨V', by simp only [f_X8_passHour, lit_0, lit_1, lit_2, lit_3, lit_4, lit_5, lit_6, lit_7, lit_8, lit_9, lit_10, lit_11, lit_12, lit_13, lit_17, lit_20, lit_23, lit_24, lit_43, lit_48, lit_51, lit_57, lit_58, lit_59, lit_60, lit_61, lit_63, lit_77, lit_100, lit_140, lit_168, lit_200, lit_393, lit_400, lit_900, lit_969, lit_1000, lit_1041, lit_1045, lit_1093, lit_1168, lit_1200, lit_3279, lit_3333, lit_4372, lit_9999, q1], q2, q3, q4.now (by omega)⟩
/-- what a member gives up -/
def gmB (s : Nat → Nat) (m U k : Nat) : Bool := decide (recS s k 5 = 0 ∧ s 0 ≤ recS s k 2 ∧ recS s k 2 < U ∧ recS s k (20 + m) ≠ 0)
def gmN (s : Nat → Nat) (m U k : Nat) : Nat := match gmB s m U k with
  | true => recS s k (20 + m)
  | false => 0
def gmR (s : Nat → Nat) (m U : Nat) : Nat → Nat → Nat
  | 0 => s
  | k + 1 => match gmB s m U k with
    | true => updN (gmR s m U k) (393 + 12 * k + m) 0
    | false => gmR s m U k
theorem gmR_n {s : Nat → Nat} {m U i : Nat} : ∀ k, (∀ k', k' < k → i ≠ 393 + 12 * k' + m) → gmR s m U k i = s i
  | 0, _ => rfl
  | k + 1, h => by
    have ih := gmR_n (s := s) (m := m) (U := U) (i := i) k (fun k' hk' => h k' (by omega))
    show (match gmB s m U k with | true => updN (gmR s m U k) (393 + 12 * k + m) 0 | false => gmR s m U k) i = s i
    cases gmB s m U k
    · exact ih
    · show updN (gmR s m U k) (393 + 12 * k + m) 0 i = s i
      rw [updN_n (h k (by omega)), ih]
theorem RB.gm {s : Nat → Nat} (h : RB s) {m U : Nat} (hm : m < 12) : ∀ k, k ≤ 48 → RB (gmR s m U k)
  | 0, _ => h
  | k + 1, hk => by
    have ih := RB.gm (U := U) h hm k (by omega)
    show RB (match gmB s m U k with | true => updN (gmR s m U k) (393 + 12 * k + m) 0 | false => gmR s m U k)
    cases gmB s m U k
    · exact ih
    · exact ih.pl (by omega) hm (Nat.zero_le _)
/-- the places given up are covered: those of an hour, by number; hour by hour -/
def skI (gv : Nat → Nat) (H : Nat) : Nat → Nat → (Nat → Nat) × Nat → (Nat → Nat) × Nat
  | _, 0, a => a
  | k, n + 1, a => if recS a.1 k 2 = H then (match gv k with
      | 0 => skI gv H (k + 1) n a
      | q + 1 => skI gv H (k + 1) n (cvR a.1 k q (covM a.1 (lsS a.1 q) k q), a.2 + (!(covM a.1 (lsS a.1 q) k q).isSome).toNat)) else skI gv H (k + 1) n a
def skO (gv : Nat → Nat) : Nat → Nat → (Nat → Nat) × Nat → (Nat → Nat) × Nat
  | _, 0, a => a
  | H, n + 1, a => skO gv (H + 1) n (skI gv H 0 (a.1 1) a)
theorem skI_le {gv : Nat → Nat} {H : Nat} : ∀ (n k : Nat) (a : (Nat → Nat) × Nat), (skI gv H k n a).2 ≤ a.2 + n
  | 0, _, _ => Nat.le_refl _
  | n + 1, k, a => by
    show (if recS a.1 k 2 = H then (match gv k with | 0 => skI gv H (k + 1) n a | q + 1 => skI gv H (k + 1) n (cvR a.1 k q (covM a.1 (lsS a.1 q) k q), a.2 + (!(covM a.1 (lsS a.1 q) k q).isSome).toNat)) else skI gv H (k + 1) n a).2 ≤ _
    have h1 := skI_le (gv := gv) (H := H) n (k + 1) a
    split
    · cases gv k with
      | zero => dsimp only; omega
      | succ q =>
        have h2 := skI_le (gv := gv) (H := H) n (k + 1) (cvR a.1 k q (covM a.1 (lsS a.1 q) k q), a.2 + (!(covM a.1 (lsS a.1 q) k q).isSome).toNat)
        have h3 : (!(covM a.1 (lsS a.1 q) k q).isSome).toNat ≤ 1 := by cases (covM a.1 (lsS a.1 q) k q).isSome <;> decide
        dsimp only at h2 ⊢
        omega
    · omega
theorem cvR_lo {s : Nat → Nat} {k q i : Nat} {o : Option Nat} (hk : k < 48) (hm : ∀ m, o = some m → m < 12) (hi : i < 3 ∨ (3 < i ∧ i < 393) ∨ 1041 ≤ i) : cvR s k q o i = s i := by
  cases o with
  | none => rfl
  | some m =>
    have := hm m rfl
    show updN (updN (updN s (393 + 12 * k + m) (q + 1)) (969 + 6 * m + 5) (s (969 + 6 * m + 5) + 1)) 3 (s 3 + 1) i = s i
    rw [updN_n (by omega), updN_n (by omega), updN_n (by omega)]
theorem covM_lt {s : Nat → Nat} (hB : RB s) {k q m : Nat} (hq : q < 4) (h : covM s (lsS s q) k q = some m) : m < 12 := by
  have h1 := List.mem_of_find?_eq_some h
  have bl := hB.2.2.2 q hq
  have : ∀ n i, i + n ≤ 12 → m ∈ lsF s q i n → m < 12 := by
    intro n
    induction n with
    | zero => intro i _ h; cases h
    | succ n ih =>
      intro i hi h
      rcases List.mem_cons.mp h with e | e
      · rw [e]; exact bl.2 i (by omega)
      · exact ih (i + 1) (by omega) e
  exact this _ 0 (by omega) h1
theorem e8_skI {z : Nat} {gv : Nat → Nat} {n1 : Nat} (hg : ∀ k, k < n1 → gv k ≤ 4) {H U : Nat} (hH : H < 5000) {r137 : Nat → Int32 → Int32 → Int32 → zHp → Option (Int32 × zHp)} (hn1 : n1 ≤ 48) : ∀ (n fuel k : Nat) (X : pX) (a : (Nat → Nat) × Nat), RoC X.1 a.1 → RB a.1 → a.1 1 = n1 → (∀ k, k < n1 → X.1 1286 k = nI (gv k)) → k + n = n1 → n < fuel → ∃ V', f_X8_sickNow_146 r137 fuel (z + 1278) (nI U) (nI a.2) (nI H) (nI k) (hp z X) = r137 (z + 1278) (nI U) (nI (skI gv H k n a).2) (nI (H + 1)) (hp z (V', X.2)) ∧ KpM X.1 V' ∧ V' 1286 = X.1 1286 ∧ RoC V' (skI gv H k n a).1 ∧ RB (skI gv H k n a).1 ∧ (skI gv H k n a).1 1 = n1 := by
  intro n
  induction n with
  | zero =>
    intro fuel k X a hr hB h1 hG hk h2
    obtain ⟨fuel, rfl⟩ : ∃ f, fuel = f + 1 := ⟨fuel - 1, by omega⟩
    have hk : k = n1 := hk
    refine ⟨X.1, ?_, KpM.rf, rfl, hr, hB, h1⟩
    simp (disch := first | assumption | omega) only [f_X8_sickNow_146, f_X8_sickNow_146_body, m_rm0, r_ld hr, zb2_s, zif_t, zopt_n, zopt_s, b_s, znm_e, lit_0, lit_1, lit_2, lit_3, lit_4, lit_5, lit_6, lit_7, lit_8, lit_9, lit_10, lit_11, lit_12, lit_13, lit_17, lit_20, lit_23, lit_24, lit_43, lit_48, lit_51, lit_57, lit_58, lit_59, lit_60, lit_61, lit_63, lit_77, lit_100, lit_140, lit_168, lit_200, lit_393, lit_400, lit_900, lit_969, lit_1000, lit_1041, lit_1045, lit_1093, lit_1168, lit_1200, lit_3279, lit_3333, lit_4372, lit_9999, h1, nI_leE, skI, nI_add, nI_mul]
    rw [if_pos (by omega)]
  | succ n ih =>
    intro fuel k X a hr hB h1 hG hk h2
    obtain ⟨fuel, rfl⟩ : ∃ f, fuel = f + 1 := ⟨fuel - 1, by omega⟩
    have hk4 : k < 48 := by omega
    have bk := hB.2.1 k hk4
    have e2 : a.1 (9 + 8 * k + 2) = recS a.1 k 2 := rfl
    have g2 := e8_of (z := z) hr hk4 (w := 2) (by omega)
    rw [e2] at g2 bk
    have gk := hG k (by omega)
    have bg := hg k (by omega)
    cases hgv : gv k with
    | zero =>
      rw [hgv] at gk
      have e : skI gv H k (n + 1) a = skI gv H (k + 1) n a := by
        show (if recS a.1 k 2 = H then (match gv k with | 0 => _ | q + 1 => _) else _) = _
        rw [hgv]
        split <;> rfl
      rw [e]
      obtain ⟨V', q1, q2⟩ := ih fuel (k + 1) X a hr hB h1 hG (by omega) (by omega)
      refine ⟨V', ?_, q2⟩
      simp (config := {maxSteps := 1000000}) (disch := first | assumption | omega) only [f_X8_sickNow_146, f_X8_sickNow_146_body, f_X8_sickNow_207, m_rm0, m_rm7, m_im, m_ld1286, r_ld hr, zb2_s, zif_t, zopt_n, zopt_s, b_s, znm_e, lit_0, lit_1, lit_2, lit_3, lit_4, lit_5, lit_6, lit_7, lit_8, lit_9, lit_10, lit_11, lit_12, lit_13, lit_17, lit_20, lit_23, lit_24, lit_43, lit_48, lit_51, lit_57, lit_58, lit_59, lit_60, lit_61, lit_63, lit_77, lit_100, lit_140, lit_168, lit_200, lit_393, lit_400, lit_900, lit_969, lit_1000, lit_1041, lit_1045, lit_1093, lit_1168, lit_1200, lit_3279, lit_3333, lit_4372, lit_9999, h1, nI_leE, gk, Nat.le_refl, if_true, nI_add, nI_mul, q1]
      rw [if_neg (by omega)]
    | succ q =>
      rw [hgv] at gk
      by_cases c : recS a.1 k 2 = H
      · obtain ⟨V1, p1, p2, p3, p4⟩ := e8_cover (z := z) hr hB hk4 (q := q) (by omega)
        have p5 : V1 1286 = X.1 1286 := p2 1286 (by omega) (by omega)
        have e : skI gv H k (n + 1) a = skI gv H (k + 1) n (cvR a.1 k q (covM a.1 (lsS a.1 q) k q), a.2 + (!(covM a.1 (lsS a.1 q) k q).isSome).toNat) := by
          show (if recS a.1 k 2 = H then (match gv k with | 0 => _ | q + 1 => _) else _) = _
          rw [hgv, if_pos c]
        rw [e]
        obtain ⟨V', q1, q2, q3, q4⟩ := ih fuel (k + 1) (V1, X.2) (cvR a.1 k q (covM a.1 (lsS a.1 q) k q), a.2 + (!(covM a.1 (lsS a.1 q) k q).isSome).toNat) p3 p4 (by
          dsimp only
          rw [cvR_lo hk4 (fun m hm => covM_lt hB (by omega) hm) (by omega)]; exact h1) (fun k' hk' => by dsimp only; rw [p5]; exact hG k' hk') (by omega) (by omega)
        refine ⟨V', ?_, p2.tr q2, q3.trans p5, q4⟩
        simp (config := {maxSteps := 1000000}) (disch := first | assumption | omega) only [f_X8_sickNow_146, f_X8_sickNow_146_body, f_X8_sickNow_207, f_X8_sickNow_204, m_rm0, m_rm7, m_im, m_ld1286, r_ld hr, zb2_s, zif_t, zopt_n, zopt_s, b_s, znm_e, lit_0, lit_1, lit_2, lit_3, lit_4, lit_5, lit_6, lit_7, lit_8, lit_9, lit_10, lit_11, lit_12, lit_13, lit_17, lit_20, lit_23, lit_24, lit_43, lit_48, lit_51, lit_57, lit_58, lit_59, lit_60, lit_61, lit_63, lit_77, lit_100, lit_140, lit_168, lit_200, lit_393, lit_400, lit_900, lit_969, lit_1000, lit_1041, lit_1045, lit_1093, lit_1168, lit_1200, lit_3279, lit_3333, lit_4372, lit_9999, h1, nI_leE, nI_eqE, gk, g2, nI_pred', p1, bI_0, nI_add, nI_mul]
        rw [if_neg (by omega), if_neg (by omega), if_pos c]
        cases hc : (covM a.1 (lsS a.1 q) k q).isSome
        · rw [hc] at q1
          rw [if_pos rfl]
          exact q1
        · rw [hc] at q1
          rw [if_neg (by decide)]
          exact q1
      · have e : skI gv H k (n + 1) a = skI gv H (k + 1) n a := if_neg c
        rw [e]
        obtain ⟨V', q1, q2⟩ := ih fuel (k + 1) X a hr hB h1 hG (by omega) (by omega)
        refine ⟨V', ?_, q2⟩
        simp (config := {maxSteps := 1000000}) (disch := first | assumption | omega) only [f_X8_sickNow_146, f_X8_sickNow_146_body, f_X8_sickNow_207, m_rm0, m_rm7, m_im, m_ld1286, r_ld hr, zb2_s, zif_t, zopt_n, zopt_s, b_s, znm_e, lit_0, lit_1, lit_2, lit_3, lit_4, lit_5, lit_6, lit_7, lit_8, lit_9, lit_10, lit_11, lit_12, lit_13, lit_17, lit_20, lit_23, lit_24, lit_43, lit_48, lit_51, lit_57, lit_58, lit_59, lit_60, lit_61, lit_63, lit_77, lit_100, lit_140, lit_168, lit_200, lit_393, lit_400, lit_900, lit_969, lit_1000, lit_1041, lit_1045, lit_1093, lit_1168, lit_1200, lit_3279, lit_3333, lit_4372, lit_9999, h1, nI_leE, nI_eqE, gk, g2, nI_add, nI_mul, q1]
        rw [if_neg (by omega), if_neg (by omega), if_neg c]
theorem e8_skO {z : Nat} {gv : Nat → Nat} {n1 : Nat} (hg : ∀ k, k < n1 → gv k ≤ 4) {U : Nat} (hU : U < 5000) (hn1 : n1 ≤ 48) : ∀ (n fuel H : Nat) (X : pX) (a : (Nat → Nat) × Nat), RoC X.1 a.1 → RB a.1 → a.1 1 = n1 → (∀ k, k < n1 → X.1 1286 k = nI (gv k)) → H + n = U → n < fuel → ∃ V', f_X8_sickNow_137 fuel (z + 1278) (nI U) (nI a.2) (nI H) (hp z X) = some (nI (skO gv H n a).2, hp z (V', X.2)) ∧ KpM X.1 V' ∧ RoC V' (skO gv H n a).1 ∧ RB (skO gv H n a).1 ∧ (skO gv H n a).2 ≤ a.2 + 48 * n := by
  intro n
  induction n with
  | zero =>
    intro fuel H X a hr hB h1 hG hk h2
    obtain ⟨fuel, rfl⟩ : ∃ f, fuel = f + 1 := ⟨fuel - 1, by omega⟩
    have hk : H = U := hk
    refine ⟨X.1, ?_, KpM.rf, hr, hB, Nat.le_refl _⟩
    simp (disch := first | assumption | omega) only [f_X8_sickNow_137, f_X8_sickNow_137_body, zb2_s, zif_t, zopt_n, zopt_s, b_s, znm_e, lit_0, lit_1, lit_2, lit_3, lit_4, lit_5, lit_6, lit_7, lit_8, lit_9, lit_10, lit_11, lit_12, lit_13, lit_17, lit_20, lit_23, lit_24, lit_43, lit_48, lit_51, lit_57, lit_58, lit_59, lit_60, lit_61, lit_63, lit_77, lit_100, lit_140, lit_168, lit_200, lit_393, lit_400, lit_900, lit_969, lit_1000, lit_1041, lit_1045, lit_1093, lit_1168, lit_1200, lit_3279, lit_3333, lit_4372, lit_9999, nI_leE, skO]
    rw [if_pos (by omega)]
  | succ n ih =>
    intro fuel H X a hr hB h1 hG hk h2
    obtain ⟨fuel, rfl⟩ : ∃ f, fuel = f + 1 := ⟨fuel - 1, by omega⟩
    obtain ⟨V1, p1, p2, p3, p4, p5, p6⟩ := e8_skI (z := z) hg (H := H) (U := U) (by omega) (r137 := f_X8_sickNow_137 fuel) hn1 n1 zN 0 X a hr hB h1 hG (by omega) (zN_lt (by omega))
    obtain ⟨V', q1, q2, q3, q3', q4⟩ := ih fuel (H + 1) (V1, X.2) (skI gv H 0 n1 a) p4 p5 p6 (fun k hk => by dsimp only; rw [p3]; exact hG k hk) (by omega) (by omega)
    have e : skO gv H (n + 1) a = skO gv (H + 1) n (skI gv H 0 n1 a) := by rw [← h1]; rfl
    rw [e]
    have hle := skI_le (gv := gv) (H := H) n1 0 a
    refine ⟨V', ?_, p2.tr q2, q3, q3', by omega⟩
    simp (disch := first | assumption | omega) only [f_X8_sickNow_137, f_X8_sickNow_137_body, zb2_s, zif_t, zopt_n, zopt_s, b_s, znm_e, lit_0, lit_1, lit_2, lit_3, lit_4, lit_5, lit_6, lit_7, lit_8, lit_9, lit_10, lit_11, lit_12, lit_13, lit_17, lit_20, lit_23, lit_24, lit_43, lit_48, lit_51, lit_57, lit_58, lit_59, lit_60, lit_61, lit_63, lit_77, lit_100, lit_140, lit_168, lit_200, lit_393, lit_400, lit_900, lit_969, lit_1000, lit_1041, lit_1045, lit_1093, lit_1168, lit_1200, lit_3279, lit_3333, lit_4372, lit_9999, nI_leE, p1, q1]
    rw [if_neg (by omega)]
def KpS (V V' : pV) : Prop := ∀ o, o ≠ 1279 → o ≠ 1285 → o ≠ 1286 → V' o = V o
theorem KpS.tr {V V1 V2 : pV} (h : KpS V V1) (g : KpS V1 V2) : KpS V V2 := fun o a b c => (g o a b c).trans (h o a b c)
theorem KpM.S {V V' : pV} (h : KpM V V') : KpS V V' := fun o a b _ => h o a b
theorem gmR_rec {s : Nat → Nat} {m U k i : Nat} (hm : m < 12) (hi : i < 9 + 8 * 48 ∨ i = 393 + 12 * k + m) : gmR s m U k i = s i := gmR_n k (fun k' hk' => by omega)
theorem e8_sk1 {z : Nat} {s : Nat → Nat} (hB : RB s) {m U : Nat} (hm : m < 12) (hU : U < 5000) (h0 : s 0 ≤ U) : ∀ (n fuel k : Nat) (X : pX), RoC X.1 (gmR s m U k) → (∀ k', k' < k → X.1 1286 k' = nI (gmN s m U k')) → k + n = s 1 → n < fuel → ∃ V', f_X8_sickNow_19 fuel (z + 1278) (nI m) (nI U) (nI k) (hp z X) = some (nI (skO (gmN s m U) (s 0) (U - s 0) (gmR s m U (s 1), 0)).2, hp z (V', X.2)) ∧ KpS X.1 V' ∧ RoC V' (skO (gmN s m U) (s 0) (U - s 0) (gmR s m U (s 1), 0)).1 ∧ RB (skO (gmN s m U) (s 0) (U - s 0) (gmR s m U (s 1), 0)).1 ∧ (skO (gmN s m U) (s 0) (U - s 0) (gmR s m U (s 1), 0)).2 ≤ 0 + 48 * (U - s 0) := by
  have b1 := hB.1.2.1
  have b0 := hB.1.1
  have hg : ∀ k, k < 48 → gmN s m U k ≤ 4 := fun k hk => by
    have := hB.2.2.1 k hk m hm
    rw [← recS_20 (s := s) (k := k) hm] at this
    unfold gmN
    split <;> omega
  intro n
  induction n with
  | zero =>
    intro fuel k X hr hG h1 h2
    obtain ⟨fuel, rfl⟩ : ∃ f, fuel = f + 1 := ⟨fuel - 1, by omega⟩
    have h1 : k = s 1 := h1
    subst h1
    have e1 := gmR_rec (s := s) (m := m) (U := U) (k := s 1) (i := 1) hm (Or.inl (by omega))
    have e0 := gmR_rec (s := s) (m := m) (U := U) (k := s 1) (i := 0) hm (Or.inl (by omega))
    obtain ⟨V', q1, q2, q3⟩ := e8_skO (z := z) (gv := gmN s m U) (fun k hk => hg k (by omega)) hU b1 (U - s 0) zN (s 0) X (gmR s m U (s 1), 0) hr (hB.gm hm _ b1) e1 hG (by omega) (zN_lt (by omega))
    refine ⟨V', ?_, q2.S, q3⟩
    have r1 := r_ld (z := z) hr (i := 1) (by omega)
    have r0 := r_ld (z := z) hr (i := 0) (by omega)
    rw [e1] at r1
    rw [e0] at r0
    simp (config := {maxSteps := 1000000}) (disch := first | assumption | omega) only [f_X8_sickNow_19, f_X8_sickNow_19_body, m_rm0, r1, r0, zb2_s, zif_t, zopt_n, zopt_s, b_s, znm_e, lit_0, lit_1, lit_2, lit_3, lit_4, lit_5, lit_6, lit_7, lit_8, lit_9, lit_10, lit_11, lit_12, lit_13, lit_17, lit_20, lit_23, lit_24, lit_43, lit_48, lit_51, lit_57, lit_58, lit_59, lit_60, lit_61, lit_63, lit_77, lit_100, lit_140, lit_168, lit_200, lit_393, lit_400, lit_900, lit_969, lit_1000, lit_1041, lit_1045, lit_1093, lit_1168, lit_1200, lit_3279, lit_3333, lit_4372, lit_9999, nI_leE, Nat.le_refl, if_true, q1]
  | succ n ih =>
    intro fuel k X hr hG h1 h2
    obtain ⟨fuel, rfl⟩ : ∃ f, fuel = f + 1 := ⟨fuel - 1, by omega⟩
    have hk : k < 48 := by omega
    have hB' := hB.gm (U := U) hm k (by omega)
    have e1 := gmR_rec (s := s) (m := m) (U := U) (k := k) (i := 1) hm (Or.inl (by omega))
    have e0 := gmR_rec (s := s) (m := m) (U := U) (k := k) (i := 0) hm (Or.inl (by omega))
    have r1 := r_ld (z := z) hr (i := 1) (by omega)
    have r0 := r_ld (z := z) hr (i := 0) (by omega)
    rw [e1] at r1
    rw [e0] at r0
    have g1 := e8_is (z := z) hr hB' hk (v := 0) (by omega)
    rw [show recS (gmR s m U k) k 5 = recS s k 5 from gmR_rec hm (Or.inl (by omega))] at g1
    have g2 := e8_of (z := z) hr hk (w := 2) (by omega)
    rw [show gmR s m U k (9 + 8 * k + 2) = recS s k 2 from gmR_rec hm (Or.inl (by omega))] at g2
    have g3 := e8_place (z := z) hr hk hm
    rw [show gmR s m U k (393 + 12 * k + m) = recS s k (20 + m) from (gmR_rec hm (Or.inr rfl)).trans (recS_20 hm).symm] at g3
    have bk := hB.2.1 k hk
    rw [show s (9 + 8 * k + 2) = recS s k 2 from rfl] at bk
    have bp := hB.2.2.1 k hk m hm
    rw [← recS_20 (s := s) (k := k) hm] at bp
    cases hc : gmB s m U k with
    | true =>
      have hc' := of_decide_eq_true hc
      have eR : gmR s m U (k + 1) = updN (gmR s m U k) (393 + 12 * k + m) 0 := by show (match gmB s m U k with | true => _ | false => _) = _; rw [hc]
      have eN : gmN s m U k = recS s k (20 + m) := by unfold gmN; rw [hc]
      have p1 := e8_setPl (z := z) (X := (sV X.1 1286 (upd (X.1 1286) k (nI (recS s k (20 + m)))), X.2)) hk hm (nI 0)
      obtain ⟨V', q1, q2, q3⟩ := ih fuel (k + 1) (sV (sV X.1 1286 (upd (X.1 1286) k (nI (recS s k (20 + m))))) 1279 (upd ((sV X.1 1286 (upd (X.1 1286) k (nI (recS s k (20 + m))))) 1279) (393 + 12 * k + m) (nI 0)), X.2) (by
        rw [eR]
        exact RoC.st (hr.kept (sV_n (by omega))) _ 0) (fun k' hk' => by
        dsimp only
        rw [sV_n (by omega), sV_s]
        by_cases d : k' = k
        · rw [d, pk_us, eN]
        · rw [pk_un d]; exact hG k' (by omega)) (by omega) (by omega)
      refine ⟨V', ?_, fun o o1 o2 o3 => by rw [q2 o o1 o2 o3]; dsimp only; rw [sV_n o1, sV_n o3], q3⟩
      simp (config := {maxSteps := 1000000}) (disch := first | assumption | omega) only [f_X8_sickNow_19, f_X8_sickNow_19_body, f_X8_sickNow_81, f_X8_sickNow_82, f_X8_sickNow_106, f_X8_sickNow_120, m_rm0, m_rm7, m_im, m_st1286, r1, r0, g1, g2, g3, zb2_s, zif_t, zopt_n, zopt_s, b_s, znm_e, lit_0, lit_1, lit_2, lit_3, lit_4, lit_5, lit_6, lit_7, lit_8, lit_9, lit_10, lit_11, lit_12, lit_13, lit_17, lit_20, lit_23, lit_24, lit_43, lit_48, lit_51, lit_57, lit_58, lit_59, lit_60, lit_61, lit_63, lit_77, lit_100, lit_140, lit_168, lit_200, lit_393, lit_400, lit_900, lit_969, lit_1000, lit_1041, lit_1045, lit_1093, lit_1168, lit_1200, lit_3279, lit_3333, lit_4372, lit_9999, nI_leE, nI_ltE, bI_0, nI_10, if_false, nI_add, nI_mul, p1, q1]
      rw [if_neg (by omega), if_neg (by simp [hc'.1]), if_neg (by omega), if_neg (by omega), if_neg (by omega)]
    | false =>
      have hc' := of_decide_eq_false hc
      have eR : gmR s m U (k + 1) = gmR s m U k := by show (match gmB s m U k with | true => _ | false => _) = _; rw [hc]
      have eN : gmN s m U k = 0 := by unfold gmN; rw [hc]
      obtain ⟨V', q1, q2, q3⟩ := ih fuel (k + 1) (sV X.1 1286 (upd (X.1 1286) k (nI 0)), X.2) (by
        rw [eR]
        exact hr.kept (by dsimp only; rw [sV_n (by omega)])) (fun k' hk' => by
        dsimp only
        rw [sV_s]
        by_cases d : k' = k
        · rw [d, pk_us, eN]
        · rw [pk_un d]; exact hG k' (by omega)) (by omega) (by omega)
      refine ⟨V', ?_, fun o o1 o2 o3 => by rw [q2 o o1 o2 o3]; dsimp only; rw [sV_n o3], q3⟩
      simp (config := {maxSteps := 1000000}) (disch := first | assumption | omega) only [f_X8_sickNow_19, f_X8_sickNow_19_body, f_X8_sickNow_81, f_X8_sickNow_82, f_X8_sickNow_106, f_X8_sickNow_120, m_rm0, m_rm7, m_im, m_st1286, r1, r0, g1, g2, g3, zb2_s, zif_t, zopt_n, zopt_s, b_s, znm_e, lit_0, lit_1, lit_2, lit_3, lit_4, lit_5, lit_6, lit_7, lit_8, lit_9, lit_10, lit_11, lit_12, lit_13, lit_17, lit_20, lit_23, lit_24, lit_43, lit_48, lit_51, lit_57, lit_58, lit_59, lit_60, lit_61, lit_63, lit_77, lit_100, lit_140, lit_168, lit_200, lit_393, lit_400, lit_900, lit_969, lit_1000, lit_1041, lit_1045, lit_1093, lit_1168, lit_1200, lit_3279, lit_3333, lit_4372, lit_9999, nI_leE, nI_ltE, bI_0, nI_10, if_false, if_true, nI_add, nI_mul, q1]
      rw [if_neg (by omega)]
      by_cases d1 : recS s k 5 = 0
      · rw [if_neg (by simp [d1])]
        by_cases d2 : recS s k 2 < s 0
        · rw [if_pos d2]
        · rw [if_neg d2]
          by_cases d3 : U ≤ recS s k 2
          · rw [if_pos d3]
          · rw [if_neg d3, if_pos (by omega)]
      · rw [if_pos (by simp [d1])]
def sickM (s : Nat → Nat) (m h : Nat) : (Nat → Nat) × Nat := skO (gmN (updN s (969 + 6 * m + 4) (s 0 + h)) m (s 0 + h)) (s 0) h (gmR (updN s (969 + 6 * m + 4) (s 0 + h)) m (s 0 + h) (s 1), 0)
theorem RB.mem {s : Nat → Nat} (h : RB s) {m q v : Nat} (hm : m < 12) (hq : q < 5) (hv : v < 100000) : RB (updN s (969 + 6 * m + q) v) := by
  obtain ⟨⟨a, b, c, ⟨d1, d2, d3, d4, d5⟩, e⟩, f, g, i⟩ := h
  refine ⟨⟨?_, ?_, ?_, ⟨?_, ?_, ?_, ?_, ?_⟩, fun m' hm' q' hq' => ?_⟩, fun k' hk' => ?_, fun k' hk' m' hm' => ?_, fun q hq => ⟨?_, fun j hj => ?_⟩⟩
  · rw [updN_n (by omega)]; exact a
  · rw [updN_n (by omega)]; exact b
  · rw [updN_n (by omega)]; exact c
  · rw [updN_n (by omega)]; exact d1
  · rw [updN_n (by omega)]; exact d2
  · rw [updN_n (by omega)]; exact d3
  · rw [updN_n (by omega)]; exact d4
  · rw [updN_n (by omega)]; exact d5
  · by_cases c1 : 969 + 6 * m' + q' = 969 + 6 * m + q
    · rw [c1, updN_s]; exact hv
    · rw [updN_n c1]; exact e m' hm' q' hq'
  · have := f k' hk'
    rw [updN_n (by omega), updN_n (by omega), updN_n (by omega), updN_n (by omega), updN_n (by omega), updN_n (by omega), updN_n (by omega), updN_n (by omega)]; exact this
  · rw [updN_n (by omega)]; exact g k' hk' m' hm'
  · rw [updN_n (by omega)]; exact (i q hq).1
  · rw [updN_n (by omega)]; exact (i q hq).2 j hj
theorem e8_sickNow {z : Nat} {X : pX} {s : Nat → Nat} (hr : RoC X.1 s) (hB : RB s) {m h : Nat} (hm : m < 12) (hh : h < 1000) : ∃ V', f_X8_sickNow (z + 1278) (nI m) (nI h) (hp z X) = some (nI (sickM s m h).2, hp z (V', X.2)) ∧ KpS X.1 V' ∧ RoC V' (sickM s m h).1 ∧ RB (sickM s m h).1 ∧ (sickM s m h).2 ≤ 0 + 48 * h := by
  have b0 := hB.1.1
  have p := e8_note (z := z) (X := X) hm (w := 4) (by omega) (nI (s 0 + h))
  have e0 : updN s (969 + 6 * m + 4) (s 0 + h) 0 = s 0 := updN_n (by omega)
  have e1 : updN s (969 + 6 * m + 4) (s 0 + h) 1 = s 1 := updN_n (by omega)
  obtain ⟨V', q1, q2, q3⟩ := e8_sk1 (z := z) (hB.mem hm (q := 4) (by omega) (show s 0 + h < 100000 by omega)) hm (U := s 0 + h) (by omega) (by rw [e0]; omega) (s 1) zN 0 (sV X.1 1279 (upd (X.1 1279) (969 + 6 * m + 4) (nI (s 0 + h))), X.2) (hr.st _ _) (fun k hk => by omega) (by rw [e1]; omega) (zN_lt (by have := hB.1.2.1; omega))
  rw [e0, e1, show s 0 + h - s 0 = h by omega] at q1 q3
  refine ⟨V', ?_, fun o o1 o2 o3 => by rw [q2 o o1 o2 o3]; dsimp only; rw [sV_n o1], q3⟩
  simp (config := {maxSteps := 1000000}) (disch := first | assumption | omega) only [f_X8_sickNow, m_rm0, m_im, r_ld hr, zb2_s, zif_t, zopt_n, zopt_s, b_s, znm_e, lit_0, lit_1, lit_2, lit_3, lit_4, lit_5, lit_6, lit_7, lit_8, lit_9, lit_10, lit_11, lit_12, lit_13, lit_17, lit_20, lit_23, lit_24, lit_43, lit_48, lit_51, lit_57, lit_58, lit_59, lit_60, lit_61, lit_63, lit_77, lit_100, lit_140, lit_168, lit_200, lit_393, lit_400, lit_900, lit_969, lit_1000, lit_1041, lit_1045, lit_1093, lit_1168, lit_1200, lit_3279, lit_3333, lit_4372, lit_9999, nI_add, p, q1]
  rfl
