/-! the reference: what would be; more loops -/
/-- but for the row now, the row beside, the hours counted and what was given up -/
def KpA (V V' : pV) : Prop := ∀ o, o ≠ 1279 → o ≠ 1281 → o ≠ 1285 → o ≠ 1286 → V' o = V o
theorem KpA.tr {V V1 V2 : pV} (h : KpA V V1) (g : KpA V1 V2) : KpA V V2 := fun o a b c d => (g o a b c d).trans (h o a b c d)
theorem KpA.rf {V : pV} : KpA V V := fun _ _ _ _ _ => rfl
theorem KpS.A {V V' : pV} (h : KpS V V') : KpA V V' := fun o a _ c d => h o a c d
theorem KpM.A {V V' : pV} (h : KpM V V') : KpA V V' := fun o a _ c _ => h o a c
theorem KpY.A {V V' : pV} (h : KpY V V') : KpA V V' := fun o _ _ c _ => h o c
theorem e8_ifSick {z : Nat} {X : pX} {s : Nat → Nat} (hr : RoC X.1 s) (hB : RB s) {m h : Nat} (hm : m < 12) (hh : h < 1000) : ∃ V', f_X8_freeIfSick (z + 1278) (nI m) (nI h) (hp z X) = some (nI (sickM s m h).2, hp z (V', X.2)) ∧ KpA X.1 V' ∧ RoC V' s ∧ (sickM s m h).2 ≤ 48 * h := by
  obtain ⟨V1, a1, a2, a3⟩ := e8_lay (z := z) hr
  have hr1 : RoC V1 s := hr.kept (a2 _ (by omega))
  obtain ⟨V2, b1, b2, b3, b4, b5⟩ := e8_sickNow (z := z) (X := (V1, X.2)) hr1 hB hm hh
  obtain ⟨V3, c1, c2, c3⟩ := e8_tbk (z := z) (X := (V2, X.2)) (RoA.kept a3 (b2 _ (by omega) (by omega) (by omega)))
  refine ⟨V3, ?_, fun o o1 o2 o3 o4 => by rw [c2 o o1]; dsimp only; rw [b2 o o1 o3 o4]; exact a2 o o2, c3, by omega⟩
  simp (disch := first | assumption | omega) only [f_X8_freeIfSick, m_im, a1, b1, c1, zb2_s, zif_t, zopt_n, zopt_s, b_s, znm_e]
theorem e8_wkL {z : Nat} {s : Nat → Nat} (hB : RB s) {H : Nat} (hH : H < 1000) : ∀ (n fuel m v : Nat) (b : Option Nat) (X : pX), RoC X.1 s → v < 100000 → (∀ j, b = some j → j < 48) → m + n = s 2 → n < fuel → ∃ V', f_X8_weakest_22 fuel (z + 1278) (nI H) (oI b) (nI v) (nI m) (hp z X) = some (oI (bF (fun m => (sickM s m H).2) (fun a b => decide (b < a)) m n b v), hp z (V', X.2)) ∧ KpA X.1 V' ∧ RoC V' s := by
  intro n
  have b2 := hB.1.2.2.1
  induction n with
  | zero =>
    intro fuel m v b X hr hv hb h1 h2
    obtain ⟨fuel, rfl⟩ : ∃ f, fuel = f + 1 := ⟨fuel - 1, by omega⟩
    have h1 : m = s 2 := h1
    refine ⟨X.1, ?_, KpA.rf, hr⟩
    simp (disch := first | assumption | omega) only [f_X8_weakest_22, f_X8_weakest_22_body, m_rm0, r_ld hr, zb2_s, zif_t, zopt_n, zopt_s, b_s, znm_e, lit_0, lit_1, lit_2, lit_3, lit_4, lit_5, lit_6, lit_7, lit_8, lit_9, lit_10, lit_11, lit_12, lit_13, lit_17, lit_20, lit_23, lit_24, lit_43, lit_48, lit_51, lit_57, lit_58, lit_59, lit_60, lit_61, lit_63, lit_77, lit_100, lit_140, lit_168, lit_200, lit_393, lit_400, lit_900, lit_969, lit_1000, lit_1041, lit_1045, lit_1093, lit_1168, lit_1200, lit_3279, lit_3333, lit_4372, lit_9999, nI_leE, bF]
    rw [if_pos (by omega)]
  | succ n ih =>
    intro fuel m v b X hr hv hb h1 h2
    obtain ⟨fuel, rfl⟩ : ∃ f, fuel = f + 1 := ⟨fuel - 1, by omega⟩
    obtain ⟨V1, p1, p2, p3, p4⟩ := e8_ifSick (z := z) hr hB (m := m) (h := H) (by omega) hH
    have bl : (sickM s m H).2 < 100000 := by omega
    obtain ⟨Va, a1, a2, a3⟩ := ih fuel (m + 1) (sickM s m H).2 (some m) (V1, X.2) p3 bl (fun j h => by cases h; omega) (by omega) (by omega)
    obtain ⟨Vb, b1, b3, b4⟩ := ih fuel (m + 1) v b (V1, X.2) p3 hv hb (by omega) (by omega)
    cases b with
    | none =>
      rw [bF_t (by rfl)]
      refine ⟨Va, ?_, p2.tr a2, a3⟩
      have a1 : f_X8_weakest_22 fuel (z + 1278) (nI H) (nI m) (nI (sickM s m H).2) (nI (m + 1)) (hp z (V1, X.2)) = _ := a1
      simp (disch := first | assumption | omega) only [f_X8_weakest_22, f_X8_weakest_22_body, f_X8_weakest_54, f_X8_weakest_60, m_rm0, m_im, r_ld hr, p1, zb2_s, zif_t, zopt_n, zopt_s, b_s, znm_e, lit_0, lit_1, lit_2, lit_3, lit_4, lit_5, lit_6, lit_7, lit_8, lit_9, lit_10, lit_11, lit_12, lit_13, lit_17, lit_20, lit_23, lit_24, lit_43, lit_48, lit_51, lit_57, lit_58, lit_59, lit_60, lit_61, lit_63, lit_77, lit_100, lit_140, lit_168, lit_200, lit_393, lit_400, lit_900, lit_969, lit_1000, lit_1041, lit_1045, lit_1093, lit_1168, lit_1200, lit_3279, lit_3333, lit_4372, lit_9999, nI_leE, oI, m5_e, if_true, nI_add, nI_mul, a1]
      rw [if_neg (by omega)]
    | some j =>
      have hj := hb j rfl
      have n5 := nI_ne5 (j := j) (by omega)
      have a1 : f_X8_weakest_22 fuel (z + 1278) (nI H) (nI m) (nI (sickM s m H).2) (nI (m + 1)) (hp z (V1, X.2)) = _ := a1
      have b1 : f_X8_weakest_22 fuel (z + 1278) (nI H) (nI j) (nI v) (nI (m + 1)) (hp z (V1, X.2)) = _ := b1
      by_cases c : v < (sickM s m H).2
      · rw [bF_t (by simp [c])]
        refine ⟨Va, ?_, p2.tr a2, a3⟩
        simp (disch := first | assumption | omega) only [f_X8_weakest_22, f_X8_weakest_22_body, f_X8_weakest_54, f_X8_weakest_60, m_rm0, m_im, r_ld hr, p1, zb2_s, zif_t, zopt_n, zopt_s, b_s, znm_e, lit_0, lit_1, lit_2, lit_3, lit_4, lit_5, lit_6, lit_7, lit_8, lit_9, lit_10, lit_11, lit_12, lit_13, lit_17, lit_20, lit_23, lit_24, lit_43, lit_48, lit_51, lit_57, lit_58, lit_59, lit_60, lit_61, lit_63, lit_77, lit_100, lit_140, lit_168, lit_200, lit_393, lit_400, lit_900, lit_969, lit_1000, lit_1041, lit_1045, lit_1093, lit_1168, lit_1200, lit_3279, lit_3333, lit_4372, lit_9999, nI_leE, oI, n5, if_false, nI_add, nI_mul, a1]
        rw [if_neg (by omega), if_neg (by omega)]
      · rw [bF_f (by simp [c])]
        refine ⟨Vb, ?_, p2.tr b3, b4⟩
        simp (disch := first | assumption | omega) only [f_X8_weakest_22, f_X8_weakest_22_body, f_X8_weakest_54, f_X8_weakest_60, m_rm0, m_im, r_ld hr, p1, zb2_s, zif_t, zopt_n, zopt_s, b_s, znm_e, lit_0, lit_1, lit_2, lit_3, lit_4, lit_5, lit_6, lit_7, lit_8, lit_9, lit_10, lit_11, lit_12, lit_13, lit_17, lit_20, lit_23, lit_24, lit_43, lit_48, lit_51, lit_57, lit_58, lit_59, lit_60, lit_61, lit_63, lit_77, lit_100, lit_140, lit_168, lit_200, lit_393, lit_400, lit_900, lit_969, lit_1000, lit_1041, lit_1045, lit_1093, lit_1168, lit_1200, lit_3279, lit_3333, lit_4372, lit_9999, nI_leE, oI, n5, if_false, nI_add, nI_mul, b1]
        rw [if_neg (by omega), if_pos (by omega)]
/-- the least rests -/
def lrL (f : Nat → Bool) : Nat → Nat → Nat → Nat
  | _, 0, l => l
  | k, n + 1, l => lrL f (k + 1) n (if l ≤ cA f k 24 then l else cA f k 24)
def lrB (f : Nat → Bool) : Nat → Nat → Nat → Nat → Nat
  | _, 0, _, b => b
  | k, n + 1, l, b => lrB f (k + 1) n (if l ≤ cA f k 24 then l else cA f k 24) (if l ≤ cA f k 24 then b else k)
def lrG (f : Nat → Bool) : Nat → Nat → Nat → Nat
  | _, 0, g => g
  | k, n + 1, g => lrG f (k + 1) n (if g ≤ lgL f k 24 0 0 then g else lgL f k 24 0 0)
theorem lgL_le (f : Nat → Bool) : ∀ (n k most run N : Nat), most ≤ N → run + n ≤ N → lgL f k n most run ≤ N
  | 0, _, _, _, _, h, _ => h
  | n + 1, k, most, run, N, h, h2 => by
    show lgL f (k + 1) n (if (match f k with | true => run + 1 | false => 0) ≤ most then most else (match f k with | true => run + 1 | false => 0)) (match f k with | true => run + 1 | false => 0) ≤ N
    cases f k
    · dsimp only
      exact lgL_le f n (k + 1) _ 0 N (by split <;> omega) (by omega)
    · dsimp only
      exact lgL_le f n (k + 1) _ (run + 1) N (by split <;> omega) (by omega)
theorem e8_lrL {z : Nat} {X : pX} {D : Nat → Nat} (hD : DyC X.1 D) (hO : DyOk D) {w : Int32} : ∀ (n fuel k best l g : Nat), k + n = 1001 → l ≤ 24 → g ≤ 24 → n < fuel → f_X8_leastRest_48 fuel (z + 1278) w (nI best) (nI l) (nI g) (nI k) (hp z X) = some (if w = nI 0 then nI (lrL (fD D) k n l) else if w = nI 1 then nI (lrB (fD D) k n l best) else nI (lrG (fD D) k n g), hp z X) := by
  intro n
  induction n with
  | zero =>
    intro fuel k best l g h1 hl hg h2
    obtain ⟨fuel, rfl⟩ : ∃ f, fuel = f + 1 := ⟨fuel - 1, by omega⟩
    obtain rfl : k = 1001 := by omega
    simp (disch := first | assumption | omega) only [f_X8_leastRest_48, f_X8_leastRest_48_body, zb2_s, zif_t, zopt_n, zopt_s, b_s, znm_e, lit_0, lit_1, lit_2, lit_3, lit_4, lit_5, lit_6, lit_7, lit_8, lit_9, lit_10, lit_11, lit_12, lit_13, lit_17, lit_20, lit_23, lit_24, lit_43, lit_48, lit_51, lit_57, lit_58, lit_59, lit_60, lit_61, lit_63, lit_77, lit_100, lit_140, lit_168, lit_200, lit_393, lit_400, lit_900, lit_969, lit_1000, lit_1041, lit_1045, lit_1093, lit_1168, lit_1200, lit_3279, lit_3333, lit_4372, lit_9999, nI_ltE, lrL, lrB, lrG]
    rw [if_pos (by omega)]
    by_cases c0 : w = nI 0
    · rw [if_pos c0, if_pos c0]
    · rw [if_neg c0, if_neg c0]
      by_cases c1 : w = nI 1
      · rw [if_pos c1, if_pos c1]
      · rw [if_neg c1, if_neg c1]
  | succ n ih =>
    intro fuel k best l g h1 hl hg h2
    obtain ⟨fuel, rfl⟩ : ∃ f, fuel = f + 1 := ⟨fuel - 1, by omega⟩
    have g1 := e8_without (z := z) hD hO (a := k) (N := 24) (by omega)
    have g2 := e8_long (z := z) hD hO (a := k) (by omega)
    have c1 := cA_le (fD D) 24 k
    have c2 := lgL_le (fD D) 24 k 0 0 24 (by omega) (by omega)
    have i1 := fun b l g hl hg => ih fuel (k + 1) b l g (by omega) hl hg (by omega)
    show _ = some (if w = nI 0 then nI (lrL (fD D) (k + 1) n (if l ≤ cA (fD D) k 24 then l else cA (fD D) k 24)) else if w = nI 1 then nI (lrB (fD D) (k + 1) n (if l ≤ cA (fD D) k 24 then l else cA (fD D) k 24) (if l ≤ cA (fD D) k 24 then best else k)) else nI (lrG (fD D) (k + 1) n (if g ≤ lgL (fD D) k 24 0 0 then g else lgL (fD D) k 24 0 0)), hp z X)
    simp (config := {maxSteps := 1000000}) (disch := first | assumption | omega) only [f_X8_leastRest_48, f_X8_leastRest_48_body, f_X8_leastRest_87, f_X8_leastRest_102, f_X8_leastRest_118, m_im, g1, g2, zb2_s, zif_t, zopt_n, zopt_s, b_s, znm_e, lit_0, lit_1, lit_2, lit_3, lit_4, lit_5, lit_6, lit_7, lit_8, lit_9, lit_10, lit_11, lit_12, lit_13, lit_17, lit_20, lit_23, lit_24, lit_43, lit_48, lit_51, lit_57, lit_58, lit_59, lit_60, lit_61, lit_63, lit_77, lit_100, lit_140, lit_168, lit_200, lit_393, lit_400, lit_900, lit_969, lit_1000, lit_1041, lit_1045, lit_1093, lit_1168, lit_1200, lit_3279, lit_3333, lit_4372, lit_9999, nI_ltE, nI_leE, nI_add, nI_mul]
    rw [if_neg (by omega)]
    by_cases d1 : l ≤ cA (fD D) k 24
    · rw [if_pos d1, if_pos d1, if_pos d1]
      by_cases d2 : g ≤ lgL (fD D) k 24 0 0
      · rw [if_pos d2, if_pos d2, if_pos d1]
        exact i1 best l g hl hg
      · rw [if_neg d2, if_neg d2, if_pos d1]
        exact i1 best l _ hl c2
    · rw [if_neg d1, if_neg d1, if_neg d1]
      by_cases d2 : g ≤ lgL (fD D) k 24 0 0
      · rw [if_pos d2, if_pos d2, if_neg d1]
        exact i1 k _ g c1 hg
      · rw [if_neg d2, if_neg d2, if_neg d1]
        exact i1 k _ _ c1 c2
/-- rests under other settings -/
theorem e8_setL {z : Nat} {s : Nat → Nat} (hB : RB s) {a1 a2 a3 : Int32} : ∀ (n fuel m : Nat) (b : Bool) (X : pX), RoC X.1 s → m + n = s 2 → n < fuel → ∃ V', f_X8_set_56 fuel (z + 1278) a1 a2 a3 (bI b) (nI m) (hp z X) = f_X8_set_86 (z + 1278) a1 a2 a3 (bI (b && aA (fun m => rsM s (dcN s m)) m n)) (hp z (V', X.2)) ∧ KpY X.1 V' := by
  intro n
  have b2 := hB.1.2.2.1
  induction n with
  | zero =>
    intro fuel m b X hr h1 h2
    obtain ⟨fuel, rfl⟩ : ∃ f, fuel = f + 1 := ⟨fuel - 1, by omega⟩
    have h1 : m = s 2 := h1
    refine ⟨X.1, ?_, KpY.rf⟩
    rw [show aA (fun m => rsM s (dcN s m)) m 0 = true from rfl, Bool.and_true]
    simp (disch := first | assumption | omega) only [f_X8_set_56, f_X8_set_56_body, m_rm0, r_ld hr, zb2_s, zif_t, zopt_n, zopt_s, b_s, znm_e, lit_0, lit_1, lit_2, lit_3, lit_4, lit_5, lit_6, lit_7, lit_8, lit_9, lit_10, lit_11, lit_12, lit_13, lit_17, lit_20, lit_23, lit_24, lit_43, lit_48, lit_51, lit_57, lit_58, lit_59, lit_60, lit_61, lit_63, lit_77, lit_100, lit_140, lit_168, lit_200, lit_393, lit_400, lit_900, lit_969, lit_1000, lit_1041, lit_1045, lit_1093, lit_1168, lit_1200, lit_3279, lit_3333, lit_4372, lit_9999, nI_leE]
    rw [if_pos (by omega)]
  | succ n ih =>
    intro fuel m b X hr h1 h2
    obtain ⟨fuel, rfl⟩ : ∃ f, fuel = f + 1 := ⟨fuel - 1, by omega⟩
    cases b with
    | false =>
      refine ⟨X.1, ?_, KpY.rf⟩
      rw [Bool.false_and]
      simp (disch := first | assumption | omega) only [f_X8_set_56, f_X8_set_56_body, m_rm0, r_ld hr, zb2_s, zif_t, zopt_n, zopt_s, b_s, znm_e, lit_0, lit_1, lit_2, lit_3, lit_4, lit_5, lit_6, lit_7, lit_8, lit_9, lit_10, lit_11, lit_12, lit_13, lit_17, lit_20, lit_23, lit_24, lit_43, lit_48, lit_51, lit_57, lit_58, lit_59, lit_60, lit_61, lit_63, lit_77, lit_100, lit_140, lit_168, lit_200, lit_393, lit_400, lit_900, lit_969, lit_1000, lit_1041, lit_1045, lit_1093, lit_1168, lit_1200, lit_3279, lit_3333, lit_4372, lit_9999, nI_leE, bI_0, if_true]
      rw [if_neg (by omega)]
    | true =>
      obtain ⟨V1, p1, p2⟩ := e8_rests (z := z) hr hB (m := m) (by omega)
      obtain ⟨V', q1, q2⟩ := ih fuel (m + 1) (rsM s (dcN s m)) (V1, X.2) (p2.ro hr) (by omega) (by omega)
      refine ⟨V', ?_, p2.tr q2⟩
      rw [Bool.true_and]
      show _ = f_X8_set_86 (z + 1278) a1 a2 a3 (bI (rsM s (dcN s m) && aA (fun m => rsM s (dcN s m)) (m + 1) n)) (hp z (V', X.2))
      simp (disch := first | assumption | omega) only [f_X8_set_56, f_X8_set_56_body, m_rm0, m_im, r_ld hr, p1, zb2_s, zif_t, zopt_n, zopt_s, b_s, znm_e, lit_0, lit_1, lit_2, lit_3, lit_4, lit_5, lit_6, lit_7, lit_8, lit_9, lit_10, lit_11, lit_12, lit_13, lit_17, lit_20, lit_23, lit_24, lit_43, lit_48, lit_51, lit_57, lit_58, lit_59, lit_60, lit_61, lit_63, lit_77, lit_100, lit_140, lit_168, lit_200, lit_393, lit_400, lit_900, lit_969, lit_1000, lit_1041, lit_1045, lit_1093, lit_1168, lit_1200, lit_3279, lit_3333, lit_4372, lit_9999, nI_leE, bI_0, Bool.true_eq_false, if_false, nI_add, nI_mul, q1]
      rw [if_neg (by omega)]
/-- whether a certificate is needed longer -/
theorem e8_ceL {z : Nat} {X : pX} {s : Nat → Nat} (hr : RoC X.1 s) (hB : RB s) {m q e : Nat} (hm : m < 12) (hq : q < 4) (he : e < 100000) {V2 : pV} (h2 : f_X8_record (z + 1278) (hp z X) = some (hp z (V2, X.2))) : ∀ (n fuel k : Nat), k + n = s 1 → n < fuel → f_X8_certify_34 fuel (z + 1278) (nI m) (nI q) (nI e) (nI k) (hp z X) = some (if oA (fun k => decide (recS s k 5 = 0 ∧ e < recS s k 3 ∧ recS s k (20 + m) = q + 1)) k n = true then (-nI 4, hp z X) else (nI (s (969 + 6 * m + q)), hp z (sV V2 1279 (upd (V2 1279) (969 + 6 * m + q) (nI e)), X.2))) := by
  intro n
  have b1 := hB.1.2.1
  induction n with
  | zero =>
    intro fuel k h1 h3
    obtain ⟨fuel, rfl⟩ : ∃ f, fuel = f + 1 := ⟨fuel - 1, by omega⟩
    have h1 : k = s 1 := h1
    rw [if_neg (show ¬ oA (fun k => decide (recS s k 5 = 0 ∧ e < recS s k 3 ∧ recS s k (20 + m) = q + 1)) k 0 = true from Bool.false_ne_true)]
    have g := e8_has (z := z) hr hm (w := q) (by omega)
    have p := e8_note (z := z) (X := (V2, X.2)) hm (w := q) (by omega) (nI e)
    simp (config := {maxSteps := 1000000}) (disch := first | assumption | omega) only [f_X8_certify_34, f_X8_certify_34_body, m_rm0, m_im, r_ld hr, g, h2, p, zb2_s, zif_t, zopt_n, zopt_s, b_s, znm_e, lit_0, lit_1, lit_2, lit_3, lit_4, lit_5, lit_6, lit_7, lit_8, lit_9, lit_10, lit_11, lit_12, lit_13, lit_17, lit_20, lit_23, lit_24, lit_43, lit_48, lit_51, lit_57, lit_58, lit_59, lit_60, lit_61, lit_63, lit_77, lit_100, lit_140, lit_168, lit_200, lit_393, lit_400, lit_900, lit_969, lit_1000, lit_1041, lit_1045, lit_1093, lit_1168, lit_1200, lit_3279, lit_3333, lit_4372, lit_9999, nI_leE]
    rw [if_pos (by omega)]
  | succ n ih =>
    intro fuel k h1 h3
    obtain ⟨fuel, rfl⟩ : ∃ f, fuel = f + 1 := ⟨fuel - 1, by omega⟩
    have hk : k < 48 := by omega
    have g1 := e8_is (z := z) hr hB hk (v := 0) (by omega)
    have g2 := e8_place (z := z) hr hk hm
    have bp := hB.2.2.1 k hk m hm
    rw [← recS_20 (s := s) (k := k) hm] at g2 bp
    have g3 := e8_end (z := z) hr hk
    have bk := hB.2.1 k hk
    have e3 : recS s k 3 = s (9 + 8 * k + 2) + s (9 + 8 * k + 3) := rfl
    have i1 := ih fuel (k + 1) (by omega) (by omega)
    by_cases c : recS s k 5 = 0 ∧ e < recS s k 3 ∧ recS s k (20 + m) = q + 1
    · rw [oA_t (decide_eq_true c), if_pos rfl]
      simp (config := {maxSteps := 1000000}) (disch := first | assumption | omega) only [f_X8_certify_34, f_X8_certify_34_body, f_X8_certify_81, m_rm0, m_im, r_ld hr, g1, g2, g3, zb2_s, zif_t, zopt_n, zopt_s, b_s, znm_e, lit_0, lit_1, lit_2, lit_3, lit_4, lit_5, lit_6, lit_7, lit_8, lit_9, lit_10, lit_11, lit_12, lit_13, lit_17, lit_20, lit_23, lit_24, lit_43, lit_48, lit_51, lit_57, lit_58, lit_59, lit_60, lit_61, lit_63, lit_77, lit_100, lit_140, lit_168, lit_200, lit_393, lit_400, lit_900, lit_969, lit_1000, lit_1041, lit_1045, lit_1093, lit_1168, lit_1200, lit_3279, lit_3333, lit_4372, lit_9999, nI_leE, nI_eqE, nI_add, bI_0]
      rw [if_neg (by omega), if_neg (by simp [c.1]), if_pos c.2.2, if_neg (by omega)]
    · rw [oA_f (decide_eq_false c), ← i1]
      simp (config := {maxSteps := 1000000}) (disch := first | assumption | omega) only [f_X8_certify_34, f_X8_certify_34_body, f_X8_certify_81, m_rm0, m_im, r_ld hr, g1, g2, g3, zb2_s, zif_t, zopt_n, zopt_s, b_s, znm_e, lit_0, lit_1, lit_2, lit_3, lit_4, lit_5, lit_6, lit_7, lit_8, lit_9, lit_10, lit_11, lit_12, lit_13, lit_17, lit_20, lit_23, lit_24, lit_43, lit_48, lit_51, lit_57, lit_58, lit_59, lit_60, lit_61, lit_63, lit_77, lit_100, lit_140, lit_168, lit_200, lit_393, lit_400, lit_900, lit_969, lit_1000, lit_1041, lit_1045, lit_1093, lit_1168, lit_1200, lit_3279, lit_3333, lit_4372, lit_9999, nI_leE, nI_eqE, nI_add, bI_0]
      rw [if_neg (by omega)]
      by_cases c1 : recS s k 5 = 0
      · rw [if_neg (by simp [c1])]
        by_cases c2 : recS s k (20 + m) = q + 1
        · rw [if_pos c2, if_pos (by omega)]
        · rw [if_neg c2]
      · rw [if_pos (decide_eq_false c1)]
/-- covering all places, in the reference -/
def cM1 (k q : Nat) (s : Nat → Nat) : Nat → Nat := cvR s k q (covM s (lsS s q) k q)
def cMN (k q : Nat) : Nat → (Nat → Nat) → Nat → Nat
  | 0, s => s
  | n + 1, s => cMN k q n (cM1 k q s)
def cMA (k : Nat) : Nat → Nat → (Nat → Nat) → Nat → Nat
  | _, 0, s => s
  | q, n + 1, s => cMA k (q + 1) n (cMN k q (recS s k (10 + q) - tkM s k q) s)
def FK (s : Nat → Nat) (k : Nat) : Prop := ∀ q, q < 4 → tkM s k q ≤ recS s k (10 + q)
theorem rsnM_0 {s : Nat → Nat} {m k q : Nat} (h : rsnM s m k q = 0) : recS s k 5 = 0 ∧ s 0 ≤ recS s k 2 ∧ tkM s k q < recS s k (10 + q) ∧ recS s k 3 ≤ s (969 + 6 * m + q) ∧ ¬ (s 0 < s (969 + 6 * m + 4) ∧ recS s k 2 < s (969 + 6 * m + 4)) ∧ recS s k (20 + m) = 0 ∧ rsM (updN s (393 + 12 * k + m) (q + 1)) (dcN (updN s (393 + 12 * k + m) (q + 1)) m) = true := by
  unfold rsnM at h
  split at h
  · omega
  · split at h
    · omega
    · split at h
      · omega
      · split at h
        · omega
        · split at h
          · omega
          · split at h
            · rename_i a b c d e f
              exact ⟨by omega, by omega, by omega, by omega, d, by omega, f⟩
            · omega
theorem cvR_rec {s : Nat → Nat} {k q m k' i : Nat} (hk : k < 48) (hk' : k' < 48) (hm : m < 12) (hi : i < 20) : recS (cvR s k q (some m)) k' i = recS s k' i := by
  have e : ∀ j, 9 ≤ j → j < 393 → cvR s k q (some m) j = s j := fun j h1 h2 => cvR_lo hk (fun m' h => by cases h; exact hm) (by omega)
  have e0 := e (9 + 8 * k' + 0) (by omega) (by omega)
  have e0' : cvR s k q (some m) (9 + 8 * k') = s (9 + 8 * k') := e0
  have e1 := e (9 + 8 * k' + 1) (by omega) (by omega)
  have e2 := e (9 + 8 * k' + 2) (by omega) (by omega)
  have e3 := e (9 + 8 * k' + 3) (by omega) (by omega)
  have e4 := e (9 + 8 * k' + 4) (by omega) (by omega)
  have e5 := e (9 + 8 * k' + 5) (by omega) (by omega)
  have e6 := e (9 + 8 * k' + 6) (by omega) (by omega)
  have e7 := e (9 + 8 * k' + 7) (by omega) (by omega)
  rcases (show i = 0 ∨ i = 1 ∨ i = 2 ∨ i = 3 ∨ i = 4 ∨ i = 5 ∨ i = 6 ∨ i = 7 ∨ i = 8 ∨ i = 9 ∨ i = 10 ∨ i = 11 ∨ i = 12 ∨ i = 13 ∨ i = 14 ∨ i = 15 ∨ i = 16 ∨ i = 17 ∨ i = 18 ∨ i = 19 by omega) with h | h | h | h | h | h | h | h | h | h | h | h | h | h | h | h | h | h | h | h <;> subst h <;> simp [recS, e0', e1, e2, e3, e4, e5, e6, e7]
theorem cvR_pl {s : Nat → Nat} {k q m k' i : Nat} (hk : k < 48) (hk' : k' < 48) (hm : m < 12) (hi : i < 12) : recS (cvR s k q (some m)) k' (20 + i) = if k' = k ∧ i = m then q + 1 else recS s k' (20 + i) := by
  rw [recS_20 hi, recS_20 hi]
  show updN (updN (updN s (393 + 12 * k + m) (q + 1)) (969 + 6 * m + 5) (s (969 + 6 * m + 5) + 1)) 3 (s 3 + 1) (393 + 12 * k' + i) = _
  rw [updN_n (by omega), updN_n (by omega)]
  by_cases c : k' = k ∧ i = m
  · rw [if_pos c, c.1, c.2, updN_s]
  · rw [if_neg c, updN_n (by omega)]
theorem cA_chg2 {p q : Nat → Bool} : ∀ {n k i : Nat}, k ≤ i → i < k + n → (∀ j, k ≤ j → j < k + n → j ≠ i → p j = q j) → cA p k n + (q i).toNat = cA q k n + (p i).toNat
  | 0, _, _, _, _, _ => by omega
  | n + 1, k, i, h1, h2, h => by
    show ((p k).toNat + cA p (k + 1) n) + _ = ((q k).toNat + cA q (k + 1) n) + _
    by_cases c : k = i
    · subst c
      have := cA_congr (p := p) (q := q) n (k + 1) (fun j a b => h j (by omega) (by omega) (by omega))
      omega
    · have := cA_chg2 (n := n) (k := k + 1) (i := i) (by omega) (by omega) (fun j a b c => h j (by omega) (by omega) c)
      rw [h k (by omega) (by omega) c]
      omega
theorem tkM_cv {s : Nat → Nat} (hB : RB s) {k q m p : Nat} (hk : k < 48) (hm : m < 12) (h0 : recS s k (20 + m) = 0) : tkM (cvR s k q (some m)) k p ≤ tkM s k p + (decide (q = p)).toNat := by
  have hb2 := hB.1.2.2.1
  have e2 : cvR s k q (some m) 2 = s 2 := cvR_lo hk (fun m' h => by cases h; exact hm) (by omega)
  unfold tkM
  rw [e2]
  by_cases hms : m < s 2
  · have hch := cA_chg2 (p := fun i => decide (recS (cvR s k q (some m)) k (20 + i) = p + 1)) (q := fun i => decide (recS s k (20 + i) = p + 1)) (n := s 2) (k := 0) (i := m) (Nat.zero_le _) (by omega) (fun j _ hj hne => by
      rw [cvR_pl hk hk hm (by omega), if_neg (fun w => hne w.2)])
    simp only [cvR_pl hk hk hm hm, h0, if_true, and_self] at hch
    by_cases c : q = p
    · subst c
      simp at hch ⊢
      omega
    · have e1 : decide (q + 1 = p + 1) = false := decide_eq_false (by omega)
      have e3 : decide (0 = p + 1) = false := decide_eq_false (by omega)
      rw [e1, e3] at hch
      simp at hch
      omega
  · rw [cA_congr (q := fun i => decide (recS s k (20 + i) = p + 1)) (s 2) 0 (fun j _ hj => by
      rw [cvR_pl hk hk hm (by omega), if_neg (fun w => by omega)])]
    omega
theorem FK_cov {s : Nat → Nat} (hB : RB s) {k q : Nat} (hk : k < 48) (hq : q < 4) (h : FK s k) : FK (cM1 k q s) k := by
  unfold cM1
  cases hc : covM s (lsS s q) k q with
  | none => exact h
  | some m =>
    have hm := covM_lt hB hq hc
    have hc' : (lsS s q).find? (fun m => decide (rsnM s m k q = 0)) = some m := hc
    have h00 : decide (rsnM s m k q = 0) = true := by
      have := List.find?_some hc'
      exact this
    have h0 := rsnM_0 (of_decide_eq_true h00)
    intro p hp
    rw [cvR_rec hk hk hm (by omega)]
    have h1 := tkM_cv (q := q) (p := p) hB hk hm h0.2.2.2.2.2.1
    have h2 := h p hp
    by_cases c : q = p
    · subst c
      have h3 := h0.2.2.1
      simp at h1
      omega
    · rw [decide_eq_false c] at h1
      simp at h1
      omega
theorem e8_fi3 {z : Nat} {k q N : Nat} (hk : k < 48) (hq : q < 4) (hN : N < 100000) {r39 : Nat → Int32 → Int32 → zHp → Option (Int32 × zHp)} : ∀ (n fuel i : Nat) (X : pX) (s : Nat → Nat), RoC X.1 s → RB s → FK s k → i + n = N → n < fuel → ∃ V', f_X8_fill_63 r39 fuel (z + 1278) (nI k) (nI q) (nI N) (nI i) (hp z X) = r39 (z + 1278) (nI k) (nI (q + 1)) (hp z (V', X.2)) ∧ KpM X.1 V' ∧ RoC V' (cMN k q n s) ∧ RB (cMN k q n s) ∧ FK (cMN k q n s) k := by
  intro n
  induction n with
  | zero =>
    intro fuel i X s hr hB hF h1 h2
    obtain ⟨fuel, rfl⟩ : ∃ f, fuel = f + 1 := ⟨fuel - 1, by omega⟩
    have h1 : i = N := h1
    refine ⟨X.1, ?_, KpM.rf, hr, hB, hF⟩
    simp (disch := first | assumption | omega) only [f_X8_fill_63, f_X8_fill_63_body, zb2_s, zif_t, zopt_n, zopt_s, b_s, znm_e, lit_0, lit_1, lit_2, lit_3, lit_4, lit_5, lit_6, lit_7, lit_8, lit_9, lit_10, lit_11, lit_12, lit_13, lit_17, lit_20, lit_23, lit_24, lit_43, lit_48, lit_51, lit_57, lit_58, lit_59, lit_60, lit_61, lit_63, lit_77, lit_100, lit_140, lit_168, lit_200, lit_393, lit_400, lit_900, lit_969, lit_1000, lit_1041, lit_1045, lit_1093, lit_1168, lit_1200, lit_3279, lit_3333, lit_4372, lit_9999, nI_leE, nI_add, nI_mul]
    rw [if_pos (by omega)]
  | succ n ih =>
    intro fuel i X s hr hB hF h1 h2
    obtain ⟨fuel, rfl⟩ : ∃ f, fuel = f + 1 := ⟨fuel - 1, by omega⟩
    obtain ⟨V1, p1, p2, p3, p4⟩ := e8_cover (z := z) hr hB hk hq
    obtain ⟨V', q1, q2, q3⟩ := ih fuel (i + 1) (V1, X.2) (cM1 k q s) p3 p4 (FK_cov hB hk hq hF) (by omega) (by omega)
    refine ⟨V', ?_, p2.tr q2, q3⟩
    simp (disch := first | assumption | omega) only [f_X8_fill_63, f_X8_fill_63_body, m_im, zb2_s, zif_t, zopt_n, zopt_s, b_s, znm_e, lit_0, lit_1, lit_2, lit_3, lit_4, lit_5, lit_6, lit_7, lit_8, lit_9, lit_10, lit_11, lit_12, lit_13, lit_17, lit_20, lit_23, lit_24, lit_43, lit_48, lit_51, lit_57, lit_58, lit_59, lit_60, lit_61, lit_63, lit_77, lit_100, lit_140, lit_168, lit_200, lit_393, lit_400, lit_900, lit_969, lit_1000, lit_1041, lit_1045, lit_1093, lit_1168, lit_1200, lit_3279, lit_3333, lit_4372, lit_9999, nI_leE, p1, nI_add, nI_mul, q1]
    rw [if_neg (by omega)]
theorem recS_10le {s : Nat → Nat} (hB : RB s) {k q : Nat} (hk : k < 48) (hq : q < 4) : recS s k (10 + q) ≤ 3 := by
  have bk := hB.2.1 k hk
  rw [recS_10 hq]
  rcases (show q = 0 ∨ q = 1 ∨ q = 2 ∨ q = 3 by omega) with rfl | rfl | rfl | rfl
  · exact bk.2.2.2.2.1
  · exact bk.2.2.2.2.2.1
  · exact bk.2.2.2.2.2.2.1
  · exact bk.2.2.2.2.2.2.2
theorem FK.o {s : Nat → Nat} {k : Nat} (h : FK s k) : tkO s k ≤ ned (recS s k) := by
  have h0 := h 0 (by omega)
  have h1 := h 1 (by omega)
  have h2 := h 2 (by omega)
  have h3 := h 3 (by omega)
  show tkM s k 0 + tkM s k 1 + tkM s k 2 + tkM s k 3 ≤ recS s k (10 + 0) + recS s k (10 + 1) + recS s k (10 + 2) + recS s k (10 + 3)
  omega
theorem e8_fi {z : Nat} {k : Nat} (hk : k < 48) : ∀ (n fuel q : Nat) (X : pX) (s : Nat → Nat), RoC X.1 s → RB s → FK s k → q + n = 4 → n < fuel → ∃ V', f_X8_fill_39 fuel (z + 1278) (nI k) (nI q) (hp z X) = some (nI (fo (cMA k q n s) k), hp z (V', X.2)) ∧ KpM X.1 V' ∧ RoC V' (cMA k q n s) ∧ RB (cMA k q n s) := by
  intro n
  induction n with
  | zero =>
    intro fuel q X s hr hB hF h1 h2
    obtain ⟨fuel, rfl⟩ : ∃ f, fuel = f + 1 := ⟨fuel - 1, by omega⟩
    obtain rfl : q = 4 := by omega
    have g := e8_freeOf (z := z) hr hB hk
    rw [nI_sub hF.o] at g
    refine ⟨X.1, ?_, KpM.rf, hr, hB⟩
    simp (disch := first | assumption | omega) only [f_X8_fill_39, f_X8_fill_39_body, m_im, g, zb2_s, zif_t, zopt_n, zopt_s, b_s, znm_e, lit_0, lit_1, lit_2, lit_3, lit_4, lit_5, lit_6, lit_7, lit_8, lit_9, lit_10, lit_11, lit_12, lit_13, lit_17, lit_20, lit_23, lit_24, lit_43, lit_48, lit_51, lit_57, lit_58, lit_59, lit_60, lit_61, lit_63, lit_77, lit_100, lit_140, lit_168, lit_200, lit_393, lit_400, lit_900, lit_969, lit_1000, lit_1041, lit_1045, lit_1093, lit_1168, lit_1200, lit_3279, lit_3333, lit_4372, lit_9999, nI_leE, Nat.le_refl, if_true]
    rfl
  | succ n ih =>
    intro fuel q X s hr hB hF h1 h2
    obtain ⟨fuel, rfl⟩ : ∃ f, fuel = f + 1 := ⟨fuel - 1, by omega⟩
    have hq : q < 4 := by omega
    have g1 := e8_of (z := z) hr hk (w := 4 + q) (by omega)
    rw [← recS_10 (s := s) (k := k) hq] at g1
    have g2 := e8_taken (z := z) hr hB hk hq
    have b3 := recS_10le hB hk hq
    have e := nI_sub (hF q hq)
    obtain ⟨V1, p1, p2, p3, p4, p5⟩ := e8_fi3 (z := z) hk hq (N := recS s k (10 + q) - tkM s k q) (by omega) (r39 := f_X8_fill_39 fuel) (recS s k (10 + q) - tkM s k q) zN 0 X s hr hB hF (by omega) (zN_lt (by omega))
    obtain ⟨V', q1, q2, q3⟩ := ih fuel (q + 1) (V1, X.2) _ p3 p4 p5 (by omega) (by omega)
    refine ⟨V', ?_, p2.tr q2, q3⟩
    simp (disch := first | assumption | omega) only [f_X8_fill_39, f_X8_fill_39_body, m_im, g1, g2, zb2_s, zif_t, zopt_n, zopt_s, b_s, znm_e, lit_0, lit_1, lit_2, lit_3, lit_4, lit_5, lit_6, lit_7, lit_8, lit_9, lit_10, lit_11, lit_12, lit_13, lit_17, lit_20, lit_23, lit_24, lit_43, lit_48, lit_51, lit_57, lit_58, lit_59, lit_60, lit_61, lit_63, lit_77, lit_100, lit_140, lit_168, lit_200, lit_393, lit_400, lit_900, lit_969, lit_1000, lit_1041, lit_1045, lit_1093, lit_1168, lit_1200, lit_3279, lit_3333, lit_4372, lit_9999, nI_leE, nI_add, e, p1, q1]
    rw [if_neg (by omega)]
    rfl
/-- hours pass -/
def passN : Nat → (Nat → Nat) → Nat → Nat
  | 0, s => s
  | n + 1, s => passN n (passH s)
theorem phL_0 {i : Nat} (hi : i < 9 ∨ 969 ≤ i) : ∀ (n k : Nat) (s : Nat → Nat), k + n ≤ 48 → phL k n s i = s i
  | 0, _, _, _ => rfl
  | n + 1, k, s, hk => by
    show phL (k + 1) n (match phB s k with | true => depM s k | false => s) i = s i
    rw [phL_0 hi n (k + 1) _ (by omega)]
    cases phB s k
    · rfl
    · exact depM_1 hi (by omega)
theorem passH_0 {s : Nat → Nat} : passH s 0 = s 0 + 1 := updN_s
theorem e8_psL {z : Nat} {H : Nat} (hH : H < 1000) : ∀ (n fuel k : Nat) (X : pX) (s : Nat → Nat), RoC X.1 s → RB s → s 0 + n ≤ 1000 → k + n = H → n < fuel → ∃ V', f_X8_pass_37 fuel (z + 1278) (nI H) (nI k) (hp z X) = some (nI (s 0 + n), hp z (V', X.2)) ∧ KpM X.1 V' ∧ RoC V' (passN n s) ∧ RB (passN n s) := by
  intro n
  induction n with
  | zero =>
    intro fuel k X s hr hB h0 h1 h2
    obtain ⟨fuel, rfl⟩ : ∃ f, fuel = f + 1 := ⟨fuel - 1, by omega⟩
    have h1 : k = H := h1
    refine ⟨X.1, ?_, KpM.rf, hr, hB⟩
    simp (disch := first | assumption | omega) only [f_X8_pass_37, f_X8_pass_37_body, m_rm0, r_ld hr, zb2_s, zif_t, zopt_n, zopt_s, b_s, znm_e, lit_0, lit_1, lit_2, lit_3, lit_4, lit_5, lit_6, lit_7, lit_8, lit_9, lit_10, lit_11, lit_12, lit_13, lit_17, lit_20, lit_23, lit_24, lit_43, lit_48, lit_51, lit_57, lit_58, lit_59, lit_60, lit_61, lit_63, lit_77, lit_100, lit_140, lit_168, lit_200, lit_393, lit_400, lit_900, lit_969, lit_1000, lit_1041, lit_1045, lit_1093, lit_1168, lit_1200, lit_3279, lit_3333, lit_4372, lit_9999, nI_leE, Nat.add_zero]
    rw [if_pos (by omega)]
  | succ n ih =>
    intro fuel k X s hr hB h0 h1 h2
    obtain ⟨fuel, rfl⟩ : ∃ f, fuel = f + 1 := ⟨fuel - 1, by omega⟩
    obtain ⟨V1, p1, p2, p3, p4⟩ := e8_passHour (z := z) hr hB (by omega)
    obtain ⟨V', q1, q2, q3⟩ := ih fuel (k + 1) (V1, X.2) (passH s) p3 p4 (by rw [passH_0]; omega) (by omega) (by omega)
    rw [passH_0, show s 0 + 1 + n = s 0 + (n + 1) by omega] at q1
    refine ⟨V', ?_, p2.tr q2, q3⟩
    simp (disch := first | assumption | omega) only [f_X8_pass_37, f_X8_pass_37_body, m_im, zb2_s, zif_t, zopt_n, zopt_s, b_s, znm_e, lit_0, lit_1, lit_2, lit_3, lit_4, lit_5, lit_6, lit_7, lit_8, lit_9, lit_10, lit_11, lit_12, lit_13, lit_17, lit_20, lit_23, lit_24, lit_43, lit_48, lit_51, lit_57, lit_58, lit_59, lit_60, lit_61, lit_63, lit_77, lit_100, lit_140, lit_168, lit_200, lit_393, lit_400, lit_900, lit_969, lit_1000, lit_1041, lit_1045, lit_1093, lit_1168, lit_1200, lit_3279, lit_3333, lit_4372, lit_9999, nI_leE, p1, nI_add, nI_mul, q1]
    rw [if_neg (by omega)]
/-- who has a place -/
def crM (s : Nat → Nat) (k : Nat) (w : Int32) (o : Option Nat) : Int32 := match o with
  | none => -nI 5
  | some i => if w = nI 0 then nI (i % 12) else if w = nI 1 then nI (i / 12) else nI (bgN s (i % 12) k)
theorem e8_crL {z : Nat} {X : pX} {s : Nat → Nat} (hr : RoC X.1 s) (hB : RB s) {k : Nat} (hk : k < 48) (w : Int32) : ∀ (n fuel i L : Nat), i + n = 48 → n < fuel → L < 2 ^ 31 → f_X8_crew_32 fuel (z + 1278) (nI k) w (nI L) (nI i) (hp z X) = some (crM s k w (nA (mrP (recS s k)) i n L), hp z X) := by
  intro n
  induction n with
  | zero =>
    intro fuel i L h1 h2 h3
    obtain ⟨fuel, rfl⟩ : ∃ f, fuel = f + 1 := ⟨fuel - 1, by omega⟩
    obtain rfl : i = 48 := by omega
    simp (disch := first | assumption | omega) only [f_X8_crew_32, f_X8_crew_32_body, zb2_s, zif_t, zopt_n, zopt_s, b_s, znm_e, lit_0, lit_1, lit_2, lit_3, lit_4, lit_5, lit_6, lit_7, lit_8, lit_9, lit_10, lit_11, lit_12, lit_13, lit_17, lit_20, lit_23, lit_24, lit_43, lit_48, lit_51, lit_57, lit_58, lit_59, lit_60, lit_61, lit_63, lit_77, lit_100, lit_140, lit_168, lit_200, lit_393, lit_400, lit_900, lit_969, lit_1000, lit_1041, lit_1045, lit_1093, lit_1168, lit_1200, lit_3279, lit_3333, lit_4372, lit_9999, nI_leE, Nat.le_refl, if_true, nA_0, crM]
  | succ n ih =>
    intro fuel i L h1 h2 h3
    obtain ⟨fuel, rfl⟩ : ∃ f, fuel = f + 1 := ⟨fuel - 1, by omega⟩
    have r0 := zrem_n (a := i) (b := 12) (by omega) (by omega) (by omega)
    have d0 := zdiv_n (a := i) (b := 12) (by omega) (by omega) (by omega)
    have hm : i % 12 < 12 := Nat.mod_lt _ (by omega)
    have g := e8_place (z := z) hr hk hm
    have bp := hB.2.2.1 k hk _ hm
    rw [← recS_20 (s := s) (k := k) hm] at g bp
    have g2 := e8_begins (z := z) hr hB hk hm
    have hi : ¬ 48 ≤ i := by omega
    by_cases c : recS s k (20 + i % 12) = i / 12 + 1
    · have hp1 : mrP (recS s k) i = true := decide_eq_true c
      cases L with
      | zero =>
        rw [nA_t0 hp1]
        simp (config := {maxSteps := 1000000}) (disch := first | assumption | omega) only [f_X8_crew_32, f_X8_crew_32_body, f_X8_crew_101, m_im, g, g2, r0, d0, zb2_s, zif_t, zopt_n, zopt_s, b_s, znm_e, lit_0, lit_1, lit_2, lit_3, lit_4, lit_5, lit_6, lit_7, lit_8, lit_9, lit_10, lit_11, lit_12, lit_13, lit_17, lit_20, lit_23, lit_24, lit_43, lit_48, lit_51, lit_57, lit_58, lit_59, lit_60, lit_61, lit_63, lit_77, lit_100, lit_140, lit_168, lit_200, lit_393, lit_400, lit_900, lit_969, lit_1000, lit_1041, lit_1045, lit_1093, lit_1168, lit_1200, lit_3279, lit_3333, lit_4372, lit_9999, nI_leE, nI_eqE, nI_add, hi, if_false, if_true, crM, c]
        by_cases w0 : w = nI 0
        · rw [if_pos w0, if_pos w0]
        · rw [if_neg w0, if_neg w0]
          by_cases w1 : w = nI 1
          · rw [if_pos w1, if_pos w1]
          · rw [if_neg w1, if_neg w1]
      | succ L =>
        rw [nA_ts hp1]
        have i1 := ih fuel (i + 1) L (by omega) (by omega) (by omega)
        simp (config := {maxSteps := 1000000}) (disch := first | assumption | omega) only [f_X8_crew_32, f_X8_crew_32_body, f_X8_crew_101, m_im, g, r0, d0, zb2_s, zif_t, zopt_n, zopt_s, b_s, znm_e, lit_0, lit_1, lit_2, lit_3, lit_4, lit_5, lit_6, lit_7, lit_8, lit_9, lit_10, lit_11, lit_12, lit_13, lit_17, lit_20, lit_23, lit_24, lit_43, lit_48, lit_51, lit_57, lit_58, lit_59, lit_60, lit_61, lit_63, lit_77, lit_100, lit_140, lit_168, lit_200, lit_393, lit_400, lit_900, lit_969, lit_1000, lit_1041, lit_1045, lit_1093, lit_1168, lit_1200, lit_3279, lit_3333, lit_4372, lit_9999, nI_leE, nI_eqE, nI_add, hi, if_false, if_true, c, nI_m1, i1]
        rw [if_neg (by omega)]
    · have hp1 : mrP (recS s k) i = false := decide_eq_false c
      rw [nA_f hp1]
      have i1 := ih fuel (i + 1) L (by omega) (by omega) h3
      simp (config := {maxSteps := 1000000}) (disch := first | assumption | omega) only [f_X8_crew_32, f_X8_crew_32_body, f_X8_crew_101, m_im, g, r0, d0, zb2_s, zif_t, zopt_n, zopt_s, b_s, znm_e, lit_0, lit_1, lit_2, lit_3, lit_4, lit_5, lit_6, lit_7, lit_8, lit_9, lit_10, lit_11, lit_12, lit_13, lit_17, lit_20, lit_23, lit_24, lit_43, lit_48, lit_51, lit_57, lit_58, lit_59, lit_60, lit_61, lit_63, lit_77, lit_100, lit_140, lit_168, lit_200, lit_393, lit_400, lit_900, lit_969, lit_1000, lit_1041, lit_1045, lit_1093, lit_1168, lit_1200, lit_3279, lit_3333, lit_4372, lit_9999, nI_leE, nI_eqE, nI_add, hi, if_false, c, i1]
/-- ladders -/
theorem e8_rgL {z : Nat} {X : pX} {s : Nat → Nat} (hr : RoC X.1 s) (hB : RB s) {m q : Nat} (hm : m < 12) (hq : q < 4) : ∀ (n fuel i : Nat), i + n = s (1041 + q) → n < fuel → f_X8_rungOf_2 fuel (z + 1278) (nI m) (nI q) (nI i) (hp z X) = some (oI (nA (fun i => decide (s (1045 + 12 * q + i) = m)) i n 0), hp z X) := by
  intro n
  have bq := hB.2.2.2 q hq
  induction n with
  | zero =>
    intro fuel i h1 h2
    obtain ⟨fuel, rfl⟩ : ∃ f, fuel = f + 1 := ⟨fuel - 1, by omega⟩
    have h1 : i = s (1041 + q) := h1
    simp (disch := first | assumption | omega) only [f_X8_rungOf_2, f_X8_rungOf_2_body, m_rm0, r_ld hr, zb2_s, zif_t, zopt_n, zopt_s, b_s, znm_e, lit_0, lit_1, lit_2, lit_3, lit_4, lit_5, lit_6, lit_7, lit_8, lit_9, lit_10, lit_11, lit_12, lit_13, lit_17, lit_20, lit_23, lit_24, lit_43, lit_48, lit_51, lit_57, lit_58, lit_59, lit_60, lit_61, lit_63, lit_77, lit_100, lit_140, lit_168, lit_200, lit_393, lit_400, lit_900, lit_969, lit_1000, lit_1041, lit_1045, lit_1093, lit_1168, lit_1200, lit_3279, lit_3333, lit_4372, lit_9999, nI_leE, nI_add, nI_mul, nA_0, oI]
    rw [if_pos (by omega)]
  | succ n ih =>
    intro fuel i h1 h2
    obtain ⟨fuel, rfl⟩ : ∃ f, fuel = f + 1 := ⟨fuel - 1, by omega⟩
    have bi := bq.2 i (by omega)
    have i1 := ih fuel (i + 1) (by omega) (by omega)
    simp (disch := first | assumption | omega) only [f_X8_rungOf_2, f_X8_rungOf_2_body, m_rm0, r_ld hr, zb2_s, zif_t, zopt_n, zopt_s, b_s, znm_e, lit_0, lit_1, lit_2, lit_3, lit_4, lit_5, lit_6, lit_7, lit_8, lit_9, lit_10, lit_11, lit_12, lit_13, lit_17, lit_20, lit_23, lit_24, lit_43, lit_48, lit_51, lit_57, lit_58, lit_59, lit_60, lit_61, lit_63, lit_77, lit_100, lit_140, lit_168, lit_200, lit_393, lit_400, lit_900, lit_969, lit_1000, lit_1041, lit_1045, lit_1093, lit_1168, lit_1200, lit_3279, lit_3333, lit_4372, lit_9999, nI_leE, nI_eqE, nI_add, nI_mul, i1]
    rw [if_neg (by omega)]
    by_cases c : s (1045 + 12 * q + i) = m
    · rw [if_pos c, nA_t0 (decide_eq_true c)]; rfl
    · rw [if_neg c, nA_f (decide_eq_false c)]
theorem e8_rung {z : Nat} {X : pX} {s : Nat → Nat} (hr : RoC X.1 s) (hB : RB s) {m q : Nat} (hm : m < 12) (hq : q < 4) : f_X8_rungOf (z + 1278) (nI m) (nI q) (hp z X) = some (oI (nA (fun i => decide (s (1045 + 12 * q + i) = m)) 0 (s (1041 + q)) 0), hp z X) := by
  have h := e8_rgL (z := z) hr hB hm hq (s (1041 + q)) zN 0 (by omega) (zN_lt (by have := (hB.2.2.2 q hq).1; omega))
  simp only [f_X8_rungOf, lit_0, lit_1, lit_2, lit_3, lit_4, lit_5, lit_6, lit_7, lit_8, lit_9, lit_10, lit_11, lit_12, lit_13, lit_17, lit_20, lit_23, lit_24, lit_43, lit_48, lit_51, lit_57, lit_58, lit_59, lit_60, lit_61, lit_63, lit_77, lit_100, lit_140, lit_168, lit_200, lit_393, lit_400, lit_900, lit_969, lit_1000, lit_1041, lit_1045, lit_1093, lit_1168, lit_1200, lit_3279, lit_3333, lit_4372, lit_9999, h]
def offL (q : Nat) : Nat → Nat → (Nat → Nat) → Nat → Nat
  | _, 0, s => s
  | i, n + 1, s => offL q (i + 1) n (updN s (1045 + 12 * q + i) (s (1045 + 12 * q + i + 1)))
theorem e8_toL {z : Nat} {q : Nat} (hq : q < 4) : ∀ (n fuel i : Nat) (X : pX) (s : Nat → Nat), RoC X.1 s → i + n = s (1041 + q) → s (1041 + q) < 12 → n < fuel → ∃ V', f_X8_takeOff_16 fuel (z + 1278) (nI q) (nI i) (hp z X) = some (hp z (V', X.2)) ∧ KpM X.1 V' ∧ RoC V' (offL q i n s) := by
  intro n
  induction n with
  | zero =>
    intro fuel i X s hr h1 h12 h2
    obtain ⟨fuel, rfl⟩ : ∃ f, fuel = f + 1 := ⟨fuel - 1, by omega⟩
    have h1 : i = s (1041 + q) := h1
    refine ⟨X.1, ?_, KpM.rf, hr⟩
    simp (disch := first | assumption | omega) only [f_X8_takeOff_16, f_X8_takeOff_16_body, m_rm0, r_ld hr, zb2_s, zif_t, zopt_n, zopt_s, b_s, znm_e, lit_0, lit_1, lit_2, lit_3, lit_4, lit_5, lit_6, lit_7, lit_8, lit_9, lit_10, lit_11, lit_12, lit_13, lit_17, lit_20, lit_23, lit_24, lit_43, lit_48, lit_51, lit_57, lit_58, lit_59, lit_60, lit_61, lit_63, lit_77, lit_100, lit_140, lit_168, lit_200, lit_393, lit_400, lit_900, lit_969, lit_1000, lit_1041, lit_1045, lit_1093, lit_1168, lit_1200, lit_3279, lit_3333, lit_4372, lit_9999, nI_leE, nI_add, nI_mul]
    rw [if_pos (by omega)]
  | succ n ih =>
    intro fuel i X s hr h1 h12 h2
    obtain ⟨fuel, rfl⟩ : ∃ f, fuel = f + 1 := ⟨fuel - 1, by omega⟩
    have e : updN s (1045 + 12 * q + i) (s (1045 + 12 * q + i + 1)) (1041 + q) = s (1041 + q) := updN_n (by omega)
    obtain ⟨V', q1, q2, q3⟩ := ih fuel (i + 1) (sV X.1 1279 (upd (X.1 1279) (1045 + 12 * q + i) (nI (s (1045 + 12 * q + i + 1)))), X.2) _ (hr.st _ _) (by rw [e]; omega) (by rw [e]; exact h12) (by omega)
    refine ⟨V', ?_, KpM.up.tr q2, q3⟩
    simp (disch := first | assumption | omega) only [f_X8_takeOff_16, f_X8_takeOff_16_body, m_rm0, r_ld hr, m_st1279, zb2_s, zif_t, zopt_n, zopt_s, b_s, znm_e, lit_0, lit_1, lit_2, lit_3, lit_4, lit_5, lit_6, lit_7, lit_8, lit_9, lit_10, lit_11, lit_12, lit_13, lit_17, lit_20, lit_23, lit_24, lit_43, lit_48, lit_51, lit_57, lit_58, lit_59, lit_60, lit_61, lit_63, lit_77, lit_100, lit_140, lit_168, lit_200, lit_393, lit_400, lit_900, lit_969, lit_1000, lit_1041, lit_1045, lit_1093, lit_1168, lit_1200, lit_3279, lit_3333, lit_4372, lit_9999, nI_leE, nI_add, nI_mul, q1]
    rw [if_neg (by omega)]
def offM (s : Nat → Nat) (q i : Nat) : Nat → Nat := offL q i (s (1041 + q) - 1 - i) (updN s (1041 + q) (s (1041 + q) - 1))
theorem e8_takeOff {z : Nat} {X : pX} {s : Nat → Nat} (hr : RoC X.1 s) (hB : RB s) {q i : Nat} (hq : q < 4) (hi : i < s (1041 + q)) : ∃ V', f_X8_takeOff (z + 1278) (nI q) (nI i) (hp z X) = some (hp z (V', X.2)) ∧ KpM X.1 V' ∧ RoC V' (offM s q i) := by
  have bq := hB.2.2.2 q hq
  have e : nI (s (1041 + q)) - nI 1 = nI (s (1041 + q) - 1) := nI_sub (by omega)
  obtain ⟨V', q1, q2, q3⟩ := e8_toL (z := z) hq (s (1041 + q) - 1 - i) zN i (sV X.1 1279 (upd (X.1 1279) (1041 + q) (nI (s (1041 + q) - 1))), X.2) (updN s (1041 + q) (s (1041 + q) - 1)) (hr.st _ _) (by rw [updN_s]; omega) (by rw [updN_s]; omega) (zN_lt (by omega))
  refine ⟨V', ?_, KpM.up.tr q2, q3⟩
  simp (disch := first | assumption | omega) only [f_X8_takeOff, m_rm0, r_ld hr, m_st1279, zb2_s, zif_t, zopt_n, zopt_s, b_s, znm_e, lit_0, lit_1, lit_2, lit_3, lit_4, lit_5, lit_6, lit_7, lit_8, lit_9, lit_10, lit_11, lit_12, lit_13, lit_17, lit_20, lit_23, lit_24, lit_43, lit_48, lit_51, lit_57, lit_58, lit_59, lit_60, lit_61, lit_63, lit_77, lit_100, lit_140, lit_168, lit_200, lit_393, lit_400, lit_900, lit_969, lit_1000, lit_1041, lit_1045, lit_1093, lit_1168, lit_1200, lit_3279, lit_3333, lit_4372, lit_9999, nI_add, nI_mul, e, q1]
