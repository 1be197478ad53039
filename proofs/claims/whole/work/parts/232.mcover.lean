/-! the reference: why not, covering -/
def KpM (V V' : pV) : Prop := ∀ o, o ≠ 1279 → o ≠ 1285 → V' o = V o
theorem KpM.tr {V V1 V2 : pV} (h : KpM V V1) (g : KpM V1 V2) : KpM V V2 := fun o a b => (g o a b).trans (h o a b)
theorem KpM.rf {V : pV} : KpM V V := fun _ _ _ => rfl
theorem KpY.M {V V' : pV} (h : KpY V V') : KpM V V' := fun o _ b => h o b
theorem KpM.up {V : pV} {f : Nat → Int32} : KpM V (sV V 1279 f) := fun _ a _ => sV_n a
theorem RB.pl {s : Nat → Nat} (h : RB s) {k m v : Nat} (hk : k < 48) (hm : m < 12) (hv : v ≤ 4) : RB (updN s (393 + 12 * k + m) v) := by
  obtain ⟨⟨a, b, c, ⟨d1, d2, d3, d4, d5⟩, e⟩, f, g, i⟩ := h
  refine ⟨⟨?_, ?_, ?_, ⟨?_, ?_, ?_, ?_, ?_⟩, fun m' hm' q hq => ?_⟩, fun k' hk' => ?_, fun k' hk' m' hm' => ?_, fun q hq => ⟨?_, fun j hj => ?_⟩⟩
  · rw [updN_n (by omega)]; exact a
  · rw [updN_n (by omega)]; exact b
  · rw [updN_n (by omega)]; exact c
  · rw [updN_n (by omega)]; exact d1
  · rw [updN_n (by omega)]; exact d2
  · rw [updN_n (by omega)]; exact d3
  · rw [updN_n (by omega)]; exact d4
  · rw [updN_n (by omega)]; exact d5
  · rw [updN_n (by omega)]; exact e m' hm' q hq
  · have := f k' hk'
    rw [updN_n (by omega), updN_n (by omega), updN_n (by omega), updN_n (by omega), updN_n (by omega), updN_n (by omega), updN_n (by omega), updN_n (by omega)]; exact this
  · by_cases c1 : 393 + 12 * k' + m' = 393 + 12 * k + m
    · rw [c1, updN_s]; exact hv
    · rw [updN_n c1]; exact g k' hk' m' hm'
  · rw [updN_n (by omega)]; exact (i q hq).1
  · rw [updN_n (by omega)]; exact (i q hq).2 j hj
/-- a number that has no bound changes -/
theorem RB.cv {s : Nat → Nat} (h : RB s) {j v : Nat} (hj : j = 3 ∨ ∃ m, m < 12 ∧ j = 969 + 6 * m + 5) : RB (updN s j v) := by
  obtain ⟨⟨a, b, c, ⟨d1, d2, d3, d4, d5⟩, e⟩, f, g, i⟩ := h
  have hj2 : j = 3 ∨ (969 ≤ j ∧ j < 1041 ∧ j % 6 = 2) := by
    rcases hj with q | ⟨m, hm, q⟩
    · exact Or.inl q
    · right; omega
  refine ⟨⟨?_, ?_, ?_, ⟨?_, ?_, ?_, ?_, ?_⟩, fun m' hm' q hq => ?_⟩, fun k' hk' => ?_, fun k' hk' m' hm' => ?_, fun q hq => ⟨?_, fun j hj => ?_⟩⟩
  · rw [updN_n (by omega)]; exact a
  · rw [updN_n (by omega)]; exact b
  · rw [updN_n (by omega)]; exact c
  · rw [updN_n (by omega)]; exact d1
  · rw [updN_n (by omega)]; exact d2
  · rw [updN_n (by omega)]; exact d3
  · rw [updN_n (by omega)]; exact d4
  · rw [updN_n (by omega)]; exact d5
  · rw [updN_n (by omega)]; exact e m' hm' q hq
  · have := f k' hk'
    rw [updN_n (by omega), updN_n (by omega), updN_n (by omega), updN_n (by omega), updN_n (by omega), updN_n (by omega), updN_n (by omega), updN_n (by omega)]; exact this
  · rw [updN_n (by omega)]; exact g k' hk' m' hm'
  · rw [updN_n (by omega)]; exact (i q hq).1
  · rw [updN_n (by omega)]; exact (i q hq).2 j hj
/-- a sailing's state changes -/
theorem RB.stt {s : Nat → Nat} (h : RB s) {k v : Nat} (hk : k < 48) (hv : v ≤ 2) : RB (updN s (9 + 8 * k + 0) v) := by
  obtain ⟨⟨a, b, c, ⟨d1, d2, d3, d4, d5⟩, e⟩, f, g, i⟩ := h
  refine ⟨⟨?_, ?_, ?_, ⟨?_, ?_, ?_, ?_, ?_⟩, fun m' hm' q hq => ?_⟩, fun k' hk' => ?_, fun k' hk' m' hm' => ?_, fun q hq => ⟨?_, fun j hj => ?_⟩⟩
  · rw [updN_n (by omega)]; exact a
  · rw [updN_n (by omega)]; exact b
  · rw [updN_n (by omega)]; exact c
  · rw [updN_n (by omega)]; exact d1
  · rw [updN_n (by omega)]; exact d2
  · rw [updN_n (by omega)]; exact d3
  · rw [updN_n (by omega)]; exact d4
  · rw [updN_n (by omega)]; exact d5
  · rw [updN_n (by omega)]; exact e m' hm' q hq
  · have := f k' hk'
    rw [updN_n (j := 9 + 8 * k' + 1) (by omega), updN_n (j := 9 + 8 * k' + 2) (by omega), updN_n (j := 9 + 8 * k' + 3) (by omega), updN_n (j := 9 + 8 * k' + 4) (by omega), updN_n (j := 9 + 8 * k' + 5) (by omega), updN_n (j := 9 + 8 * k' + 6) (by omega), updN_n (j := 9 + 8 * k' + 7) (by omega)]
    refine ⟨?_, this.2⟩
    by_cases c1 : k' = k
    · rw [c1, updN_s]; exact hv
    · rw [updN_n (by omega)]; exact this.1
  · rw [updN_n (by omega)]; exact g k' hk' m' hm'
  · rw [updN_n (by omega)]; exact (i q hq).1
  · rw [updN_n (by omega)]; exact (i q hq).2 j hj
def rsnM (s : Nat → Nat) (m k q : Nat) : Nat :=
  if recS s k 5 ≠ 0 ∨ recS s k 2 < s 0 then 1 else if recS s k (10 + q) ≤ tkM s k q then 2 else if s (969 + 6 * m + q) < recS s k 3 then 3 else if s 0 < s (969 + 6 * m + 4) ∧ recS s k 2 < s (969 + 6 * m + 4) then 4 else if recS s k (20 + m) ≠ 0 then 5 else if rsM (updN s (393 + 12 * k + m) (q + 1)) (dcN (updN s (393 + 12 * k + m) (q + 1)) m) = true then 0 else 6
theorem tkM_le {s : Nat → Nat} (hB : RB s) (k q : Nat) : tkM s k q ≤ 12 := by
  have := cA_le (fun m => decide (recS s k (20 + m) = q + 1)) (s 2) 0
  have := hB.1.2.2.1
  unfold tkM; omega
theorem e8_rs86 {z : Nat} {X : pX} {s : Nat → Nat} (hr : RoC X.1 s) (hB : RB s) {m k q : Nat} (hm : m < 12) (hk : k < 48) (hq : q < 4) : ∃ V', f_X8_reason_86 (z + 1278) (nI m) (nI k) (nI q) (hp z X) = some (nI (if recS s k (20 + m) ≠ 0 then 5 else if rsM (updN s (393 + 12 * k + m) (q + 1)) (dcN (updN s (393 + 12 * k + m) (q + 1)) m) = true then 0 else 6), hp z (V', X.2)) ∧ KpM X.1 V' ∧ RoC V' s := by
  have g := e8_place (z := z) hr hk hm
  have bp := hB.2.2.1 k hk m hm
  rw [recS_20 hm]
  by_cases c : s (393 + 12 * k + m) = 0
  · obtain ⟨V1, q1, q2⟩ := e8_rests (z := z) (X := (sV X.1 1279 (upd (X.1 1279) (393 + 12 * k + m) (nI (q + 1))), X.2)) (hr.st (393 + 12 * k + m) (q + 1)) (hB.pl hk hm (by omega)) hm
    have hr1 : RoC V1 (updN s (393 + 12 * k + m) (q + 1)) := q2.ro (hr.st (393 + 12 * k + m) (q + 1))
    have hr2 := hr1.st (393 + 12 * k + m) 0
    have p1 := fun v => e8_setPl (z := z) (X := X) hk hm v
    have p2 := fun v => e8_setPl (z := z) (X := (V1, X.2)) hk hm v
    rw [if_neg (by simp [c])]
    refine ⟨sV V1 1279 (upd (V1 1279) (393 + 12 * k + m) (nI 0)), ?_, fun o o1 o2 => by rw [sV_n o1, q2 o o2]; exact sV_n o1, fun i hi => ?_⟩
    · simp (config := {maxSteps := 1000000}) (disch := first | assumption | omega) only [f_X8_reason_86, m_im, g, p1, p2, zb2_s, zif_t, zopt_n, zopt_s, b_s, znm_e, lit_0, lit_1, lit_2, lit_3, lit_4, lit_5, lit_6, lit_7, lit_8, lit_9, lit_10, lit_11, lit_12, lit_13, lit_17, lit_20, lit_23, lit_24, lit_43, lit_48, lit_51, lit_57, lit_58, lit_59, lit_60, lit_61, lit_63, lit_77, lit_100, lit_140, lit_168, lit_200, lit_393, lit_400, lit_900, lit_969, lit_1000, lit_1041, lit_1045, lit_1093, lit_1168, lit_1200, lit_3279, lit_3333, lit_4372, lit_9999, nI_leE, nI_add, nI_mul, q1, bI_0]
      rw [if_pos (by omega)]
      cases rsM (updN s (393 + 12 * k + m) (q + 1)) (dcN (updN s (393 + 12 * k + m) (q + 1)) m)
      · rw [if_pos rfl, if_neg (by decide)]
      · rw [if_neg (by decide), if_pos rfl]
    · rw [hr2 i hi]
      by_cases d : i = 393 + 12 * k + m
      · rw [d, updN_s, c]
      · rw [updN_n d, updN_n d]
  · rw [if_pos c]
    refine ⟨X.1, ?_, KpM.rf, hr⟩
    simp (config := {maxSteps := 1000000}) (disch := first | assumption | omega) only [f_X8_reason_86, m_im, g, zb2_s, zif_t, zopt_n, zopt_s, b_s, znm_e, lit_0, lit_1, lit_2, lit_3, lit_4, lit_5, lit_6, lit_7, lit_8, lit_9, lit_10, lit_11, lit_12, lit_13, lit_17, lit_20, lit_23, lit_24, lit_43, lit_48, lit_51, lit_57, lit_58, lit_59, lit_60, lit_61, lit_63, lit_77, lit_100, lit_140, lit_168, lit_200, lit_393, lit_400, lit_900, lit_969, lit_1000, lit_1041, lit_1045, lit_1093, lit_1168, lit_1200, lit_3279, lit_3333, lit_4372, lit_9999, nI_leE]
    rw [if_neg (by omega)]
theorem e8_reason {z : Nat} {X : pX} {s : Nat → Nat} (hr : RoC X.1 s) (hB : RB s) {m k q : Nat} (hm : m < 12) (hk : k < 48) (hq : q < 4) : ∃ V', f_X8_reason (z + 1278) (nI m) (nI k) (nI q) (hp z X) = some (nI (rsnM s m k q), hp z (V', X.2)) ∧ KpM X.1 V' ∧ RoC V' s := by
  obtain ⟨V', t1, t2⟩ := e8_rs86 (z := z) hr hB hm hk hq
  have b0 := hB.1.1
  have bk := hB.2.1 k hk
  have bq := hB.1.2.2.2.2 m hm q (by omega)
  have b4 := hB.1.2.2.2.2 m hm 4 (by omega)
  have g1 := e8_is (z := z) hr hB hk (v := 0) (by omega)
  have g2 := e8_of (z := z) hr hk (w := 2) (by omega)
  have g3 := e8_taken (z := z) hr hB hk hq
  have g4 := e8_of (z := z) hr hk (w := 4 + q) (by omega)
  have g5 := e8_has (z := z) hr hm (w := q) (by omega)
  have g6 := e8_end (z := z) hr hk
  have g7 := e8_isSick (z := z) hr hB hm
  have g8 := e8_has (z := z) hr hm (w := 4) (by omega)
  have e2 : s (9 + 8 * k + 2) = recS s k 2 := rfl
  have e3 : recS s k 3 = s (9 + 8 * k + 2) + s (9 + 8 * k + 3) := rfl
  have e4 := recS_10 (s := s) (k := k) hq
  have b12 := tkM_le hB k q
  rw [← e4] at g4
  have l4 : recS s k (10 + q) < 100 := by
    rcases (show q = 0 ∨ q = 1 ∨ q = 2 ∨ q = 3 by omega) with rfl | rfl | rfl | rfl <;> simp only [recS] <;> omega
  rw [e2] at g2 bk e3
  unfold rsnM
  have U : ∀ {R : Option (Int32 × zHp)}, (if recS s k 5 = 0 ∧ s 0 ≤ recS s k 2 then (if tkM s k q < recS s k (10 + q) then (if recS s k 3 ≤ s (969 + 6 * m + q) then (if s 0 < s (969 + 6 * m + 4) ∧ recS s k 2 < s (969 + 6 * m + 4) then some (nI 4, hp z X) else f_X8_reason_86 (z + 1278) (nI m) (nI k) (nI q) (hp z X)) else some (nI 3, hp z X)) else some (nI 2, hp z X)) else some (nI 1, hp z X)) = R → f_X8_reason (z + 1278) (nI m) (nI k) (nI q) (hp z X) = R := by
    intro R hR
    rw [← hR]
    simp (config := {maxSteps := 1000000}) (disch := first | assumption | omega) only [f_X8_reason, m_im, m_rm0, r_ld hr, g1, g2, g3, g4, g5, g6, g7, g8, zb2_s, zif_t, zopt_n, zopt_s, b_s, znm_e, lit_0, lit_1, lit_2, lit_3, lit_4, lit_5, lit_6, lit_7, lit_8, lit_9, lit_10, lit_11, lit_12, lit_13, lit_17, lit_20, lit_23, lit_24, lit_43, lit_48, lit_51, lit_57, lit_58, lit_59, lit_60, lit_61, lit_63, lit_77, lit_100, lit_140, lit_168, lit_200, lit_393, lit_400, lit_900, lit_969, lit_1000, lit_1041, lit_1045, lit_1093, lit_1168, lit_1200, lit_3279, lit_3333, lit_4372, lit_9999, nI_leE, nI_ltE, bI_0, nI_add]
    by_cases a1 : recS s k 5 = 0
    · rw [if_neg (by simp [a1])]
      by_cases a2 : s 0 ≤ recS s k 2
      · rw [if_pos a2, if_pos (c := recS s k 5 = 0 ∧ s 0 ≤ recS s k 2) ⟨a1, a2⟩]
        by_cases a3 : tkM s k q < recS s k (10 + q)
        · rw [if_pos a3, if_pos a3]
          by_cases a4 : recS s k 3 ≤ s (969 + 6 * m + q)
          · rw [if_pos a4, if_pos a4]
            by_cases a5 : s 0 < s (969 + 6 * m + 4)
            · rw [if_neg (by simp [a5])]
              by_cases a6 : recS s k 2 < s (969 + 6 * m + 4)
              · rw [if_neg (by omega), if_pos ⟨a5, a6⟩]
              · rw [if_pos (by omega), if_neg (fun w => a6 w.2)]
            · rw [if_pos (by simp; omega), if_neg (fun w => a5 w.1)]
          · rw [if_neg a4, if_neg a4]
        · rw [if_neg a3, if_neg a3]
      · rw [if_neg a2, if_neg (fun w => a2 w.2)]
    · rw [if_pos (by simp [a1]), if_neg (fun w => a1 w.1)]
  by_cases a1 : recS s k 5 = 0 ∧ s 0 ≤ recS s k 2
  · rw [if_neg (by omega)]
    by_cases a3 : tkM s k q < recS s k (10 + q)
    · rw [if_neg (by omega)]
      by_cases a4 : recS s k 3 ≤ s (969 + 6 * m + q)
      · rw [if_neg (by omega)]
        by_cases a5 : s 0 < s (969 + 6 * m + 4) ∧ recS s k 2 < s (969 + 6 * m + 4)
        · rw [if_pos a5]
          exact ⟨X.1, U (by rw [if_pos a1, if_pos a3, if_pos a4, if_pos a5]), KpM.rf, hr⟩
        · rw [if_neg a5]
          exact ⟨V', U (by rw [if_pos a1, if_pos a3, if_pos a4, if_neg a5, t1]), t2⟩
      · rw [if_pos (by omega)]
        exact ⟨X.1, U (by rw [if_pos a1, if_pos a3, if_neg a4]), KpM.rf, hr⟩
    · rw [if_pos (by omega)]
      exact ⟨X.1, U (by rw [if_pos a1, if_neg a3]), KpM.rf, hr⟩
  · rw [if_pos (by omega)]
    exact ⟨X.1, U (by rw [if_neg a1]), KpM.rf, hr⟩
/-- a ladder of the row -/
def lsF (s : Nat → Nat) (q : Nat) : Nat → Nat → List Nat
  | _, 0 => []
  | i, n + 1 => s (1045 + 12 * q + i) :: lsF s q (i + 1) n
def lsS (s : Nat → Nat) (q : Nat) : List Nat := lsF s q 0 (s (1041 + q))
def covM (s : Nat → Nat) (ll : List Nat) (k q : Nat) : Option Nat := ll.find? (fun m => decide (rsnM s m k q = 0))
def cvR (s : Nat → Nat) (k q : Nat) (o : Option Nat) : Nat → Nat := match o with
  | none => s
  | some m => updN (updN (updN s (393 + 12 * k + m) (q + 1)) (969 + 6 * m + 5) (s (969 + 6 * m + 5) + 1)) 3 (s 3 + 1)
theorem RB.cvR {s : Nat → Nat} (h : RB s) {m k q : Nat} (hm : m < 12) (hk : k < 48) (hq : q < 4) : RB (cvR s k q (some m)) :=
  ((h.pl hk hm (by omega)).cv (Or.inr ⟨m, hm, rfl⟩)).cv (Or.inl rfl)
theorem rsnM_le (s : Nat → Nat) (m k q : Nat) : rsnM s m k q ≤ 6 := by
  unfold rsnM
  repeat' (first | omega | split)
theorem e8_coverL {z : Nat} {s : Nat → Nat} (hB : RB s) {k q : Nat} (hk : k < 48) (hq : q < 4) : ∀ (n fuel i : Nat) (X : pX), RoC X.1 s → i + n = s (1041 + q) → n < fuel → ∃ V', f_X8_cover_2 fuel (z + 1278) (nI k) (nI q) (nI i) (hp z X) = some (bI (covM s (lsF s q i n) k q).isSome, hp z (V', X.2)) ∧ KpM X.1 V' ∧ RoC V' (cvR s k q (covM s (lsF s q i n) k q)) ∧ ∀ m, covM s (lsF s q i n) k q = some m → m < 12 := by
  intro n
  have bl := hB.2.2.2 q hq
  induction n with
  | zero =>
    intro fuel i X hr h1 h2
    obtain ⟨fuel, rfl⟩ : ∃ f, fuel = f + 1 := ⟨fuel - 1, by omega⟩
    have h1 : i = s (1041 + q) := h1
    refine ⟨X.1, ?_, KpM.rf, hr, fun m h => by cases h⟩
    simp (disch := first | assumption | omega) only [f_X8_cover_2, f_X8_cover_2_body, m_rm0, r_ld hr, zb2_s, zif_t, zopt_n, zopt_s, b_s, znm_e, lit_0, lit_1, lit_2, lit_3, lit_4, lit_5, lit_6, lit_7, lit_8, lit_9, lit_10, lit_11, lit_12, lit_13, lit_17, lit_20, lit_23, lit_24, lit_43, lit_48, lit_51, lit_57, lit_58, lit_59, lit_60, lit_61, lit_63, lit_77, lit_100, lit_140, lit_168, lit_200, lit_393, lit_400, lit_900, lit_969, lit_1000, lit_1041, lit_1045, lit_1093, lit_1168, lit_1200, lit_3279, lit_3333, lit_4372, lit_9999, nI_leE, nI_add, nI_mul]
    rw [if_pos (by omega)]
    rfl
  | succ n ih =>
    intro fuel i X hr h1 h2
    obtain ⟨fuel, rfl⟩ : ∃ f, fuel = f + 1 := ⟨fuel - 1, by omega⟩
    have hm := bl.2 i (by omega)
    obtain ⟨V1, g1, g2, g3⟩ := e8_reason (z := z) hr hB hm hk hq
    have b6 := rsnM_le s (s (1045 + 12 * q + i)) k q
    show ∃ V', _ ∧ _ ∧ RoC V' (cvR s k q (covM s (s (1045 + 12 * q + i) :: lsF s q (i + 1) n) k q)) ∧ ∀ m, covM s (s (1045 + 12 * q + i) :: lsF s q (i + 1) n) k q = some m → m < 12
    by_cases c : rsnM s (s (1045 + 12 * q + i)) k q = 0
    · have e1 : covM s (s (1045 + 12 * q + i) :: lsF s q (i + 1) n) k q = some (s (1045 + 12 * q + i)) := by unfold covM; rw [List.find?_cons_of_pos (by simp [c])]
      have e1' : covM s (lsF s q i (n + 1)) k q = some (s (1045 + 12 * q + i)) := e1
      rw [e1, e1']
      generalize hmm : s (1045 + 12 * q + i) = m at *
      have hr2 := g3.st (393 + 12 * k + m) (q + 1)
      have hr3 := hr2.st (969 + 6 * m + 5) (s (969 + 6 * m + 5) + 1)
      have hr4 := hr3.st 3 (s 3 + 1)
      have p1 := fun v => e8_setPl (z := z) (X := (V1, X.2)) hk hm v
      have p2 := e8_has (z := z) (X := (sV V1 1279 (upd (V1 1279) (393 + 12 * k + m) (nI (q + 1))), X.2)) hr2 hm (w := 5) (by omega)
      rw [updN_n (by omega)] at p2
      have p3 := fun v => e8_note (z := z) (X := (sV V1 1279 (upd (V1 1279) (393 + 12 * k + m) (nI (q + 1))), X.2)) hm (w := 5) (by omega) v
      have p4 := r_ld (z := z) (X := (sV (sV V1 1279 (upd (V1 1279) (393 + 12 * k + m) (nI (q + 1)))) 1279 (upd ((sV V1 1279 (upd (V1 1279) (393 + 12 * k + m) (nI (q + 1)))) 1279) (969 + 6 * m + 5) (nI (s (969 + 6 * m + 5) + 1))), X.2)) hr3 (i := 3) (by omega)
      rw [updN_n (by omega), updN_n (by omega)] at p4
      rw [c] at g1
      refine ⟨_, ?_, ?_, hr4, fun m' h => by cases h; exact hm⟩
      · simp (config := {maxSteps := 1000000}) (disch := first | assumption | omega) only [f_X8_cover_2, f_X8_cover_2_body, m_rm0, m_im, r_ld hr, hmm, g1, zb2_s, zif_t, zopt_n, zopt_s, b_s, znm_e, lit_0, lit_1, lit_2, lit_3, lit_4, lit_5, lit_6, lit_7, lit_8, lit_9, lit_10, lit_11, lit_12, lit_13, lit_17, lit_20, lit_23, lit_24, lit_43, lit_48, lit_51, lit_57, lit_58, lit_59, lit_60, lit_61, lit_63, lit_77, lit_100, lit_140, lit_168, lit_200, lit_393, lit_400, lit_900, lit_969, lit_1000, lit_1041, lit_1045, lit_1093, lit_1168, lit_1200, lit_3279, lit_3333, lit_4372, lit_9999, nI_leE, nI_add, nI_mul, p1, p2, p3, p4, m_st1279]
        rw [if_neg (by omega)]
        rfl
      · exact (((g2.tr KpM.up).tr KpM.up).tr KpM.up)
    · have e1 : covM s (s (1045 + 12 * q + i) :: lsF s q (i + 1) n) k q = covM s (lsF s q (i + 1) n) k q := by unfold covM; rw [List.find?_cons_of_neg (by simp [c])]
      have e1' : covM s (lsF s q i (n + 1)) k q = covM s (lsF s q (i + 1) n) k q := e1
      rw [e1, e1']
      obtain ⟨V', q1, q2, q3, q4⟩ := ih fuel (i + 1) (V1, X.2) g3 (by omega) (by omega)
      refine ⟨V', ?_, g2.tr q2, q3, q4⟩
      simp (config := {maxSteps := 1000000}) (disch := first | assumption | omega) only [f_X8_cover_2, f_X8_cover_2_body, m_rm0, m_im, r_ld hr, g1, zb2_s, zif_t, zopt_n, zopt_s, b_s, znm_e, lit_0, lit_1, lit_2, lit_3, lit_4, lit_5, lit_6, lit_7, lit_8, lit_9, lit_10, lit_11, lit_12, lit_13, lit_17, lit_20, lit_23, lit_24, lit_43, lit_48, lit_51, lit_57, lit_58, lit_59, lit_60, lit_61, lit_63, lit_77, lit_100, lit_140, lit_168, lit_200, lit_393, lit_400, lit_900, lit_969, lit_1000, lit_1041, lit_1045, lit_1093, lit_1168, lit_1200, lit_3279, lit_3333, lit_4372, lit_9999, nI_leE, nI_eqE, nI_add, nI_mul, q1]
      rw [if_neg (by omega), if_neg c]
theorem e8_cover {z : Nat} {X : pX} {s : Nat → Nat} (hr : RoC X.1 s) (hB : RB s) {k q : Nat} (hk : k < 48) (hq : q < 4) : ∃ V', f_X8_cover (z + 1278) (nI k) (nI q) (hp z X) = some (bI (covM s (lsS s q) k q).isSome, hp z (V', X.2)) ∧ KpM X.1 V' ∧ RoC V' (cvR s k q (covM s (lsS s q) k q)) ∧ RB (cvR s k q (covM s (lsS s q) k q)) := by
  obtain ⟨V', g1, g2, g3, g4⟩ := e8_coverL (z := z) hB hk hq (s (1041 + q)) zN 0 X hr (by omega) (zN_lt (by have := (hB.2.2.2 q hq).1; omega))
  refine ⟨V', by simp only [f_X8_cover, lit_0, lit_1, lit_2, lit_3, lit_4, lit_5, lit_6, lit_7, lit_8, lit_9, lit_10, lit_11, lit_12, lit_13, lit_17, lit_20, lit_23, lit_24, lit_43, lit_48, lit_51, lit_57, lit_58, lit_59, lit_60, lit_61, lit_63, lit_77, lit_100, lit_140, lit_168, lit_200, lit_393, lit_400, lit_900, lit_969, lit_1000, lit_1041, lit_1045, lit_1093, lit_1168, lit_1200, lit_3279, lit_3333, lit_4372, lit_9999, g1]; rfl, g2, g3, ?_⟩
  show RB (cvR s k q (covM s (lsF s q 0 (s (1041 + q))) k q))
  cases h : covM s (lsF s q 0 (s (1041 + q))) k q with
  | none => exact hB
  | some m => exact hB.cvR (g4 m h) hk hq
