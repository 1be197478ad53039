/-! p38: the law's walk through the sailings -/
theorem sl_276 {z : Nat} {s σ : Nat → Nat} {H : List sS} {K : Option sS} {T : List Int32} {r6 : Nat → Int32 → Int32 → Int32 → zHp → Option (Int32 × zHp)} (hP : PS s σ) {k : Nat} (hk : k < s 1) (hr : ∀ X, Bc X (s, σ) H K T → En (r6 z (nI (frK s (k + 1))) (nI (tkK s (k + 1))) (nI (k + 1)) (hp z X)) z X (nI 1)) {X : pX} (hb : Bc X (s, σ) H K T) : En (f_L_sailings_276 r6 z (nI (frK s k)) (nI (tkK s k)) (nI k) (nI (recS s k 5)) (nI (ned (recS s k))) (nI (tkO s k)) (hp z X)) z X (nI 1) := by
  have n48 := hP.W.n48
  have hfo := hP.fo k hk
  have st2 : recS s k 5 ≤ 2 := (hP.B.2.1 k (by omega)).1
  have g := hr X hb
  rw [frK_s, tkK_s] at g
  by_cases c : recS s k 5 = 0
  · have ec : nI (recS s k 5) = nI 0 := by rw [c]
    rw [if_pos c, if_pos c] at g
    refine g.cg ?_
    simp only [f_L_sailings_276, f_L_sailings_291, f_L_sailings_305, lit_0, lit_1, lit_2, lit_3, lit_4, lit_5, lit_6, lit_7, lit_8, lit_9, lit_10, lit_11, lit_12, lit_13, lit_14, lit_15, lit_16, lit_17, lit_18, lit_20, lit_24, lit_26, lit_30, lit_40, lit_45, lit_46, lit_47, lit_48, lit_60, lit_63, lit_64, lit_77, lit_100, lit_140, lit_168, lit_200, lit_300, lit_400, lit_900, lit_1000, lit_1168, lit_1997, lit_3333, lit_9999, lit_10000, if_pos ec, nI_sub hfo, nI_add]
    rfl
  · have ec : ¬ nI (recS s k 5) = nI 0 := fun e => c ((nI_eq (by omega) (by omega)).mp e)
    rw [if_neg c, if_neg c] at g
    refine g.cg ?_
    simp only [f_L_sailings_276, f_L_sailings_291, f_L_sailings_305, lit_0, lit_1, lit_2, lit_3, lit_4, lit_5, lit_6, lit_7, lit_8, lit_9, lit_10, lit_11, lit_12, lit_13, lit_14, lit_15, lit_16, lit_17, lit_18, lit_20, lit_24, lit_26, lit_30, lit_40, lit_45, lit_46, lit_47, lit_48, lit_60, lit_63, lit_64, lit_77, lit_100, lit_140, lit_168, lit_200, lit_300, lit_400, lit_900, lit_1000, lit_1168, lit_1997, lit_3333, lit_9999, lit_10000, if_neg ec, nI_add]
theorem sl_244 {z : Nat} {s σ : Nat → Nat} {H : List sS} {K : Option sS} {T : List Int32} {r6 : Nat → Int32 → Int32 → Int32 → zHp → Option (Int32 × zHp)} (hP : PS s σ) {k : Nat} (hk : k < s 1) (hr : ∀ X, Bc X (s, σ) H K T → En (r6 z (nI (frK s (k + 1))) (nI (tkK s (k + 1))) (nI (k + 1)) (hp z X)) z X (nI 1)) {X : pX} (hb : Bc X (s, σ) H K T) : En (f_L_sailings_244 r6 z (nI (frK s k)) (nI (tkK s k)) (nI k) (nI (recS s k 5)) (nI (ned (recS s k))) (nI (tkO s k)) (hp z X)) z X (nI 1) := by
  have n48 := hP.W.n48
  have hk48 : k < 48 := by omega
  have st2 : recS s k 5 ≤ 2 := (hP.B.2.1 k hk48).1
  have b0 := hP.B.1.1
  have be : recS s k 2 ≤ 900 := (hP.B.2.1 k hk48).2.2.1
  rcases (show recS s k 5 = 0 ∨ recS s k 5 = 1 ∨ recS s k 5 = 2 by omega) with c | c | c
  · have e2 : ¬ nI (recS s k 5) = nI 2 := by rw [c]; decide
    have e0 : nI (recS s k 5) = nI 0 := by rw [c]
    simp only [f_L_sailings_244, f_L_sailings_255, lit_0, lit_1, lit_2, lit_3, lit_4, lit_5, lit_6, lit_7, lit_8, lit_9, lit_10, lit_11, lit_12, lit_13, lit_14, lit_15, lit_16, lit_17, lit_18, lit_20, lit_24, lit_26, lit_30, lit_40, lit_45, lit_46, lit_47, lit_48, lit_60, lit_63, lit_64, lit_77, lit_100, lit_140, lit_168, lit_200, lit_300, lit_400, lit_900, lit_1000, lit_1168, lit_1997, lit_3333, lit_9999, lit_10000, if_neg e2, if_pos e0]
    refine En.st hb (qn_sail hP hb hk (w := 2) (by omega)) (fun V1 hb1 => ?_)
    refine En.st hb1 (qn_count hP hb1 (k := 0) (by omega)) (fun V2 hb2 => ?_)
    have le : nI (cntV s 0) ≤ nI (slV s k 2) := nI_le ((hP.W.2.2.1 k hk).2 c) (by show recS s k 2 < _; omega)
    rw [if_pos le]
    exact sl_276 hP hk hr hb2
  · have e2 : ¬ nI (recS s k 5) = nI 2 := by rw [c]; decide
    have e0 : ¬ nI (recS s k 5) = nI 0 := by rw [c]; decide
    simp only [f_L_sailings_244, f_L_sailings_255, lit_0, lit_1, lit_2, lit_3, lit_4, lit_5, lit_6, lit_7, lit_8, lit_9, lit_10, lit_11, lit_12, lit_13, lit_14, lit_15, lit_16, lit_17, lit_18, lit_20, lit_24, lit_26, lit_30, lit_40, lit_45, lit_46, lit_47, lit_48, lit_60, lit_63, lit_64, lit_77, lit_100, lit_140, lit_168, lit_200, lit_300, lit_400, lit_900, lit_1000, lit_1168, lit_1997, lit_3333, lit_9999, lit_10000, if_neg e2, if_neg e0]
    exact sl_276 hP hk hr hb
  · have e2 : nI (recS s k 5) = nI 2 := by rw [c]
    have e0 : ¬ nI (recS s k 5) = nI 0 := by rw [c]; decide
    have t0 : tkO s k = 0 := by
      rw [← tkU_O hP.W hk48]
      exact cA_all0 _ _ (fun m _ hm => by rw [hP.W.2.1 k m hk48 (by omega) (Or.inr (Or.inr c))]; rfl)
    have e3 : nI (tkO s k) = nI 0 := by rw [t0]
    simp only [f_L_sailings_244, f_L_sailings_255, lit_0, lit_1, lit_2, lit_3, lit_4, lit_5, lit_6, lit_7, lit_8, lit_9, lit_10, lit_11, lit_12, lit_13, lit_14, lit_15, lit_16, lit_17, lit_18, lit_20, lit_24, lit_26, lit_30, lit_40, lit_45, lit_46, lit_47, lit_48, lit_60, lit_63, lit_64, lit_77, lit_100, lit_140, lit_168, lit_200, lit_300, lit_400, lit_900, lit_1000, lit_1168, lit_1997, lit_3333, lit_9999, lit_10000, if_pos e2, if_neg e0, if_pos e3]
    exact sl_276 hP hk hr hb
theorem sl_169 {z : Nat} {s σ : Nat → Nat} {H : List sS} {K : Option sS} {T : List Int32} {r6 : Nat → Int32 → Int32 → Int32 → zHp → Option (Int32 × zHp)} {r34 : Nat → Int32 → Int32 → Int32 → Int32 → Int32 → Int32 → zHp → Option (Int32 × zHp)} (hP : PS s σ) {k R i : Nat} (hk : k < s 1) (hR : R < 100) (hi : crN s k R = some i) (hr : ∀ X, Bc X (s, σ) H K T → En (r34 z (nI (frK s k)) (nI (tkK s k)) (nI k) (nI (recS s k 5)) (nI (ned (recS s k))) (nI (R + 1)) (hp z X)) z X (nI 1)) {X : pX} (hb : Bc X (s, σ) H K T) : En (f_L_sailings_169 r6 r34 z (nI (frK s k)) (nI (tkK s k)) (nI k) (nI (recS s k 5)) (nI (ned (recS s k))) (nI R) (hp z X)) z X (nI 1) := by
  have n48 := hP.W.n48
  have hk48 : k < 48 := by omega
  have be : recS s k 2 ≤ 900 := (hP.B.2.1 k hk48).2.2.1
  have bl := bgN_le (s := s) (m := i % 12) (k := k)
  have nn : nI 0 ≤ nI (bgN s (i % 12) k) := nn0 (by omega)
  have sl2 : slV s k 2 = recS s k 2 := rfl
  simp only [f_L_sailings_169, f_L_sailings_203, lit_0, lit_1, lit_2, lit_3, lit_4, lit_5, lit_6, lit_7, lit_8, lit_9, lit_10, lit_11, lit_12, lit_13, lit_14, lit_15, lit_16, lit_17, lit_18, lit_20, lit_24, lit_26, lit_30, lit_40, lit_45, lit_46, lit_47, lit_48, lit_60, lit_63, lit_64, lit_77, lit_100, lit_140, lit_168, lit_200, lit_300, lit_400, lit_900, lit_1000, lit_1168, lit_1997, lit_3333, lit_9999, lit_10000]
  refine En.st hb (qn_crew hP hb hk (by omega) hi).2.2.2 (fun V1 hb1 => ?_)
  refine En.st hb1 (qn_sail hP hb1 hk (w := 2) (by omega)) (fun V2 hb2 => ?_)
  by_cases c : bgN s (i % 12) k = recS s k 2
  · have e : nI (bgN s (i % 12) k) = nI (slV s k 2) := by rw [c]; rfl
    rw [if_pos e, if_pos nn, nI_add]
    exact hr _ hb2
  · have e : ¬ nI (bgN s (i % 12) k) = nI (slV s k 2) := fun e => c ((nI_eq (by omega) (by omega)).mp e)
    rw [if_neg e]
    refine En.st hb2 (qn_sail hP hb2 hk (w := 2) (by omega)) (fun V3 hb3 => ?_)
    have c2 : bgN s (i % 12) k = recS s k 2 - 1 ∧ 1 ≤ recS s k 2 := by
      unfold bgN at c ⊢
      split at c
      · exact absurd rfl c
      · rename_i w
        rw [if_neg w]
        exact ⟨rfl, by
          rcases Nat.eq_zero_or_pos (recS s k 2) with x | x
          · exact absurd (Or.inr (Or.inl x)) w
          · exact x⟩
    have e2 : nI (bgN s (i % 12) k) = nI (slV s k 2) - nI 1 := by rw [nI_sub (by omega), c2.1]; rfl
    rw [if_pos e2, if_pos nn, nI_add]
    exact hr _ hb3
theorem sl_117 {z : Nat} {s σ : Nat → Nat} {H : List sS} {K : Option sS} {T : List Int32} {r6 : Nat → Int32 → Int32 → Int32 → zHp → Option (Int32 × zHp)} {r34 : Nat → Int32 → Int32 → Int32 → Int32 → Int32 → Int32 → zHp → Option (Int32 × zHp)} (hI : Iv (s, σ)) {k R i : Nat} (hk : k < s 1) (hR : R < 100) (hi : crN s k R = some i) (hr : ∀ X, Bc X (s, σ) H K T → En (r34 z (nI (frK s k)) (nI (tkK s k)) (nI k) (nI (recS s k 5)) (nI (ned (recS s k))) (nI (R + 1)) (hp z X)) z X (nI 1)) {X : pX} (hb : Bc X (s, σ) H K T) : En (f_L_sailings_117 r6 r34 z (nI (frK s k)) (nI (tkK s k)) (nI k) (nI (recS s k 5)) (nI (ned (recS s k))) (nI R) (nI (i % 12)) (nI (i / 12)) (hp z X)) z X (nI 1) := by
  have hP : PS s σ := hI.1
  have n48 := hP.W.n48
  have hk48 : k < 48 := by omega
  have st2 : recS s k 5 ≤ 2 := (hP.B.2.1 k hk48).1
  obtain ⟨i48, f1, f2⟩ := (qn_crew (z := z) hP hb hk (by omega) hi).1
  have hm12 : i % 12 < 12 := by omega
  have hq : i / 12 < 4 := by omega
  by_cases c : recS s k 5 = 0
  · have ec : nI (recS s k 5) = nI 0 := by rw [c]
    obtain ⟨v1, v2⟩ := hI.2.1 k (i % 12) (i / 12) hk hm12 hq c f1
    have be : recS s k 2 ≤ 900 := (hP.B.2.1 k hk48).2.2.1
    have bc := hP.B.1.2.2.2.2 (i % 12) hm12 (i / 12) (by omega)
    have rz : rsnM s (i % 12) k (i / 12) ≠ 0 := fun e => by
      have := (rsnM_0 e).2.2.2.2.2.1
      omega
    have r6l := rsnM_le s (i % 12) k (i / 12)
    simp only [f_L_sailings_117, lit_0, lit_1, lit_2, lit_3, lit_4, lit_5, lit_6, lit_7, lit_8, lit_9, lit_10, lit_11, lit_12, lit_13, lit_14, lit_15, lit_16, lit_17, lit_18, lit_20, lit_24, lit_26, lit_30, lit_40, lit_45, lit_46, lit_47, lit_48, lit_60, lit_63, lit_64, lit_77, lit_100, lit_140, lit_168, lit_200, lit_300, lit_400, lit_900, lit_1000, lit_1168, lit_1997, lit_3333, lit_9999, lit_10000, if_pos ec]
    refine En.st hb (qn_cert hP hb f2 hq) (fun V1 hb1 => ?_)
    refine En.st hb1 (qn_sail hP hb1 hk (w := 3) (by omega)) (fun V2 hb2 => ?_)
    rw [if_neg (no_lt (show slV s k 3 ≤ s (969 + 6 * (i % 12) + i / 12) from v1) (by omega))]
    refine En.st hb2 (qn_sick hP hb2 f2) (fun V3 hb3 => ?_)
    refine En.st hb3 (qn_sail hP hb3 hk (w := 2) (by omega)) (fun V4 hb4 => ?_)
    have ns : ¬ nI (slV s k 2) < skV s (i % 12) := by
      unfold skV
      split
      · exact no_lt v2 (by show recS s k 2 < _; omega)
      · exact neg_lt (by show recS s k 2 < _; omega) (by omega) (by omega)
    rw [if_neg ns]
    refine En.st hb4 (qn_why hP hb4 f2 hk hq) (fun V5 hb5 => ?_)
    have nz : ¬ nI (rsnM s (i % 12) k (i / 12)) = nI 0 := fun e => rz ((nI_eq (by omega) (by omega)).mp e)
    rw [if_neg nz]
    exact sl_169 hP hk hR hi hr hb5
  · have ec : ¬ nI (recS s k 5) = nI 0 := fun e => c ((nI_eq (by omega) (by omega)).mp e)
    simp only [f_L_sailings_117, lit_0, lit_1, lit_2, lit_3, lit_4, lit_5, lit_6, lit_7, lit_8, lit_9, lit_10, lit_11, lit_12, lit_13, lit_14, lit_15, lit_16, lit_17, lit_18, lit_20, lit_24, lit_26, lit_30, lit_40, lit_45, lit_46, lit_47, lit_48, lit_60, lit_63, lit_64, lit_77, lit_100, lit_140, lit_168, lit_200, lit_300, lit_400, lit_900, lit_1000, lit_1168, lit_1997, lit_3333, lit_9999, lit_10000, if_neg ec]
    exact sl_169 hP hk hR hi hr hb
theorem sl_34 {z : Nat} {s σ : Nat → Nat} {H : List sS} {K : Option sS} {T : List Int32} {r6 : Nat → Int32 → Int32 → Int32 → zHp → Option (Int32 × zHp)} (hI : Iv (s, σ)) {k : Nat} (hk : k < s 1) (hr : ∀ X, Bc X (s, σ) H K T → En (r6 z (nI (frK s (k + 1))) (nI (tkK s (k + 1))) (nI (k + 1)) (hp z X)) z X (nI 1)) : ∀ (n fuel R : Nat) (X : pX), R + n = tkO s k → n < fuel → Bc X (s, σ) H K T → En (f_L_sailings_34 r6 fuel z (nI (frK s k)) (nI (tkK s k)) (nI k) (nI (recS s k 5)) (nI (ned (recS s k))) (nI R) (hp z X)) z X (nI 1) := by
  have hP : PS s σ := hI.1
  have n48 := hP.W.n48
  have hk48 : k < 48 := by omega
  have st2 : recS s k 5 ≤ 2 := (hP.B.2.1 k hk48).1
  have hfo := hP.fo k hk
  have nl := ned_le hP.B hk48
  have eO := tkU_O hP.W hk48
  intro n
  induction n with
  | zero =>
    intro fuel R X h1 h2 hb
    obtain ⟨fuel, rfl⟩ : ∃ f, fuel = f + 1 := ⟨fuel - 1, by omega⟩
    have h1 : R = tkO s k := h1
    subst h1
    simp only [f_L_sailings_34, f_L_sailings_34_body, lit_0, lit_1, lit_2, lit_3, lit_4, lit_5, lit_6, lit_7, lit_8, lit_9, lit_10, lit_11, lit_12, lit_13, lit_14, lit_15, lit_16, lit_17, lit_18, lit_20, lit_24, lit_26, lit_30, lit_40, lit_45, lit_46, lit_47, lit_48, lit_60, lit_63, lit_64, lit_77, lit_100, lit_140, lit_168, lit_200, lit_300, lit_400, lit_900, lit_1000, lit_1168, lit_1997, lit_3333, lit_9999, lit_10000]
    refine En.st hb (qn_crew0 hP hb hk (by omega) (by omega) (cr_none hP.B hk48 (by omega))) (fun V1 hb1 => ?_)
    rw [if_pos (show -nI 5 < nI 0 by decide)]
    refine En.st hb1 (qn_sail hP hb1 hk (w := 6) (by omega)) (fun V2 hb2 => ?_)
    have e6 : nI (slV s k 6) = nI (ned (recS s k)) - nI (tkO s k) := by rw [nI_sub hfo]; rfl
    rw [if_pos e6]
    by_cases c : recS s k 5 = 1
    · have ec : nI (recS s k 5) = nI 1 := by rw [c]
      have en : nI (tkO s k) = nI (ned (recS s k)) := by rw [← eO, hI.2.2 k hk c]
      rw [if_pos ec, if_pos en]
      exact sl_244 hP hk hr hb2
    · have ec : ¬ nI (recS s k 5) = nI 1 := fun e => c ((nI_eq (by omega) (by omega)).mp e)
      rw [if_neg ec]
      exact sl_244 hP hk hr hb2
  | succ n ih =>
    intro fuel R X h1 h2 hb
    obtain ⟨fuel, rfl⟩ : ∃ f, fuel = f + 1 := ⟨fuel - 1, by omega⟩
    obtain ⟨i, hi⟩ := cr_some hP.B hk48 (R := R) (by omega)
    have hr34 : ∀ X, Bc X (s, σ) H K T → En (f_L_sailings_34 r6 fuel z (nI (frK s k)) (nI (tkK s k)) (nI k) (nI (recS s k 5)) (nI (ned (recS s k))) (nI (R + 1)) (hp z X)) z X (nI 1) := fun X hb => ih fuel (R + 1) X (by omega) (by omega) hb
    obtain ⟨i48, f1, f2⟩ := (qn_crew (z := z) hP hb hk (by omega) hi).1
    simp only [f_L_sailings_34, f_L_sailings_34_body, lit_0, lit_1, lit_2, lit_3, lit_4, lit_5, lit_6, lit_7, lit_8, lit_9, lit_10, lit_11, lit_12, lit_13, lit_14, lit_15, lit_16, lit_17, lit_18, lit_20, lit_24, lit_26, lit_30, lit_40, lit_45, lit_46, lit_47, lit_48, lit_60, lit_63, lit_64, lit_77, lit_100, lit_140, lit_168, lit_200, lit_300, lit_400, lit_900, lit_1000, lit_1168, lit_1997, lit_3333, lit_9999, lit_10000]
    refine En.st hb (qn_crew hP hb hk (by omega) hi).2.1 (fun V1 hb1 => ?_)
    rw [if_neg (no_lt (Nat.zero_le _) (by omega))]
    refine En.st hb1 (qn_crew hP hb1 hk (by omega) hi).2.1 (fun V2 hb2 => ?_)
    refine En.st hb2 (qn_crew hP hb2 hk (by omega) hi).2.2.1 (fun V3 hb3 => ?_)
    cases R with
    | zero =>
      rw [if_pos (nI_le (Nat.le_refl _) (by omega))]
      exact sl_117 hI hk (by omega) hi hr34 hb3
    | succ R =>
      obtain ⟨j, hj⟩ := cr_some hP.B hk48 (R := R) (by omega)
      have lt : j < i := nA_nx 48 0 R j i hj hi
      rw [if_neg (no_le (Nat.succ_pos R) (by omega))]
      simp only [nI_pred']
      refine En.st hb3 (qn_crew hP hb3 hk (by omega) hj).2.2.1 (fun V4 hb4 => ?_)
      rw [if_neg (no_lt (show j / 12 ≤ i / 12 from Nat.div_le_div_right (by omega)) (by omega))]
      refine En.st hb4 (qn_crew hP hb4 hk (by omega) hj).2.2.1 (fun V5 hb5 => ?_)
      by_cases c : j / 12 = i / 12
      · have ec : nI (j / 12) = nI (i / 12) := by rw [c]
        rw [if_pos ec]
        refine En.st hb5 (qn_crew hP hb5 hk (by omega) hj).2.1 (fun V6 hb6 => ?_)
        rw [if_pos (nI_lt (show j % 12 < i % 12 by omega) (by omega))]
        exact sl_117 hI hk (by omega) hi hr34 hb6
      · have ec : ¬ nI (j / 12) = nI (i / 12) := fun e => c ((nI_eq (by omega) (by omega)).mp e)
        rw [if_neg ec]
        exact sl_117 hI hk (by omega) hi hr34 hb5
theorem sl_6 {z : Nat} {s σ : Nat → Nat} {H : List sS} {K : Option sS} {T : List Int32} (hI : Iv (s, σ)) : ∀ (n fuel k : Nat) (X : pX), k + n = s 1 → n < fuel → Bc X (s, σ) H K T → En (f_L_sailings_6 fuel z (nI (frK s k)) (nI (tkK s k)) (nI k) (hp z X)) z X (nI 1) := by
  have hP : PS s σ := hI.1
  have n48 := hP.W.n48
  intro n
  induction n with
  | zero =>
    intro fuel k X h1 h2 hb
    obtain ⟨fuel, rfl⟩ : ∃ f, fuel = f + 1 := ⟨fuel - 1, by omega⟩
    have h1 : k = s 1 := h1
    subst h1
    have bf := frK_le hP.B (s 1) n48
    have bt := tkK_le hP.B (s 1) n48
    simp only [f_L_sailings_6, f_L_sailings_6_body, f_L_sailings_362, lit_0, lit_1, lit_2, lit_3, lit_4, lit_5, lit_6, lit_7, lit_8, lit_9, lit_10, lit_11, lit_12, lit_13, lit_14, lit_15, lit_16, lit_17, lit_18, lit_20, lit_24, lit_26, lit_30, lit_40, lit_45, lit_46, lit_47, lit_48, lit_60, lit_63, lit_64, lit_77, lit_100, lit_140, lit_168, lit_200, lit_300, lit_400, lit_900, lit_1000, lit_1168, lit_1997, lit_3333, lit_9999, lit_10000]
    refine En.st hb (qn_count hP hb (k := 1) (by omega)) (fun V1 hb1 => ?_)
    rw [if_pos (show nI (cntV s 1) ≤ nI (s 1) from nI_le (Nat.le_refl _) (by omega))]
    refine En.st hb1 (qn_count hP hb1 (k := 7) (by omega)) (fun V2 hb2 => ?_)
    rw [if_pos (show nI (frK s (s 1)) = nI (cntV s 7) from rfl)]
    refine En.st hb2 (qn_count hP hb2 (k := 8) (by omega)) (fun V3 hb3 => ?_)
    rw [if_pos (show nI (tkK s (s 1)) = nI (cntV s 8) from rfl)]
    refine En.st hb3 (qn_count hP hb3 (k := 2) (by omega)) (fun V4 hb4 => ?_)
    refine En.st hb4 (qn_count hP hb4 (k := 3) (by omega)) (fun V5 hb5 => ?_)
    refine En.st hb5 (qn_count hP hb5 (k := 4) (by omega)) (fun V6 hb6 => ?_)
    refine En.st hb6 (qn_count hP hb6 (k := 1) (by omega)) (fun V7 hb7 => ?_)
    have e : nI (cntV s 2) + nI (cntV s 3) + nI (cntV s 4) = nI (cntV s 1) := by
      rw [nI_add, nI_add]
      exact congrArg nI (st_cnt (f := fun k => recS s k 5) (s 1) 0 (fun i _ hi => (hP.B.2.1 i (by omega)).1))
    rw [if_pos e]
    exact En.fin hb7
  | succ n ih =>
    intro fuel k X h1 h2 hb
    obtain ⟨fuel, rfl⟩ : ∃ f, fuel = f + 1 := ⟨fuel - 1, by omega⟩
    have hk : k < s 1 := by omega
    simp only [f_L_sailings_6, f_L_sailings_6_body, lit_0, lit_1, lit_2, lit_3, lit_4, lit_5, lit_6, lit_7, lit_8, lit_9, lit_10, lit_11, lit_12, lit_13, lit_14, lit_15, lit_16, lit_17, lit_18, lit_20, lit_24, lit_26, lit_30, lit_40, lit_45, lit_46, lit_47, lit_48, lit_60, lit_63, lit_64, lit_77, lit_100, lit_140, lit_168, lit_200, lit_300, lit_400, lit_900, lit_1000, lit_1168, lit_1997, lit_3333, lit_9999, lit_10000]
    refine En.st hb (qn_count hP hb (k := 1) (by omega)) (fun V1 hb1 => ?_)
    rw [if_neg (show ¬ nI (cntV s 1) ≤ nI k from no_le hk (by show s 1 < _; omega))]
    refine En.st hb1 (qn_sail hP hb1 hk (w := 0) (by omega)) (fun V2 hb2 => ?_)
    refine En.st hb2 (qn_sail hP hb2 hk (w := 5) (by omega)) (fun V3 hb3 => ?_)
    have tl := tkO_le hP.B k
    exact sl_34 hI hk (fun X hb => ih fuel (k + 1) X (by omega) (by omega) hb) (tkO s k) zN 0 _ (Nat.zero_add _) (zN_lt (by omega)) hb3
theorem e_sailings {z : Nat} {X : pX} {s σ : Nat → Nat} {H : List sS} {K : Option sS} {T : List Int32} (hI : Iv (s, σ)) (hb : Bc X (s, σ) H K T) : En (f_L_sailings z (hp z X)) z X (nI 1) := by
  have n48 : s 1 ≤ 48 := PS.W (s := s) (σ := σ) hI.1 |>.n48
  simp only [f_L_sailings, lit_0, lit_1, lit_2, lit_3, lit_4, lit_5, lit_6, lit_7, lit_8, lit_9, lit_10, lit_11, lit_12, lit_13, lit_14, lit_15, lit_16, lit_17, lit_18, lit_20, lit_24, lit_26, lit_30, lit_40, lit_45, lit_46, lit_47, lit_48, lit_60, lit_63, lit_64, lit_77, lit_100, lit_140, lit_168, lit_200, lit_300, lit_400, lit_900, lit_1000, lit_1168, lit_1997, lit_3333, lit_9999, lit_10000]
  exact sl_6 hI (s 1) zN 0 X (Nat.zero_add _) (zN_lt (by omega)) hb
