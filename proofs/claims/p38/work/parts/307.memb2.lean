/-! p38: the law's walk through the members -/
theorem sA_app {f : Nat → Nat} : ∀ (n m k : Nat), sA f k (n + m) = sA f k n + sA f (k + n) m
  | 0, m, k => by rw [Nat.zero_add, sA_0, Nat.zero_add, Nat.add_zero]
  | n + 1, m, k => by
    rw [show n + 1 + m = (n + m) + 1 by omega, sA_s, sA_s, sA_app n m (k + 1), show k + 1 + n = k + (n + 1) by omega, Nat.add_assoc]
theorem du_fr {D : Nat → Nat} (h : ∀ t, D t ≤ 1) : ∀ (n k : Nat), sA D k n + cA (fD D) k n = n
  | 0, _ => rfl
  | n + 1, k => by
    have ih := du_fr h n (k + 1)
    have h0 := h k
    show D k + sA D (k + 1) n + ((fD D k).toNat + cA (fD D) (k + 1) n) = n + 1
    unfold fD at ih ⊢
    rcases (show D k = 0 ∨ D k = 1 by omega) with e | e <;> simp [e] <;> omega
theorem lrB_le (f : Nat → Bool) : ∀ (n k l b N : Nat), b ≤ N → k + n ≤ N + 1 → lrB f k n l b ≤ N
  | 0, _, _, _, _, h, _ => h
  | n + 1, k, l, b, N, h, h2 => lrB_le f n (k + 1) _ _ N (by split <;> omega) (by omega)
/-- what the members hold together, up to one -/
def skK (s : Nat → Nat) (m : Nat) : Nat := cA (fun m => decide (s 0 < s (969 + 6 * m + 4))) 0 m
def cvK (s : Nat → Nat) (m : Nat) : Nat := sA (fun m => s (969 + 6 * m + 5)) 0 m
def ovK (s : Nat → Nat) (m : Nat) : Nat := sA (fun m => sA (hbM s m) 0 6) 0 m
def MbR (r9 : Nat → Int32 → Int32 → Int32 → Int32 → zHp → Option (Int32 × zHp)) (z : Nat) (s σ : Nat → Nat) (H : List sS) (K : Option sS) (T : List Int32) (m : Nat) : Prop := ∀ X, Bc X (s, σ) H K T → En (r9 z (nI (skK s m)) (nI (cvK s m)) (nI (ovK s m)) (nI m) (hp z X)) z X (nI 1)
theorem cv_sum {s σ : Nat → Nat} (hP : PS s σ) : cvK s (s 2) = s 3 := by
  rw [hP.1.2.2.1.2]
  exact (sA_part hP.W.m12 (fun m h1 h2 => (hP.1.2.2.1.1 m h1 h2).2)).symm
theorem nx_none {s : Nat → Nat} {m : Nat} : (nxN s m = none ∧ cA (fun k => decide (recS s k 5 = 0 ∧ recS s k (20 + m) ≠ 0)) 0 (s 1) = 0) ∨ ∃ j, nxN s m = some j ∧ j < s 1 ∧ recS s j 5 = 0 ∧ 1 ≤ cA (fun k => decide (recS s k 5 = 0 ∧ recS s k (20 + m) ≠ 0)) 0 (s 1) := by
  have h := bsF_ok (st := fun k => recS s k 2) (q := fun k => decide (recS s k 5 = 0 ∧ recS s k (20 + m) ≠ 0)) (s 1) 0 none (fun i hi => by omega)
  rw [Nat.zero_add] at h
  unfold nxN
  cases e : bsF (fun k => recS s k 2) (fun k => decide (recS s k 5 = 0 ∧ recS s k (20 + m) ≠ 0)) 0 (s 1) none with
  | none =>
    rw [e] at h
    exact Or.inl ⟨rfl, cA_all0 _ _ (fun i _ hi => h i (by omega))⟩
  | some j =>
    rw [e] at h
    obtain ⟨h1, h2, _⟩ := h
    exact Or.inr ⟨j, rfl, h1, (of_decide_eq_true h2).1, cA_pos (Nat.zero_le _) (by omega) h2⟩
theorem mb_265 {z : Nat} {s σ : Nat → Nat} {H : List sS} {K : Option sS} {T : List Int32} {r9 : Nat → Int32 → Int32 → Int32 → Int32 → zHp → Option (Int32 × zHp)} (hP : PS s σ) {m : Nat} (hm : m < s 2) (hr : MbR r9 z s σ H K T (m + 1)) {X : pX} (hb : Bc X (s, σ) H K T) : En (f_L_members_265 r9 z (nI (skK s (m + 1))) (nI (cvK s (m + 1))) (nI (ovK s (m + 1))) (nI m) (oI (nxN s m)) (if oI (nxN s m) < nI 0 then nI 0 else nI 1) (hp z X)) z X (nI 1) := by
  have n48 := hP.W.n48
  simp only [f_L_members_265, f_L_members_280, f_L_members_300, lit_0, lit_1, lit_2, lit_3, lit_4, lit_5, lit_6, lit_7, lit_8, lit_9, lit_10, lit_11, lit_12, lit_13, lit_14, lit_15, lit_16, lit_17, lit_18, lit_20, lit_24, lit_26, lit_30, lit_40, lit_45, lit_46, lit_47, lit_48, lit_60, lit_63, lit_64, lit_77, lit_100, lit_140, lit_168, lit_200, lit_300, lit_400, lit_900, lit_1000, lit_1168, lit_1997, lit_3333, lit_9999, lit_10000]
  refine En.st hb (qn_open hP hb hm) (fun V1 hb1 => ?_)
  have cl := cA_le (fun k => decide (recS s k 5 = 0 ∧ recS s k (20 + m) ≠ 0)) (s 1) 0
  rcases nx_none (s := s) (m := m) with ⟨e1, e2⟩ | ⟨j, e1, e2, e3, e4⟩
  · have o5 : oI (nxN s m) = -nI 5 := by rw [e1]; rfl
    rw [o5, e2, if_pos (show nI 0 ≤ nI 0 by decide), if_pos (show -nI 5 < nI 0 by decide), if_pos rfl, nI_add]
    exact hr _ hb1
  · have o5 : oI (nxN s m) = nI j := by rw [e1]; rfl
    rw [o5, if_neg (no_le e4 (by omega)), if_neg (no_lt (Nat.zero_le _) (by omega)), if_pos rfl, if_neg (no_lt (Nat.zero_le _) (by omega))]
    refine En.st hb1 (qn_sail hP hb1 e2 (w := 0) (by omega)) (fun V2 hb2 => ?_)
    have ec : nI (slV s j 0) = nI 0 := congrArg nI e3
    rw [if_pos ec, nI_add]
    exact hr _ hb2
theorem mb_143 {z : Nat} {s σ : Nat → Nat} {H : List sS} {K : Option sS} {T : List Int32} {r9 : Nat → Int32 → Int32 → Int32 → Int32 → zHp → Option (Int32 × zHp)} (hP : PS s σ) {m : Nat} (hm : m < s 2) (hr : MbR r9 z s σ H K T (m + 1)) {X : pX} (hb : Bc X (s, σ) H K T) {s0 : Int32} (h0 : nI (skK s m) + s0 = nI (skK s (m + 1))) : En (f_L_members_143 r9 z (nI (cvK s m)) (nI (ovK s (m + 1))) (nI m) (nI (sA (dcN s m) 0 1200)) (nI (sA (dcN s m) 0 1200)) s0 (nI (skK s m)) (hp z X)) z X (nI 1) := by
  have n12 := hP.W.m12
  obtain ⟨hd1, hd4, hd5, hd6⟩ := hP.1.2.2.2.2 m hm
  have ecv : nI (cvK s m) + nI (s (969 + 6 * m + 5)) = nI (cvK s (m + 1)) := by
    rw [nI_add]
    unfold cvK
    rw [sA_last, Nat.zero_add]
  have gf : GF (fD (dcN s m)) 1 0 := ⟨fun j hj => by rw [show j = 0 by omega]; exact Nat.le_refl _, fun j hj => by omega⟩
  have lok := (lrB_ok 1000 1 0 gf).2
  have lle := lrB_le (fD (dcN s m)) 1000 1 (cA (fD (dcN s m)) 0 24) 0 1000 (by omega) (by omega)
  have c24 : ∀ t, cA (fD (dcN s m)) t 24 ≤ 24 := fun t => cA_le _ _ _
  have c168 := cA_le (fD (dcN s m)) 168 0
  have lL : lrL (fD (dcN s m)) 1 1000 (cA (fD (dcN s m)) 0 24) ≤ 24 := by rw [lok]; exact c24 _
  have l4 : s 4 ≤ lrL (fD (dcN s m)) 1 1000 (cA (fD (dcN s m)) 0 24) := by rw [lok]; exact hd4 _
  have lG : lrG (fD (dcN s m)) 1 1000 (lgL (fD (dcN s m)) 0 24 0 0) ≤ 24 := Nat.le_trans ((lrG_iff 1000 1 _).mp (Nat.le_refl _)).1 (lgL_le _ 24 0 0 0 24 (by omega) (by omega))
  have l5 : s 5 ≤ lrG (fD (dcN s m)) 1 1000 (lgL (fD (dcN s m)) 0 24 0 0) := by
    rcases Nat.eq_zero_or_pos (s 5) with x | x
    · omega
    · exact (lrG_iff 1000 1 _).mpr ⟨(lg_has x).mpr (hd5 0), fun j _ _ => (lg_has x).mpr (hd5 j)⟩
  simp only [f_L_members_143, lit_0, lit_1, lit_2, lit_3, lit_4, lit_5, lit_6, lit_7, lit_8, lit_9, lit_10, lit_11, lit_12, lit_13, lit_14, lit_15, lit_16, lit_17, lit_18, lit_20, lit_24, lit_26, lit_30, lit_40, lit_45, lit_46, lit_47, lit_48, lit_60, lit_63, lit_64, lit_77, lit_100, lit_140, lit_168, lit_200, lit_300, lit_400, lit_900, lit_1000, lit_1168, lit_1997, lit_3333, lit_9999, lit_10000]
  refine En.st hb (qn_cov hP hb hm) (fun V1 hb1 => ?_)
  refine En.st hb1 (qn_next hP hb1 hm) (fun V2 hb2 => ?_)
  rw [if_pos trivial]
  refine En.st hb2 (qn_least hP hb2 hm).1 (fun V3 hb3 => ?_)
  refine En.st hb3 (qn_set hP hb3 (i := 0) (by omega)) (fun V4 hb4 => ?_)
  rw [if_neg (no_lt l4 (by omega))]
  refine En.st hb4 (qn_least hP hb4 hm).2.2 (fun V5 hb5 => ?_)
  refine En.st hb5 (qn_set hP hb5 (i := 1) (by omega)) (fun V6 hb6 => ?_)
  rw [if_neg (no_lt l5 (by omega))]
  refine En.st hb6 (qn_rest hP hb6 hm (a := 0) (N := 168) (by omega) (by omega) (by omega)) (fun V7 hb7 => ?_)
  refine En.st hb7 (qn_set hP hb7 (i := 2) (by omega)) (fun V8 hb8 => ?_)
  rw [if_pos (nI_le (show s (4 + 2) ≤ cA (fD (dcN s m)) 0 168 from hd6 0) (by omega))]
  refine En.st hb8 (qn_least hP hb8 hm).2.1 (fun V9 hb9 => ?_)
  refine En.st hb9 (qn_rest hP hb9 hm (N := 24) lle (by omega) (by omega)) (fun V10 hb10 => ?_)
  refine En.st hb10 (qn_least hP hb10 hm).1 (fun V11 hb11 => ?_)
  rw [if_pos (congrArg nI lok.symm), ecv, h0]
  have g := mb_265 hP hm hr hb11
  by_cases c : oI (nxN s m) < nI 0
  · rw [if_pos c] at g ⊢
    exact g
  · rw [if_neg c] at g ⊢
    exact g
theorem mb_35 {z : Nat} {s σ : Nat → Nat} {H : List sS} {K : Option sS} {T : List Int32} {r9 : Nat → Int32 → Int32 → Int32 → Int32 → zHp → Option (Int32 × zHp)} (hP : PS s σ) {m : Nat} (hm : m < s 2) (hr : MbR r9 z s σ H K T (m + 1)) : ∀ (n fuel w : Nat) (X : pX), w + n = 6 → n < fuel → Bc X (s, σ) H K T → En (f_L_members_35 r9 fuel z (nI (skK s m)) (nI (cvK s m)) (nI (ovK s m + sA (hbM s m) 0 w)) (nI m) (nI (sA (dcN s m) 0 1200)) (nI (sA (dcN s m) 0 (168 * w))) (nI w) (hp z X)) z X (nI 1) := by
  have n12 := hP.W.m12
  have b0 := hP.B.1.1
  have b8 : s 8 ≤ 100 := hP.B.1.2.2.2.1.2.2.2.2
  obtain ⟨hd1, hd4, hd5, hd6⟩ := hP.1.2.2.2.2 m hm
  have l4 := hP.B.1.2.2.2.2 m (by omega) 4 (by omega)
  intro n
  induction n with
  | zero =>
    intro fuel w X h1 h2 hb
    obtain ⟨fuel, rfl⟩ : ∃ f, fuel = f + 1 := ⟨fuel - 1, by omega⟩
    have h1 : w = 6 := by omega
    subst h1
    have hz : sA (dcN s m) 0 (168 * 6) = sA (dcN s m) 0 1200 := by
      rw [show (1200 : Nat) = 168 * 6 + 192 from rfl, sA_app, sA_z (f := dcN s m) 192 (0 + 168 * 6) (fun i hi _ => (dcN_ok hP.B m).2 i (by omega)), Nat.add_zero]
    have ho : ovK s m + sA (hbM s m) 0 6 = ovK s (m + 1) := by
      unfold ovK
      rw [sA_last (n := m), Nat.zero_add]
    have hs : skK s (m + 1) = skK s m + (decide (s 0 < s (969 + 6 * m + 4))).toNat := by
      unfold skK
      rw [cA_last, Nat.zero_add]
    rw [hz, ho]
    simp only [f_L_members_35, f_L_members_35_body, lit_0, lit_1, lit_2, lit_3, lit_4, lit_5, lit_6, lit_7, lit_8, lit_9, lit_10, lit_11, lit_12, lit_13, lit_14, lit_15, lit_16, lit_17, lit_18, lit_20, lit_24, lit_26, lit_30, lit_40, lit_45, lit_46, lit_47, lit_48, lit_60, lit_63, lit_64, lit_77, lit_100, lit_140, lit_168, lit_200, lit_300, lit_400, lit_900, lit_1000, lit_1168, lit_1997, lit_3333, lit_9999, lit_10000]
    rw [if_pos (nI_le (Nat.le_refl 6) (by omega))]
    refine En.st hb (qn_sick hP hb hm) (fun V1 hb1 => ?_)
    refine En.st hb1 (qn_count hP hb1 (k := 0) (by omega)) (fun V2 hb2 => ?_)
    by_cases c : s 0 < s (969 + 6 * m + 4)
    · have e : ¬ skV s m ≤ nI (cntV s 0) := by
        unfold skV
        rw [if_pos c]
        exact no_le c (by omega)
      rw [if_neg e]
      refine mb_143 hP hm hr hb2 ?_
      rw [hs, decide_eq_true c, nI_add]
      rfl
    · have e : skV s m ≤ nI (cntV s 0) := by
        unfold skV
        rw [if_neg c]
        exact Int32.le_trans (show -nI 5 ≤ nI 0 by decide) (nn0 (by show s 0 < _; omega))
      rw [if_pos e]
      refine mb_143 hP hm hr hb2 ?_
      rw [hs, decide_eq_false c, nI_add]
      rfl
  | succ n ih =>
    intro fuel w X h1 h2 hb
    obtain ⟨fuel, rfl⟩ : ∃ f, fuel = f + 1 := ⟨fuel - 1, by omega⟩
    have hw : w < 6 := by omega
    have df := du_fr hd1 168 (168 * w)
    have c168 := cA_le (fD (dcN s m)) 168 (168 * w)
    have e1 : nI 168 - nI (cA (fD (dcN s m)) (168 * w) 168) = nI (168 - cA (fD (dcN s m)) (168 * w) 168) := nI_sub c168
    have e2 : sA (dcN s m) 0 (168 * w) + (168 - cA (fD (dcN s m)) (168 * w) 168) = sA (dcN s m) 0 (168 * (w + 1)) := by
      rw [show 168 * (w + 1) = 168 * w + 168 by omega, sA_app, Nat.zero_add]
      omega
    have e3 : ovK s m + sA (hbM s m) 0 w + hbM s m w = ovK s m + sA (hbM s m) 0 (w + 1) := by rw [sA_last, Nat.zero_add, Nat.add_assoc]
    have nle : ¬ nI 6 ≤ nI w := no_le hw (by omega)
    have i1 := fun X hb => ih fuel (w + 1) X (by omega) (by omega) hb
    simp only [f_L_members_35, f_L_members_35_body, f_L_members_94, lit_0, lit_1, lit_2, lit_3, lit_4, lit_5, lit_6, lit_7, lit_8, lit_9, lit_10, lit_11, lit_12, lit_13, lit_14, lit_15, lit_16, lit_17, lit_18, lit_20, lit_24, lit_26, lit_30, lit_40, lit_45, lit_46, lit_47, lit_48, lit_60, lit_63, lit_64, lit_77, lit_100, lit_140, lit_168, lit_200, lit_300, lit_400, lit_900, lit_1000, lit_1168, lit_1997, lit_3333, lit_9999, lit_10000, if_neg nle, nI_mul]
    refine En.st hb (qn_rest hP hb hm (a := 168 * w) (N := 168) (by omega) (by omega) (by omega)) (fun V1 hb1 => ?_)
    refine En.st hb1 (qn_set hP hb1 (i := 4) (by omega)) (fun V2 hb2 => ?_)
    rw [e1]
    by_cases c : 168 - cA (fD (dcN s m)) (168 * w) 168 ≤ s 8
    · have c1 : nI (168 - cA (fD (dcN s m)) (168 * w) 168) ≤ nI (s (4 + 4)) := nI_le c (by show s 8 < _; omega)
      have hz : hbM s m w = 0 := by unfold hbM; omega
      rw [if_pos c1]
      refine En.st hb2 (qn_over hP hb2 hm hw) (fun V3 hb3 => ?_)
      have g := i1 _ hb3
      rw [← e3, ← e2, hz] at g
      rw [hz, if_pos rfl, nI_add, nI_add, nI_add]
      exact g
    · have c1 : ¬ nI (168 - cA (fD (dcN s m)) (168 * w) 168) ≤ nI (s (4 + 4)) := no_le (show s 8 < _ by omega) (by omega)
      rw [if_neg c1]
      refine En.st hb2 (qn_set hP hb2 (i := 4) (by omega)) (fun V3 hb3 => ?_)
      have e4 : nI (168 - cA (fD (dcN s m)) (168 * w) 168) - nI (s (4 + 4)) = nI (hbM s m w) := by
        rw [nI_sub (show s 8 ≤ _ by omega)]
        rfl
      rw [e4]
      refine En.st hb3 (qn_over hP hb3 hm hw) (fun V4 hb4 => ?_)
      have g := i1 _ hb4
      rw [← e3, ← e2] at g
      rw [if_pos rfl, nI_add, nI_add, nI_add]
      exact g
theorem mb_9 {z : Nat} {s σ : Nat → Nat} {H : List sS} {K : Option sS} {T : List Int32} (hP : PS s σ) : ∀ (n fuel m : Nat), m + n = s 2 → n < fuel → MbR (fun z => f_L_members_9 fuel z) z s σ H K T m := by
  have n12 := hP.W.m12
  intro n
  induction n with
  | zero =>
    intro fuel m h1 h2 X hb
    obtain ⟨fuel, rfl⟩ : ∃ f, fuel = f + 1 := ⟨fuel - 1, by omega⟩
    have h1 : m = s 2 := h1
    subst h1
    simp only [f_L_members_9, f_L_members_9_body, f_L_members_340, lit_0, lit_1, lit_2, lit_3, lit_4, lit_5, lit_6, lit_7, lit_8, lit_9, lit_10, lit_11, lit_12, lit_13, lit_14, lit_15, lit_16, lit_17, lit_18, lit_20, lit_24, lit_26, lit_30, lit_40, lit_45, lit_46, lit_47, lit_48, lit_60, lit_63, lit_64, lit_77, lit_100, lit_140, lit_168, lit_200, lit_300, lit_400, lit_900, lit_1000, lit_1168, lit_1997, lit_3333, lit_9999, lit_10000]
    refine En.st hb (qn_count hP hb (k := 5) (by omega)) (fun V1 hb1 => ?_)
    rw [if_pos (show nI (cntV s 5) ≤ nI (s 2) from nI_le (Nat.le_refl _) (by omega))]
    refine En.st hb1 (qn_count hP hb1 (k := 6) (by omega)) (fun V2 hb2 => ?_)
    rw [if_pos (show nI (skK s (s 2)) = nI (cntV s 6) from rfl)]
    refine En.st hb2 (qn_count hP hb2 (k := 9) (by omega)) (fun V3 hb3 => ?_)
    rw [if_pos (show nI (cvK s (s 2)) = nI (cntV s 9) from congrArg nI (cv_sum hP))]
    refine En.st hb3 (qn_count hP hb3 (k := 10) (by omega)) (fun V4 hb4 => ?_)
    rw [if_pos (show nI (ovK s (s 2)) = nI (cntV s 10) from rfl)]
    exact En.fin hb4
  | succ n ih =>
    intro fuel m h1 h2 X hb
    obtain ⟨fuel, rfl⟩ : ∃ f, fuel = f + 1 := ⟨fuel - 1, by omega⟩
    have hm : m < s 2 := by omega
    simp only [f_L_members_9, f_L_members_9_body, lit_0, lit_1, lit_2, lit_3, lit_4, lit_5, lit_6, lit_7, lit_8, lit_9, lit_10, lit_11, lit_12, lit_13, lit_14, lit_15, lit_16, lit_17, lit_18, lit_20, lit_24, lit_26, lit_30, lit_40, lit_45, lit_46, lit_47, lit_48, lit_60, lit_63, lit_64, lit_77, lit_100, lit_140, lit_168, lit_200, lit_300, lit_400, lit_900, lit_1000, lit_1168, lit_1997, lit_3333, lit_9999, lit_10000]
    refine En.st hb (qn_count hP hb (k := 5) (by omega)) (fun V1 hb1 => ?_)
    rw [if_neg (show ¬ nI (cntV s 5) ≤ nI m from no_le hm (by show s 2 < _; omega))]
    refine En.st hb1 (qn_hours hP hb1 hm) (fun V2 hb2 => ?_)
    exact mb_35 (r9 := fun z => f_L_members_9 fuel z) hP hm (ih fuel (m + 1) (by omega) (by omega)) 6 zN 0 _ (by omega) (zN_lt (by omega)) hb2
theorem e_members {z : Nat} {X : pX} {s σ : Nat → Nat} {H : List sS} {K : Option sS} {T : List Int32} (hP : PS s σ) (hb : Bc X (s, σ) H K T) : En (f_L_members z (hp z X)) z X (nI 1) := by
  have n12 := hP.W.m12
  simp only [f_L_members, lit_0, lit_1, lit_2, lit_3, lit_4, lit_5, lit_6, lit_7, lit_8, lit_9, lit_10, lit_11, lit_12, lit_13, lit_14, lit_15, lit_16, lit_17, lit_18, lit_20, lit_24, lit_26, lit_30, lit_40, lit_45, lit_46, lit_47, lit_48, lit_60, lit_63, lit_64, lit_77, lit_100, lit_140, lit_168, lit_200, lit_300, lit_400, lit_900, lit_1000, lit_1168, lit_1997, lit_3333, lit_9999, lit_10000]
  exact mb_9 hP (s 2) zN 0 (Nat.zero_add _) (zN_lt (by omega)) X hb
