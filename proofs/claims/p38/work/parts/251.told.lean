/-! what is told: by rank and by number -/
theorem cA_ex1 {p : Nat → Bool} {k n : Nat} (h : 1 ≤ cA p k n) : ∃ i, k ≤ i ∧ i < k + n ∧ p i = true := by
  refine Classical.byContradiction (fun c => ?_)
  have e : cA p k n = 0 := cA_all0 n k (fun i a b => by
    cases d : p i with
    | false => rfl
    | true => exact absurd ⟨i, a, b, d⟩ c)
  omega
theorem dut1 {s σ : Nat → Nat} (hP : PS s σ) {m : Nat} (hm : m < s 2) : GoodS (dAll (UU s σ) (s 7) (selD (UU s σ) m none)) (dcN s m) ∧ ∀ h, (dAll (UU s σ) (s 7) (selD (UU s σ) m none)).1 h = 7 ↔ s 7 = 1 ∧ 1 ≤ haN (UU s σ) (selD (UU s σ) m none) 48 h := by
  have b2 := hP.W.m12
  rcases dut hP.W hP.2.1 (m := m) (by omega) with h | h
  · obtain ⟨_, t, ht⟩ := h
    have := (hP.1.2.2.2.2 m hm).1 t
    omega
  · exact h
theorem fB_fD {s σ : Nat → Nat} (hP : PS s σ) {m : Nat} (hm : m < s 2) : fB (dAll (UU s σ) (s 7) (selD (UU s σ) m none)) = fD (dcN s m) := by
  funext t
  unfold fB fD
  exact decide_eq_decide.mpr ((dut1 hP hm).1.2.2.1 t)
theorem bey_eq {s σ : Nat → Nat} (hP : PS s σ) {m : Nat} (hm : m < s 2) (k : Nat) : hbN s (dAll (UU s σ) (s 7) (selD (UU s σ) m none)) k = hbM s m k := by
  unfold hbN hbM
  rw [fB_fD hP hm]
theorem hbA_eq {s σ : Nat → Nat} (hP : PS s σ) : sA (hbA s (UU s σ)) 0 (s 2) = sA (fun m => sA (hbM s m) 0 6) 0 (s 2) :=
  sA_congr _ _ (fun m _ hm => sA_congr _ _ (fun k _ _ => bey_eq hP (by omega) k))
/-! the least rest -/
def GF (f : Nat → Bool) (k b : Nat) : Prop := (∀ j, j < k → cA f b 24 ≤ cA f j 24) ∧ ∀ j, j < b → cA f b 24 < cA f j 24
theorem GF_s {f : Nat → Bool} {k b : Nat} (h : GF f k b) : GF f (k + 1) (if cA f k 24 < cA f b 24 then k else b) := by
  by_cases c : cA f k 24 < cA f b 24
  · rw [if_pos c]
    refine ⟨fun j hj => ?_, fun j hj => ?_⟩
    · by_cases d : j = k
      · rw [d]; exact Nat.le_refl _
      · have := h.1 j (by omega); omega
    · have := h.1 j hj; omega
  · rw [if_neg c]
    refine ⟨fun j hj => ?_, h.2⟩
    by_cases d : j = k
    · rw [d]; omega
    · exact h.1 j (by omega)
theorem fhL_ok {f : Nat → Bool} : ∀ (n k b : Nat), GF f k b → GF f (k + n) (fhL f k n (cA f b 24) b)
  | 0, _, _, h => h
  | n + 1, k, b, h => by
    have g := GF_s h
    rw [show k + (n + 1) = k + 1 + n by omega]
    unfold fhL
    by_cases c : cA f k 24 < cA f b 24
    · rw [if_pos c] at g ⊢
      exact fhL_ok n (k + 1) k g
    · rw [if_neg c] at g ⊢
      exact fhL_ok n (k + 1) b g
theorem lrB_ok {f : Nat → Bool} : ∀ (n k b : Nat), GF f k b → GF f (k + n) (lrB f k n (cA f b 24) b) ∧ lrL f k n (cA f b 24) = cA f (lrB f k n (cA f b 24) b) 24
  | 0, _, _, h => ⟨h, rfl⟩
  | n + 1, k, b, h => by
    have g := GF_s h
    rw [show k + (n + 1) = k + 1 + n by omega]
    show GF f _ (lrB f (k + 1) n (if cA f b 24 ≤ cA f k 24 then cA f b 24 else cA f k 24) (if cA f b 24 ≤ cA f k 24 then b else k)) ∧ lrL f (k + 1) n (if cA f b 24 ≤ cA f k 24 then cA f b 24 else cA f k 24) = cA f (lrB f (k + 1) n (if cA f b 24 ≤ cA f k 24 then cA f b 24 else cA f k 24) (if cA f b 24 ≤ cA f k 24 then b else k)) 24
    by_cases c : cA f k 24 < cA f b 24
    · rw [if_pos c] at g
      rw [if_neg (c := cA f b 24 ≤ cA f k 24) (by omega), if_neg (c := cA f b 24 ≤ cA f k 24) (by omega)]
      exact lrB_ok n (k + 1) k g
    · rw [if_neg c] at g
      rw [if_pos (c := cA f b 24 ≤ cA f k 24) (by omega), if_pos (c := cA f b 24 ≤ cA f k 24) (by omega)]
      exact lrB_ok n (k + 1) b g
theorem GF_all {f : Nat → Bool} {k b : Nat} (h : GF f k b) (hk : ∀ t, k ≤ t → f t = true) : ∀ j, cA f b 24 ≤ cA f j 24 := fun j => by
  rcases Nat.lt_or_ge j k with c | c
  · exact h.1 j c
  · rw [cA_full 24 j (fun i a b => hk i (by omega))]
    exact cA_le _ _ _
theorem GF_u {f : Nat → Bool} {k k' b b' : Nat} (h : GF f k b) (h' : GF f k' b') (a : ∀ j, cA f b 24 ≤ cA f j 24) (a' : ∀ j, cA f b' 24 ≤ cA f j 24) : b = b' := by
  rcases Nat.lt_trichotomy b b' with c | c | c
  · have := h'.2 b c; have := a b'; omega
  · exact c
  · have := h.2 b' c; have := a' b; omega
theorem least_first {f : Nat → Bool} {en : Nat} (h1 : ∀ t, en ≤ t → f t = true) (h2 : ∀ t, 1000 ≤ t → f t = true) : fhL f 0 en (cA f 0 24) 0 = lrB f 1 1000 (cA f 0 24) 0 ∧ lrL f 1 1000 (cA f 0 24) = cA f (fhL f 0 en (cA f 0 24) 0) 24 := by
  have g1 := fhL_ok (f := f) en 0 0 ⟨fun j hj => by omega, fun j hj => by omega⟩
  obtain ⟨g2, g3⟩ := lrB_ok (f := f) 1000 1 0 ⟨fun j hj => by have : j = 0 := (by omega); rw [this]; exact Nat.le_refl _, fun j hj => by omega⟩
  have e := GF_u g1 g2 (GF_all g1 (fun t ht => h1 t (by omega))) (GF_all g2 (fun t ht => h2 t (by omega)))
  exact ⟨e, by rw [g3, ← e]⟩
theorem lgL_iff {f : Nat → Bool} {L : Nat} (hL : 1 ≤ L) : ∀ (n k most run : Nat), run ≤ k → (∀ i, k - run ≤ i → i < k → f i = true) → (L ≤ lgL f k n most run ↔ L ≤ most ∨ ∃ p, p + L ≤ k + n ∧ k < p + L ∧ k - run ≤ p ∧ frP f L p)
  | 0, k, most, run, _, _ => ⟨fun h => Or.inl h, fun h => by
      rcases h with h | ⟨p, a, b, _, _⟩
      · exact h
      · omega⟩
  | n + 1, k, most, run, hr, hf => by
    cases c : f k with
    | true =>
      have e : lgL f k (n + 1) most run = lgL f (k + 1) n (if run + 1 ≤ most then most else run + 1) (run + 1) := by
        show lgL f (k + 1) n (if (match f k with | true => run + 1 | false => 0) ≤ most then most else (match f k with | true => run + 1 | false => 0)) (match f k with | true => run + 1 | false => 0) = _
        rw [c]
      have hf' : ∀ i, k + 1 - (run + 1) ≤ i → i < k + 1 → f i = true := fun i a b => by
        by_cases d : i = k
        · rw [d]; exact c
        · exact hf i (by omega) (by omega)
      rw [e, lgL_iff hL n (k + 1) _ (run + 1) (by omega) hf']
      constructor
      · rintro (h | ⟨p, a, b, d, g⟩)
        · by_cases d : L ≤ most
          · exact Or.inl d
          · refine Or.inr ⟨k + 1 - L, ?_, ?_, ?_, fun i x y => hf' i ?_ ?_⟩
            · split at h <;> omega
            · split at h <;> omega
            · split at h <;> omega
            · split at h <;> omega
            · split at h <;> omega
        · exact Or.inr ⟨p, by omega, by omega, by omega, g⟩
      · rintro (h | ⟨p, a, b, d, g⟩)
        · left; split <;> omega
        · by_cases x : p + L = k + 1
          · left; split <;> omega
          · exact Or.inr ⟨p, by omega, by omega, by omega, g⟩
    | false =>
      have e : lgL f k (n + 1) most run = lgL f (k + 1) n most 0 := by
        show lgL f (k + 1) n (if (match f k with | true => run + 1 | false => 0) ≤ most then most else (match f k with | true => run + 1 | false => 0)) (match f k with | true => run + 1 | false => 0) = _
        rw [c]
        dsimp only
        rw [if_pos (Nat.zero_le _)]
      rw [e, lgL_iff hL n (k + 1) most 0 (by omega) (fun i a b => by omega)]
      constructor
      · rintro (h | ⟨p, a, b, d, g⟩)
        · exact Or.inl h
        · exact Or.inr ⟨p, by omega, by omega, by omega, g⟩
      · rintro (h | ⟨p, a, b, d, g⟩)
        · exact Or.inl h
        · rcases Nat.lt_or_ge k p with x | x
          · exact Or.inr ⟨p, by omega, by omega, by omega, g⟩
          · have := g k x b
            rw [c] at this
            exact absurd this (by decide)
theorem lg_has {f : Nat → Bool} {L t : Nat} (hL : 1 ≤ L) : L ≤ lgL f t 24 0 0 ↔ hasR f L t := by
  rw [lgL_iff hL 24 t 0 0 (Nat.zero_le _) (fun i a b => by omega)]
  constructor
  · rintro (h | ⟨p, a, b, c, d⟩)
    · omega
    · exact ⟨p, by omega, a, d⟩
  · rintro ⟨p, a, b, c⟩
    exact Or.inr ⟨p, b, by omega, by omega, c⟩
theorem lrG_iff {f : Nat → Bool} {L : Nat} : ∀ (n k g : Nat), L ≤ lrG f k n g ↔ L ≤ g ∧ ∀ j, k ≤ j → j < k + n → L ≤ lgL f j 24 0 0
  | 0, _, _ => ⟨fun h => ⟨h, fun j a b => by omega⟩, fun h => h.1⟩
  | n + 1, k, g => by
    show L ≤ lrG f (k + 1) n (if g ≤ lgL f k 24 0 0 then g else lgL f k 24 0 0) ↔ _
    rw [lrG_iff n (k + 1)]
    constructor
    · rintro ⟨a, b⟩
      refine ⟨by split at a <;> omega, fun j x y => ?_⟩
      by_cases e : j = k
      · rw [e]; split at a <;> omega
      · exact b j (by omega) (by omega)
    · rintro ⟨a, b⟩
      have := b k (Nat.le_refl _) (by omega)
      exact ⟨by split <;> omega, fun j x y => b j (by omega) (by omega)⟩
theorem lLR_ok {f : Nat → Bool} {en : Nat} : ∀ n, lLR f en n ≤ n ∧ (∀ t, t < en → hasR f (lLR f en n) t) ∧ ∀ L, L ≤ n → (∀ t, t < en → hasR f L t) → L ≤ lLR f en n
  | 0 => ⟨Nat.le_refl _, fun t _ => ⟨t, Nat.le_refl _, by show t + 0 ≤ t + 24; omega, fun i a b => absurd b (by show ¬ i < t + 0; omega)⟩, fun L h _ => h⟩
  | n + 1 => by
    obtain ⟨a, b, c⟩ := lLR_ok (f := f) (en := en) n
    by_cases d : dayB f (n + 1) 0 en = true
    · have e : lLR f en (n + 1) = n + 1 := if_pos d
      rw [e]
      exact ⟨Nat.le_refl _, fun t ht => dayB_iff.mp d t (Nat.zero_le _) ht, fun L h _ => h⟩
    · have e : lLR f en (n + 1) = lLR f en n := if_neg d
      rw [e]
      refine ⟨by omega, b, fun L h g => ?_⟩
      by_cases x : L = n + 1
      · rw [x] at g
        exact absurd (dayB_iff.mpr (fun t _ ht => g t ht)) d
      · exact c L (by omega) g
theorem has_free {f : Nat → Bool} {L t : Nat} (hL : L ≤ 24) (h : ∀ i, t ≤ i → f i = true) : hasR f L t := ⟨t, Nat.le_refl _, by omega, fun i a _ => h i a⟩
theorem least_long {f : Nat → Bool} {en : Nat} (h1 : ∀ t, en ≤ t → f t = true) (h2 : ∀ t, 1000 ≤ t → f t = true) : lLR f en 24 = lrG f 1 1000 (lgL f 0 24 0 0) := by
  obtain ⟨a, b, c⟩ := lLR_ok (f := f) (en := en) 24
  refine Nat.le_antisymm ?_ ?_
  · rw [lrG_iff]
    rcases Nat.eq_zero_or_pos (lLR f en 24) with z | z
    · rw [z]; exact ⟨Nat.zero_le _, fun _ _ _ => Nat.zero_le _⟩
    · have k : ∀ j, lLR f en 24 ≤ lgL f j 24 0 0 := fun j => (lg_has z).mpr (by
        rcases Nat.lt_or_ge j en with x | x
        · exact b j x
        · exact has_free a (fun i hi => h1 i (by omega)))
      exact ⟨k 0, fun j _ _ => k j⟩
  · have g := (lrG_iff (f := f) (L := lrG f 1 1000 (lgL f 0 24 0 0)) 1000 1 (lgL f 0 24 0 0)).mp (Nat.le_refl _)
    have l24 := lgL_le f 24 0 0 0 24 (Nat.zero_le _) (by omega)
    refine c _ (by omega) (fun t _ => ?_)
    rcases Nat.eq_zero_or_pos (lrG f 1 1000 (lgL f 0 24 0 0)) with z | z
    · rw [z]; exact ⟨t, Nat.le_refl _, by omega, fun i a b => by omega⟩
    · rcases Nat.lt_or_ge t 1001 with x | x
      · refine (lg_has z).mp ?_
        by_cases y : t = 0
        · rw [y]; exact g.1
        · exact g.2 t (by omega) (by omega)
      · exact has_free (by omega) (fun i hi => h2 i (by omega))
theorem fD_hi {s : Nat → Nat} (hB : RB s) {m t : Nat} (h : 1000 ≤ t) : fD (dcN s m) t = true := decide_eq_true ((dcN_ok hB m).2 t h)
theorem fD_en {s σ : Nat → Nat} (hP : PS s σ) {m : Nat} (hm : m < s 2) {t : Nat} (h : (dAll (UU s σ) (s 7) (selD (UU s σ) m none)).2.2.1 ≤ t) : fD (dcN s m) t = true := decide_eq_true ((dut1 hP hm).1.2.2.2.2 t h)
/-! crews -/
theorem begin_eq {s σ : Nat → Nat} (hP : PS s σ) {m r : Nat} (hm : m < s 2) (hr : r < s 1) (h0 : recS s (σ r) (20 + m) ≠ 0) : (match UU s σ r 2 with | 0 => 0 | t + 1 => if (dAll (UU s σ) (s 7) (selD (UU s σ) m none)).1 t = 7 then t else t + 1) = bgN s m (σ r) := by
  have hW := hP.W
  have b1 := hW.n48
  have b2 := hW.m12
  have hk := hP.2.1.1 r hr
  have h7 : s 7 ≤ 1 := hP.B.1.2.2.2.1.2.2.2.1
  rw [UU_lt hr]
  unfold bgN
  cases e : recS s (σ r) 2 with
  | zero => simp
  | succ t =>
    dsimp only
    have hsel := sel_lt hW hP.2.1 (m := m) (by omega) hr
    have hd : hdB s m (σ r) = true := decide_eq_true ⟨h0, fun c => h0 (hW.2.1 _ m (by omega) (by omega) (Or.inr (Or.inr c)))⟩
    rw [hd] at hsel
    have hl := link_eq hW hP.2.1 (m := m) (by omega) hr
    rw [← hl]
    have key : (dAll (UU s σ) (s 7) (selD (UU s σ) m none)).1 t = 7 ↔ s 7 = 1 ∧ liB (UU s σ) (selD (UU s σ) m none) r = false := by
      rw [(dut1 hP hm).2 t]
      constructor
      · rintro ⟨a, b⟩
        refine ⟨a, ?_⟩
        obtain ⟨q, _, q2, q3⟩ := cA_ex1 b
        unfold haB at q3
        rw [Bool.and_eq_true, Bool.and_eq_true] at q3
        obtain ⟨p1, p2, p3⟩ := q3
        have hq : q < s 1 := by
          rcases Nat.lt_or_ge q (s 1) with c | c
          · exact c
          · rw [sel_ge c] at p1; exact absurd p1 (by decide)
        have p2 := of_decide_eq_true p2
        rw [UU_lt hq] at p2
        rw [sel_lt hW hP.2.1 (by omega) hq] at p1
        have d1 : dcB s m (t + 1) (σ q) = true := dcB_iff.mpr ⟨p1, by
          have : bgN s m (σ q) ≤ recS s (σ q) 2 := by unfold bgN; split <;> omega
          omega, by have := rec_3 hW (hP.2.1.1 q hq); omega⟩
        have d2 : dcB s m (t + 1) (σ r) = true := dcB_iff.mpr ⟨hd, by
          have : bgN s m (σ r) ≤ recS s (σ r) 2 := by unfold bgN; split <;> omega
          omega, by have := rec_3 hW hk; omega⟩
        have u := cA_uniq ((hP.1.2.2.2.2 m hm).1 (t + 1)) (Nat.zero_le _) (by have := hP.2.1.1 q hq; omega) (Nat.zero_le _) (by omega) d1 d2
        have : q = r := hP.2.1.2 q r hq hr u
        rw [← this]
        simpa using p3
      · rintro ⟨a, b⟩
        refine ⟨a, cA_pos (i := r) (Nat.zero_le _) (by omega) ?_⟩
        unfold haB
        rw [hsel, b, UU_lt hr, e]
        simp
    by_cases c : (dAll (UU s σ) (s 7) (selD (UU s σ) m none)).1 t = 7
    · rw [if_pos c]
      have k := key.mp c
      rw [if_neg (by rw [k.2]; rintro (x | x | x); · omega
                     · omega
                     · exact absurd x (by decide))]
      omega
    · rw [if_neg c, if_pos]
      by_cases d : s 7 = 0
      · exact Or.inl d
      · right; right
        cases x : liB (UU s σ) (selD (UU s σ) m none) r with
        | true => rfl
        | false => exact absurd (key.mpr ⟨by omega, x⟩) c
/-! the first one, and how many -/
theorem emp5 : emp 5 = 3 := rfl
theorem first_eq {s σ : Nat → Nat} (hP : PS s σ) {p q : Nat → Bool} (h1 : ∀ r, r < s 1 → p r = q (σ r)) (h2 : ∀ r, s 1 ≤ r → r < 48 → p r = false) : (nA p 0 48 0).map (fun r => UU s σ r 0) = bsF (fun k => recS s k 2) q 0 (s 1) none := by
  rw [← first_num hP.W.n48 hP.2.1 hP.2.2 h1 h2]
  rcases nA_first (p := p) 48 0 with ⟨a, _⟩ | ⟨r, a, _, b, c, _⟩
  · rw [a]; rfl
  · rw [a]
    have hr : r < s 1 := by
      rcases Nat.lt_or_ge r (s 1) with d | d
      · exact d
      · rw [h2 r d (by omega)] at c; exact absurd c (by decide)
    show some (UU s σ r 0) = some (σ r)
    rw [UU_lt hr]
    rfl
/-- the sailing of a number -/
theorem at_n {s σ : Nat → Nat} (hP : PS s σ) {k : Nat} (hk : k < s 1) : ∃ r, r < s 1 ∧ σ r = k ∧ nA (fun r => decide (UU s σ r 5 ≠ 3 ∧ nI (UU s σ r 0) = nI k)) 0 48 0 = some r := by
  have b1 := hP.W.n48
  obtain ⟨r, hr, e⟩ := prm_ex hP.2.1 hk
  refine ⟨r, hr, e, ?_⟩
  have is : ∀ q, q < 48 → (decide (UU s σ q 5 ≠ 3 ∧ nI (UU s σ q 0) = nI k) = true ↔ q < s 1 ∧ σ q = k) := fun q hq => by
    rw [decide_eq_true_iff]
    rcases Nat.lt_or_ge q (s 1) with c | c
    · rw [UU_lt c]
      have d := hP.2.1.1 q c
      have g : recS s (σ q) 5 ≤ 2 := (hP.B.2.1 (σ q) (by omega)).1
      have e0 : recS s (σ q) 0 = σ q := rfl
      rw [e0, nI_eq (by omega) (by omega)]
      exact ⟨fun h => ⟨c, h.2⟩, fun h => ⟨by omega, h.2⟩⟩
    · rw [UU_ge c]
      exact ⟨fun h => absurd rfl h.1, fun h => by omega⟩
  rcases nA_first (p := fun r => decide (UU s σ r 5 ≠ 3 ∧ nI (UU s σ r 0) = nI k)) 48 0 with ⟨_, b⟩ | ⟨q, a, _, b, c, _⟩
  · have := b r (Nat.zero_le _) (by omega)
    rw [(is r (by omega)).mpr ⟨hr, e⟩] at this
    exact absurd this (by decide)
  · have d := (is q (by omega)).mp c
    rw [a, hP.2.1.2 q r d.1 hr (d.2.trans e.symm)]
theorem at_x {s σ : Nat → Nat} (hP : PS s σ) {x : Int32} (hx : ¬ (nI 0 ≤ x ∧ x < nI (s 1))) : nA (fun r => decide (UU s σ r 5 ≠ 3 ∧ nI (UU s σ r 0) = x)) 0 48 0 = none := by
  have b1 := hP.W.n48
  rcases nA_first (p := fun r => decide (UU s σ r 5 ≠ 3 ∧ nI (UU s σ r 0) = x)) 48 0 with ⟨a, _⟩ | ⟨q, a, _, b, c, _⟩
  · exact a
  · exfalso
    have c := of_decide_eq_true c
    rcases Nat.lt_or_ge q (s 1) with d | d
    · rw [UU_lt d] at c
      have e0 : recS s (σ q) 0 = σ q := rfl
      rw [e0] at c
      exact hx (c.2 ▸ in_nI (hP.2.1.1 q d) (by omega))
    · rw [UU_ge d] at c
      exact c.1 rfl
theorem abI_cg {p q : Nat → Bool} : ∀ (n k : Nat) (c : Int32), (∀ i, k ≤ i → i < k + n → p i = q i) → abI p k n c = abI q k n c
  | 0, _, _, _ => rfl
  | n + 1, k, c, h => by
    show abI p (k + 1) n _ = abI q (k + 1) n _
    rw [h k (by omega) (by omega), abI_cg n (k + 1) _ (fun i a b => h i (by omega) (by omega))]
theorem bF_cg {val val' : Nat → Nat} {rel : Nat → Nat → Bool} : ∀ (n k : Nat) (b : Option Nat) (v : Nat), (∀ i, k ≤ i → i < k + n → val i = val' i) → bF val rel k n b v = bF val' rel k n b v
  | 0, _, _, _, _ => rfl
  | n + 1, k, b, v, h => by
    have e := h k (by omega) (by omega)
    have i1 := bF_cg (val := val) (val' := val') (rel := rel) n (k + 1) (some k) (val k) (fun i a b => h i (by omega) (by omega))
    have i2 := bF_cg (val := val) (val' := val') (rel := rel) n (k + 1) b v (fun i a b => h i (by omega) (by omega))
    cases c : (b.isNone || rel (val k) v) with
    | true =>
      have c' : (b.isNone || rel (val' k) v) = true := by rw [← e]; exact c
      rw [bF_t c, bF_t c', i1, e]
    | false =>
      have c' : (b.isNone || rel (val' k) v) = false := by rw [← e]; exact c
      rw [bF_f c, bF_f c', i2]
/-- counts over the sailings -/
theorem cnt_st {s σ : Nat → Nat} (hP : PS s σ) {st : Nat} (h3 : st ≠ 3) : cA (fun r => decide (UU s σ r 5 = st)) 0 48 = cA (fun k => decide (recS s k 5 = st)) 0 (s 1) :=
  cA_num hP.W.n48 hP.2.1 (fun r hr => by rw [UU_lt hr]) (fun r a _ => by rw [UU_ge a, emp5]; exact decide_eq_false (fun e => h3 e.symm))
theorem cnt_pl {s σ : Nat → Nat} (hP : PS s σ) {m st : Nat} (h3 : st ≠ 3) : cA (fun r => decide (UU s σ r 5 = st ∧ UU s σ r (20 + m) ≠ 0)) 0 48 = cA (fun k => decide (recS s k 5 = st ∧ recS s k (20 + m) ≠ 0)) 0 (s 1) :=
  cA_num hP.W.n48 hP.2.1 (fun r hr => by rw [UU_lt hr]) (fun r a _ => by rw [UU_ge a, emp5]; exact decide_eq_false (fun e => h3 e.1.symm))
theorem cnt_ci {s σ : Nat → Nat} (hP : PS s σ) {T : Nat} : cA (fun r => decide (UU s σ r 5 = 0 ∧ UU s σ r 2 < T ∧ 0 < fr (UU s σ r))) 0 48 = cA (fun k => decide (recS s k 5 = 0 ∧ recS s k 2 < T ∧ 0 < fo s k)) 0 (s 1) :=
  cA_num hP.W.n48 hP.2.1 (fun r hr => by rw [UU_lt hr, fr_fo hP.W (by have := hP.2.1.1 r hr; have := hP.W.n48; omega)]) (fun r a _ => by rw [UU_ge a, emp5]; exact decide_eq_false (fun e => absurd e.1 (by decide)))
theorem cnt_fr {s σ : Nat → Nat} (hP : PS s σ) : sA (fun r => if UU s σ r 5 = 0 then fr (UU s σ r) else 0) 0 48 = sA (fun k => if recS s k 5 = 0 then fo s k else 0) 0 (s 1) :=
  sA_num hP.W.n48 hP.2.1 (fun r hr => by rw [UU_lt hr, fr_fo hP.W (by have := hP.2.1.1 r hr; have := hP.W.n48; omega)]) (fun r a _ => by rw [UU_ge a, emp5]; rfl)
theorem cnt_tk {s σ : Nat → Nat} (hP : PS s σ) : sA (fun r => if UU s σ r 5 = 0 then tkU (UU s σ r) else 0) 0 48 = sA (fun k => if recS s k 5 = 0 then tkO s k else 0) 0 (s 1) :=
  sA_num hP.W.n48 hP.2.1 (fun r hr => by rw [UU_lt hr, tkU_O hP.W (by have := hP.2.1.1 r hr; have := hP.W.n48; omega)]) (fun r a _ => by rw [UU_ge a, emp5]; rfl)
theorem cnt_sick {s σ : Nat → Nat} (hP : PS s σ) : cA (fun m => decide (s 0 < s (969 + 6 * m + 4))) 0 12 = cA (fun m => decide (s 0 < s (969 + 6 * m + 4))) 0 (s 2) := by
  rw [cA_sA, cA_sA]
  exact sA_part hP.W.m12 (fun m a b => by
    have := (hP.1.2.2.1.1 m a b).1
    simp [this])
theorem ndc_eq {s σ : Nat → Nat} (hP : PS s σ) {m q e : Nat} : oA (fun r => decide (UU s σ r 5 = 0 ∧ e < UU s σ r 3 ∧ UU s σ r (20 + m) = q + 1)) 0 48 = oA (fun k => decide (recS s k 5 = 0 ∧ e < recS s k 3 ∧ recS s k (20 + m) = q + 1)) 0 (s 1) :=
  oA_num hP.W.n48 hP.2.1 (fun r hr => by rw [UU_lt hr]) (fun r a _ => by rw [UU_ge a, emp5]; exact decide_eq_false (fun e => absurd e.1 (by decide)))
theorem PS.fo {s σ : Nat → Nat} (hP : PS s σ) : FO s := fun k hk => by
  have b := hP.W.n48
  have g := tkU_ned (rec_G hP.W (k := k) (by omega) (hP.1.2.1 k hk)).1
  rw [tkU_O hP.W (by omega)] at g
  exact g
