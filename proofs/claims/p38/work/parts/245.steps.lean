/-! rows in order stay in order: members' numbers, places less, a place more, settings -/
theorem lsF_cg {s s' : Nat → Nat} {q : Nat} : ∀ (n i : Nat), (∀ j, i ≤ j → j < i + n → s' (1045 + 12 * q + j) = s (1045 + 12 * q + j)) → lsF s' q i n = lsF s q i n
  | 0, _, _ => rfl
  | n + 1, i, h => by
    show s' (1045 + 12 * q + i) :: lsF s' q (i + 1) n = s (1045 + 12 * q + i) :: lsF s q (i + 1) n
    rw [h i (by omega) (by omega), lsF_cg n (i + 1) (fun j a b => h j (by omega) (by omega))]
theorem lsS_cg {s s' : Nat → Nat} (h : ∀ i, 1041 ≤ i → s' i = s i) (q : Nat) : lsS s' q = lsS s q := by
  unfold lsS
  rw [h _ (by omega), lsF_cg _ _ (fun j _ _ => h _ (by omega))]
theorem Srt_cg {st st' : Nat → Nat} {σ : Nat → Nat} {n : Nat} (hp : Prm σ n) (h : ∀ k, k < n → st' k = st k) (g : Srt st σ n) : Srt st' σ n := by
  intro r q hr hq
  rw [h _ (hp.1 r (by omega)), h _ (hp.1 q hq)]
  exact g r q hr hq
theorem tkM_cg {s s' : Nat → Nat} {k q : Nat} (e2 : s' 2 = s 2) (h : ∀ m, m < s 2 → recS s' k (20 + m) = recS s k (20 + m)) : tkM s' k q = tkM s k q := by
  unfold tkM
  rw [e2]
  exact cA_congr _ _ (fun m _ hm => by rw [h m (by omega)])
theorem tkM_less {s s' : Nat → Nat} {k q : Nat} (e2 : s' 2 = s 2) (h : ∀ m, m < s 2 → recS s' k (20 + m) = 0 ∨ recS s' k (20 + m) = recS s k (20 + m)) : tkM s' k q ≤ tkM s k q := by
  unfold tkM
  rw [e2]
  refine cA_le2 _ _ (fun m _ hm w => ?_)
  have w := of_decide_eq_true w
  rcases h m (by omega) with a | a
  · omega
  · exact decide_eq_true (by rw [← a]; exact w)
/-- other numbers than those of sailings change -/
theorem W0_cg {s s' : Nat → Nat} (hW : W0 s) (hB : RB s') (e0 : s' 0 = s 0) (e1 : s' 1 = s 1) (e2 : s' 2 = s 2) (h : ∀ i, 9 ≤ i → i < 969 → s' i = s i) : W0 s' := by
  have b1 := hW.n48
  have er : ∀ k i, k < 48 → (i < 20 ∨ (20 ≤ i ∧ i < 32)) → recS s' k i = recS s k i := fun k i a b => rec_hi h a b
  refine ⟨hB, fun k m hk hm c => ?_, fun k hk => ⟨?_, fun c => ?_⟩, fun k j hk hj hne => ?_⟩
  · rw [er k (20 + m) hk (by omega)]
    rw [e1, e2, er k 5 hk (by omega)] at c
    exact hW.2.1 k m hk hm c
  · rw [e1] at hk
    rw [h _ (by omega) (by omega)]
    exact (hW.2.2.1 k hk).1
  · rw [e1] at hk
    rw [er k 5 (by omega) (by omega)] at c
    rw [e0, er k 2 (by omega) (by omega)]
    exact (hW.2.2.1 k hk).2 c
  · rw [e1] at hk hj
    rw [er k 5 (by omega) (by omega), er j 5 (by omega) (by omega), er k 1 (by omega) (by omega), er j 1 (by omega) (by omega), er k 2 (by omega) (by omega), er j 2 (by omega) (by omega), er k 3 (by omega) (by omega), er j 3 (by omega) (by omega)]
    exact hW.2.2.2 k j hk hj hne
theorem IVf_cg {s s' : Nat → Nat} (hW : W0 s) (hf : IVf s) (e1 : s' 1 = s 1) (e2 : s' 2 = s 2) (h : ∀ i, 9 ≤ i → i < 969 → s' i = s i) : IVf s' := by
  have b1 := hW.n48
  have b2 := hW.m12
  intro k hk q hq
  rw [e1] at hk
  rw [tkM_cg e2 (fun m hm => rec_hi h (by omega) (by omega)), rec_hi h (by omega) (by omega)]
  exact hf k hk q hq
theorem dcN_hi {s s' : Nat → Nat} (hW : W0 s) {m : Nat} (hm : m < 12) (e1 : s' 1 = s 1) (e7 : s' 7 = s 7) (h : ∀ i, 9 ≤ i → i < 969 → s' i = s i) : dcN s' m = dcN s m := by
  have b1 := hW.n48
  exact dcN_cg e1 e7 (fun k i hk a b => rec_hi h (by omega) (by omega)) (fun k hk => hdB_cg (rec_hi h (by omega) (by omega)) (rec_hi h (by omega) (by omega)))
theorem Srt_rec {s s' σ : Nat → Nat} (hP : PS s σ) (h : ∀ k, k < s 1 → recS s' k 2 = recS s k 2) : Srt (fun k => recS s' k 2) σ (s 1) := Srt_cg hP.2.1 h hP.2.2
/-- members' numbers change -/
theorem PS_mem {s s' σ : Nat → Nat} (hP : PS s σ) (hB : RB s') (h : ∀ i, i ≠ 3 → ¬ (969 ≤ i ∧ i < 1041) → s' i = s i) (hm : IVm s') : PS s' σ := by
  have hW := hP.W
  have b1 := hW.n48
  have b2 := hW.m12
  have e0 := h 0 (by omega) (by omega)
  have e1 := h 1 (by omega) (by omega)
  have e2 := h 2 (by omega) (by omega)
  have hh : ∀ i, 9 ≤ i → i < 969 → s' i = s i := fun i a b => h i (by omega) (by omega)
  refine ⟨⟨W0_cg hW hB e0 e1 e2 hh, IVf_cg hW hP.1.2.1 e1 e2 hh, hm, fun q hq => ?_, fun m hm => ?_⟩, by rw [e1]; exact hP.2.1, by rw [e1]; exact Srt_rec hP (fun k hk => rec_hi hh (by omega) (by omega))⟩
  · rw [lsS_cg (fun i hi => h i (by omega) (by omega)), e2]; exact hP.1.2.2.2.1 q hq
  · rw [e2] at hm
    rw [dcN_hi hW (by omega) e1 (h 7 (by omega) (by omega)) hh, RAll_s (h 4 (by omega) (by omega)) (h 5 (by omega) (by omega)) (h 6 (by omega) (by omega))]
    exact hP.1.2.2.2.2 m hm
/-- places less, sailings that are not open any more -/
theorem PS_less {s s' σ : Nat → Nat} (hP : PS s σ) (hB : RB s') (e1 : s' 1 = s 1) (h : ∀ i, (2 ≤ i ∧ i < 9) ∨ 969 ≤ i → s' i = s i) (hr : ∀ k w, k < 48 → 1 ≤ w → w < 8 → s' (9 + 8 * k + w) = s (9 + 8 * k + w)) (h5 : ∀ k, k < s 1 → recS s' k 5 ≠ 2 → recS s k 5 ≠ 2) (h0 : ∀ k, k < s 1 → recS s' k 5 = 0 → s' 0 ≤ recS s k 2) (hp : ∀ k m, k < 48 → m < 12 → recS s' k (20 + m) = 0 ∨ recS s' k (20 + m) = recS s k (20 + m)) (hc : ∀ k m, k < 48 → m < 12 → recS s' k 5 = 2 → recS s' k (20 + m) = 0) : PS s' σ := by
  have hW := hP.W
  have b1 := hW.n48
  have b2 := hW.m12
  have e2 := h 2 (by omega)
  have e3 := h 3 (by omega)
  have r1 : ∀ k, k < 48 → recS s' k 1 = recS s k 1 := fun k hk => hr k 1 hk (by omega) (by omega)
  have r2 : ∀ k, k < 48 → recS s' k 2 = recS s k 2 := fun k hk => hr k 2 hk (by omega) (by omega)
  have r3 : ∀ k, k < 48 → recS s' k 3 = recS s k 3 := fun k hk => by
    show s' (9 + 8 * k + 2) + s' (9 + 8 * k + 3) = s (9 + 8 * k + 2) + s (9 + 8 * k + 3)
    rw [hr k 2 hk (by omega) (by omega), hr k 3 hk (by omega) (by omega)]
  have er : ∀ k i, k < s 1 → 1 ≤ i → i ≤ 3 → recS s' k i = recS s k i := fun k i hk a b => by
    rcases (show i = 1 ∨ i = 2 ∨ i = 3 by omega) with rfl | rfl | rfl
    · exact r1 k (by omega)
    · exact r2 k (by omega)
    · exact r3 k (by omega)
  have hW' : W0 s' := by
    refine ⟨hB, fun k m hk hm c => ?_, fun k hk => ⟨?_, fun c => ?_⟩, fun k j hk hj hne x1 x2 x3 => ?_⟩
    · rw [e1, e2] at c
      rcases c with c | c | c
      · rcases hp k m hk hm with g | g
        · exact g
        · rw [g]; exact hW.2.1 k m hk hm (Or.inl c)
      · rcases hp k m hk hm with g | g
        · exact g
        · rw [g]; exact hW.2.1 k m hk hm (Or.inr (Or.inl c))
      · exact hc k m hk hm c
    · rw [e1] at hk
      rw [hr k 3 (by omega) (by omega) (by omega)]
      exact (hW.2.2.1 k hk).1
    · rw [e1] at hk
      rw [r2 k (by omega)]
      exact h0 k hk c
    · rw [e1] at hk hj
      rw [r2 k (by omega), r2 j (by omega), r3 k (by omega), r3 j (by omega)]
      rw [r1 k (by omega), r1 j (by omega)] at x3
      exact hW.2.2.2 k j hk hj hne (h5 k hk x1) (h5 j hj x2) x3
  refine ⟨⟨hW', fun k hk q hq => ?_, ⟨fun m a b => ?_, ?_⟩, fun q hq => ?_, fun m hm => ?_⟩, by rw [e1]; exact hP.2.1, by rw [e1]; exact Srt_rec hP (fun k hk => r2 k (by omega))⟩
  · rw [e1] at hk
    refine Nat.le_trans (tkM_less e2 (fun m hm => hp k m (by omega) (by omega))) ?_
    have : recS s' k (10 + q) = recS s k (10 + q) := by
      rw [recS_10 hq, recS_10 hq, hr k (4 + q) (by omega) (by omega) (by omega)]
    rw [this]
    exact hP.1.2.1 k hk q hq
  · rw [e2] at a
    rw [h _ (by omega), h _ (by omega)]
    exact hP.1.2.2.1.1 m a b
  · rw [e3, hP.1.2.2.1.2]
    exact sA_congr _ _ (fun m _ _ => (h _ (by omega)).symm)
  · rw [lsS_cg (fun i hi => h i (by omega)), e2]
    exact hP.1.2.2.2.1 q hq
  · rw [e2] at hm
    refine rem_R hW e1 (h 7 (by omega)) (h 4 (by omega)) (h 5 (by omega)) (h 6 (by omega)) er (fun k hk w => ?_) (hP.1.2.2.2.2 m hm)
    unfold hdB at w ⊢
    have w := of_decide_eq_true w
    rcases hp k m (by omega) (by omega) with g | g
    · exact absurd g w.1
    · exact decide_eq_true ⟨by rw [← g]; exact w.1, h5 k hk w.2⟩
/-- a place more -/
theorem PS_pl {s σ : Nat → Nat} {m k q : Nat} (hP : PS s σ) (hm : m < s 2) (hk : k < s 1) (hq : q < 4) (h : rsnM s m k q = 0) : PS (updN s (393 + 12 * k + m) (q + 1)) σ := by
  have hW := hP.W
  have b1 := hW.n48
  have b2 := hW.m12
  obtain ⟨x1, x2, x3, x4, x5, x6, x7⟩ := rsnM_0 h
  obtain ⟨s', hs'⟩ : ∃ s', s' = updN s (393 + 12 * k + m) (q + 1) := ⟨_, rfl⟩
  rw [← hs'] at x7 ⊢
  have hW' : W0 s' := by rw [hs']; exact W0_pl (v := q + 1) hW hk hm (by omega) (by rw [x1]; omega)
  have ep : ∀ k' m', m' < 12 → recS s' k' (20 + m') = if k' = k ∧ m' = m then q + 1 else recS s k' (20 + m') := fun k' m' hm' => by rw [hs']; exact rec_pl (by omega) hm'
  have er : ∀ k' i, k' < 48 → i < 20 → recS s' k' i = recS s k' i := fun k' i a b => by rw [hs']; exact rec_pl_lo (by omega) a (by omega) b
  have en : ∀ i, i < 393 ∨ 969 ≤ i → s' i = s i := fun i hi => by rw [hs']; exact updN_n (by omega)
  have e1 := en 1 (by omega)
  have e2 := en 2 (by omega)
  refine ⟨⟨hW', fun k' hk' p hp => ?_, ⟨fun m' a b => ?_, ?_⟩, fun p hp => ?_, fun m' hm' => ?_⟩, by rw [e1]; exact hP.2.1, by rw [e1]; exact Srt_rec hP (fun k' hk' => er k' 2 (by omega) (by omega))⟩
  · rw [e1] at hk'
    rw [er k' (10 + p) (by omega) (by omega)]
    by_cases c : k' = k
    · subst c
      have ch := cA_chg2 (p := fun m' => decide (recS s' k' (20 + m') = p + 1)) (q := fun m' => decide (recS s k' (20 + m') = p + 1)) (n := s 2) (k := 0) (i := m) (Nat.zero_le _) (by omega) (fun j _ hj hne => by
        try dsimp only
        rw [ep k' j (by omega), if_neg (fun c => hne c.2)])
      try dsimp only at ch
      rw [ep k' m (by omega), if_pos ⟨rfl, rfl⟩] at ch
      have f := hP.1.2.1 k' hk' p hp
      unfold tkM at f x3 ⊢
      rw [e2]
      by_cases g : q = p
      · subst g
        have : (decide (q + 1 = q + 1)).toNat = 1 := by rw [decide_eq_true rfl]; rfl
        omega
      · have : (decide (q + 1 = p + 1)).toNat = 0 := by rw [decide_eq_false (by omega)]; rfl
        omega
    · rw [tkM_cg e2 (fun m' hm' => by rw [ep k' m' (by omega), if_neg (fun w => c w.1)])]
      exact hP.1.2.1 k' hk' p hp
  · rw [e2] at a
    rw [en _ (by omega), en _ (by omega)]
    exact hP.1.2.2.1.1 m' a b
  · rw [en 3 (by omega), hP.1.2.2.1.2]
    exact sA_congr _ _ (fun j _ _ => (en _ (by omega)).symm)
  · rw [lsS_cg (fun i hi => en i (by omega)), e2]
    exact hP.1.2.2.2.1 p hp
  · rw [e2] at hm'
    by_cases c : m' = m
    · subst c
      exact (rsM_iff hW'.1.1 (dcN_ok hW'.1 m')).mp x7
    · rw [dcN_cg e1 (en 7 (by omega)) (fun k' i a _ _ => er k' i (by omega) (by omega)) (fun k' a => hdB_cg (by rw [ep k' m' (by omega), if_neg (fun w => c w.2)]) (er k' 5 (by omega) (by omega))), RAll_s (en 4 (by omega)) (en 5 (by omega)) (en 6 (by omega))]
      exact hP.1.2.2.2.2 m' hm'
/-- a setting changes -/
theorem PS_set {s s' σ : Nat → Nat} (hP : PS s σ) (hB : RB s') (h : ∀ i, ¬ (4 ≤ i ∧ i < 9) → s' i = s i) (hr : ∀ m, m < s 2 → rsM s' (dcN s' m) = true) : PS s' σ := by
  have hW := hP.W
  have b1 := hW.n48
  have b2 := hW.m12
  have e1 := h 1 (by omega)
  have e2 := h 2 (by omega)
  have hh : ∀ i, 9 ≤ i → i < 969 → s' i = s i := fun i a b => h i (by omega)
  have hW' := W0_cg hW hB (h 0 (by omega)) e1 e2 hh
  refine ⟨⟨hW', IVf_cg hW hP.1.2.1 e1 e2 hh, ⟨fun m a b => ?_, ?_⟩, fun q hq => ?_, fun m hm => ?_⟩, by rw [e1]; exact hP.2.1, by rw [e1]; exact Srt_rec hP (fun k hk => rec_hi hh (by omega) (by omega))⟩
  · rw [e2] at a
    rw [h _ (by omega), h _ (by omega)]
    exact hP.1.2.2.1.1 m a b
  · rw [h 3 (by omega), hP.1.2.2.1.2]
    exact sA_congr _ _ (fun m _ _ => (h _ (by omega)).symm)
  · rw [lsS_cg (fun i hi => h i (by omega)), e2]; exact hP.1.2.2.2.1 q hq
  · rw [e2] at hm
    exact (rsM_iff hW'.1.1 (dcN_ok hW'.1 m)).mp (hr m hm)
/-- the class's rows of sailings under rows that are alike -/
theorem UU_cg {s s' σ : Nat → Nat} {i : Nat} (e1 : s' 1 = s 1) (h : ∀ r, r < s 1 → recS s' (σ r) i = recS s (σ r) i) (r : Nat) : UU s' σ r i = UU s σ r i := by
  rcases Nat.lt_or_ge r (s 1) with c | c
  · rw [UU_lt c, UU_lt (s := s') (by omega), h r c]
  · rw [UU_ge c, UU_ge (s := s') (by omega)]
