/-! rests, by rank and by number; a place less, a place more -/
theorem arm_eq {s σ : Nat → Nat} (hW : W0 s) (hp : Prm σ (s 1)) {m : Nat} (hm : m < 12) : armB s (UU s σ) m = rsM s (dcN s m) := by
  have hO := dcN_ok hW.1 m
  have g := hW.1.1.2.2.2.1
  unfold armB
  rcases dut hW hp hm with h | ⟨h, -⟩
  · rw [rstB_bad h, Bool.eq_iff_iff, rsM_iff hW.1.1 hO]
    constructor
    · intro q; exact absurd q (by decide)
    · intro q
      obtain ⟨t, ht⟩ := h.2
      have := q.1 t
      omega
  · generalize dAll (UU s σ) (s 7) (selD (UU s σ) m none) = d at h ⊢
    have fr : ∀ i, d.2.2.1 ≤ i → fD (dcN s m) i = true := fun i hi => decide_eq_true (h.2.2.2.2 i hi)
    have e := rstB_iff (s := s) h (p := 1) (T := d.2.2.1) (fun t ht => by rw [cA_full 24 t (fun i a b => fr i (by omega))]; omega) (fun t ht => hasR_free (by omega) (fun i a b => fr i (by omega))) (fun t ht => by rw [cA_full 168 t (fun i a b => fr i (by omega))]; omega)
    rw [Bool.eq_iff_iff, rsM_iff hW.1.1 hO, e]
    exact ⟨fun q => ⟨h.2.1, q⟩, fun q => q.2⟩
theorem cA_le2 {f g : Nat → Bool} : ∀ (n k : Nat), (∀ i, k ≤ i → i < k + n → f i = true → g i = true) → cA f k n ≤ cA g k n
  | 0, _, _ => Nat.le_refl _
  | n + 1, k, h => by
    have ih := cA_le2 n (k + 1) (fun i a b => h i (by omega) (by omega))
    cases c : f k with
    | true => rw [cA_t c, cA_t (h k (by omega) (by omega) c)]; omega
    | false =>
      rw [cA_f c]
      show _ ≤ (g k).toNat + cA g (k + 1) n
      omega
theorem cA_uniq {p : Nat → Bool} : ∀ {n k i j : Nat}, cA p k n ≤ 1 → k ≤ i → i < k + n → k ≤ j → j < k + n → p i = true → p j = true → i = j
  | 0, _, _, _, _, _, _, _, _, _, _ => by omega
  | n + 1, k, i, j, h, a, b, c, d, hi, hj => by
    have h : (p k).toNat + cA p (k + 1) n ≤ 1 := h
    by_cases e : i = k
    · by_cases g : j = k
      · omega
      · subst e
        have q := cA_pos (p := p) (n := n) (k := i + 1) (i := j) (by omega) (by omega) hj
        rw [hi, Bool.toNat_true] at h
        omega
    · by_cases g : j = k
      · subst g
        have q := cA_pos (p := p) (n := n) (k := j + 1) (i := i) (by omega) (by omega) hi
        rw [hj, Bool.toNat_true] at h
        omega
      · exact cA_uniq (n := n) (k := k + 1) (by omega) (by omega) (by omega) (by omega) (by omega) hi hj
theorem hasR_cg {f g : Nat → Bool} {len t : Nat} (h : ∀ i, t ≤ i → i < t + 24 → f i = true → g i = true) (q : hasR f len t) : hasR g len t := by
  obtain ⟨p, a, b, c⟩ := q
  exact ⟨p, a, b, fun i x y => h i (by omega) (by omega) (c i x y)⟩
theorem RAll_mono {s : Nat → Nat} {f g : Nat → Bool} (h : ∀ i, f i = true → g i = true) (q : RAll s f) : RAll s g :=
  ⟨fun t => Nat.le_trans (q.1 t) (cA_le2 24 t (fun i _ _ => h i)), fun t => hasR_cg (fun i _ _ => h i) (q.2.1 t), fun t => Nat.le_trans (q.2.2 t) (cA_le2 168 t (fun i _ _ => h i))⟩
theorem RAll_s {s s' : Nat → Nat} {f : Nat → Bool} (h4 : s' 4 = s 4) (h5 : s' 5 = s 5) (h6 : s' 6 = s 6) : RAll s' f ↔ RAll s f := by
  unfold RAll; rw [h4, h5, h6]
theorem oA_congr {p q : Nat → Bool} : ∀ (n k : Nat), (∀ i, k ≤ i → i < k + n → p i = q i) → oA p k n = oA q k n
  | 0, _, _ => rfl
  | n + 1, k, h => by
    show (p k || oA p (k + 1) n) = (q k || oA q (k + 1) n)
    rw [h k (by omega) (by omega), oA_congr n (k + 1) (fun i a b => h i (by omega) (by omega))]
theorem bgN_ge {s : Nat → Nat} {m k : Nat} : recS s k 2 - 1 ≤ bgN s m k := by
  unfold bgN; split <;> omega
/-- duties of a member whose places are as they were -/
theorem dcN_cg {s s' : Nat → Nat} {m : Nat} (e1 : s' 1 = s 1) (e7 : s' 7 = s 7) (er : ∀ k i, k < s 1 → 1 ≤ i → i ≤ 3 → recS s' k i = recS s k i) (eh : ∀ k, k < s 1 → hdB s' m k = hdB s m k) : dcN s' m = dcN s m := by
  funext h
  unfold dcN
  rw [e1]
  refine cA_congr _ _ (fun k _ hk => ?_)
  have hk : k < s 1 := by omega
  have el : oA (lkB s' m k) 0 (s 1) = oA (lkB s m k) 0 (s 1) := oA_congr _ _ (fun j _ hj => by
    have hj : j < s 1 := by omega
    unfold lkB
    rw [eh j hj, er j 1 hj (by omega) (by omega), er k 1 hk (by omega) (by omega), er j 3 hj (by omega) (by omega), er k 2 hk (by omega) (by omega)])
  have eb : bgN s' m k = bgN s m k := by
    unfold bgN
    rw [e1, e7, el, er k 2 hk (by omega) (by omega)]
  unfold dcB
  rw [eh k hk, eb, er k 3 hk (by omega) (by omega)]
theorem hdB_cg {s s' : Nat → Nat} {m k : Nat} (h : recS s' k (20 + m) = recS s k (20 + m)) (g : recS s' k 5 = recS s k 5) : hdB s' m k = hdB s m k := by
  unfold hdB; rw [h, g]
theorem dcB_iff {s : Nat → Nat} {m h k : Nat} : dcB s m h k = true ↔ hdB s m k = true ∧ bgN s m k ≤ h ∧ h < recS s k 3 := by
  unfold dcB
  rw [Bool.and_eq_true, decide_eq_true_iff]
theorem rec_3 {s : Nat → Nat} (hW : W0 s) {k : Nat} (hk : k < s 1) : recS s k 2 < recS s k 3 := by
  have := (hW.2.2.1 k hk).1
  show s (9 + 8 * k + 2) < s (9 + 8 * k + 2) + s (9 + 8 * k + 3)
  omega
/-- places less: no hour of duty that was none -/
theorem rem_key {s s' : Nat → Nat} {m : Nat} (hW : W0 s) (e1 : s' 1 = s 1) (e7 : s' 7 = s 7) (er : ∀ k i, k < s 1 → 1 ≤ i → i ≤ 3 → recS s' k i = recS s k i) (eh : ∀ k, k < s 1 → hdB s' m k = true → hdB s m k = true) {h k : Nat} (hk : k < s 1) (hd : dcB s' m h k = true) : dcB s m h k = true ∨ (recS s k 2 = h + 1 ∧ ∃ j, j < s 1 ∧ dcB s m h j = true ∧ hdB s' m j = false) := by
  obtain ⟨a, b, c⟩ := dcB_iff.mp hd
  rw [er k 3 hk (by omega) (by omega)] at c
  have hle := bgN_le (s := s) (m := m) (k := k)
  by_cases q : bgN s m k ≤ h
  · exact Or.inl (dcB_iff.mpr ⟨eh k hk a, q, c⟩)
  · right
    have e2 := er k 2 hk (by omega) (by omega)
    have hge := bgN_ge (s := s') (m := m) (k := k)
    rw [e2] at hge
    have hst : recS s k 2 = h + 1 := by omega
    refine ⟨hst, ?_⟩
    have n' : ¬ (s 7 = 0 ∨ recS s k 2 = 0 ∨ oA (lkB s' m k) 0 (s 1) = true) := fun w => by
      unfold bgN at b
      rw [e7, e2, e1, if_pos w] at b
      omega
    have w : oA (lkB s m k) 0 (s 1) = true := by
      by_cases w : oA (lkB s m k) 0 (s 1) = true
      · exact w
      · exfalso
        unfold bgN at q
        rw [if_neg (fun v => by
          rcases v with v | v | v
          · exact n' (Or.inl v)
          · exact n' (Or.inr (Or.inl v))
          · exact w v)] at q
        omega
    obtain ⟨j, -, hj, g⟩ := oA_iff.mp w
    have hj : j < s 1 := by omega
    have g := g
    unfold lkB at g
    rw [Bool.and_eq_true, decide_eq_true_iff] at g
    have h3 := rec_3 hW hj
    have hlj := bgN_le (s := s) (m := m) (k := j)
    refine ⟨j, hj, dcB_iff.mpr ⟨g.1, by omega, by omega⟩, ?_⟩
    cases v : hdB s' m j with
    | false => rfl
    | true =>
      exfalso
      refine n' (Or.inr (Or.inr (oA_iff.mpr ⟨j, Nat.zero_le _, by omega, ?_⟩)))
      unfold lkB
      rw [v, er j 1 hj (by omega) (by omega), er k 1 hk (by omega) (by omega), er j 3 hj (by omega) (by omega), e2, decide_eq_true g.2]
      rfl
theorem rem_ok {s s' : Nat → Nat} {m : Nat} (hW : W0 s) (e1 : s' 1 = s 1) (e7 : s' 7 = s 7) (er : ∀ k i, k < s 1 → 1 ≤ i → i ≤ 3 → recS s' k i = recS s k i) (eh : ∀ k, k < s 1 → hdB s' m k = true → hdB s m k = true) (hD : ∀ h, dcN s m h ≤ 1) : (∀ h, dcN s' m h ≤ 1) ∧ ∀ h, dcN s m h = 0 → dcN s' m h = 0 := by
  refine ⟨fun h => ?_, fun h h0 => ?_⟩
  · unfold dcN
    rw [e1]
    refine cA_le1 _ _ (fun i j _ hi _ hj a b => ?_)
    have hi : i < s 1 := by omega
    have hj : j < s 1 := by omega
    rcases rem_key hW e1 e7 er eh hi a with p | ⟨p1, l, hl, p2, p3⟩
    · rcases rem_key hW e1 e7 er eh hj b with q | ⟨q1, l, hl, q2, q3⟩
      · exact cA_uniq (hD h) (Nat.zero_le _) (by omega) (Nat.zero_le _) (by omega) p q
      · have e := cA_uniq (hD h) (Nat.zero_le _) (by omega) (Nat.zero_le _) (by omega) p q2
        subst e
        rw [(dcB_iff.mp a).1] at q3
        exact absurd q3 (by decide)
    · rcases rem_key hW e1 e7 er eh hj b with q | ⟨q1, l', hl', q2, q3⟩
      · have e := cA_uniq (hD h) (Nat.zero_le _) (by omega) (Nat.zero_le _) (by omega) q p2
        subst e
        rw [(dcB_iff.mp b).1] at p3
        exact absurd p3 (by decide)
      · have a1 := eh i hi (dcB_iff.mp a).1
        have b1 := eh j hj (dcB_iff.mp b).1
        have x1 := bgN_le (s := s) (m := m) (k := i)
        have x2 := bgN_le (s := s) (m := m) (k := j)
        have y1 := rec_3 hW hi
        have y2 := rec_3 hW hj
        exact cA_uniq (hD (h + 1)) (Nat.zero_le _) (by omega) (Nat.zero_le _) (by omega) (dcB_iff.mpr ⟨a1, by omega, by omega⟩) (dcB_iff.mpr ⟨b1, by omega, by omega⟩)
  · rcases Nat.eq_zero_or_pos (dcN s' m h) with w | w
    · exact w
    · exfalso
      unfold dcN at w
      rw [e1] at w
      obtain ⟨k, -, hk, a⟩ := cA_ex w
      have hk : k < s 1 := by omega
      rcases rem_key hW e1 e7 er eh hk a with p | ⟨-, l, hl, p2, -⟩
      · have := cA_pos (p := dcB s m h) (n := s 1) (k := 0) (i := k) (Nat.zero_le _) (by omega) p
        unfold dcN at h0
        omega
      · have := cA_pos (p := dcB s m h) (n := s 1) (k := 0) (i := l) (Nat.zero_le _) (by omega) p2
        unfold dcN at h0
        omega
/-- the rests of a member that has places less -/
theorem rem_R {s s' : Nat → Nat} {m : Nat} (hW : W0 s) (e1 : s' 1 = s 1) (e7 : s' 7 = s 7) (e4 : s' 4 = s 4) (e5 : s' 5 = s 5) (e6 : s' 6 = s 6) (er : ∀ k i, k < s 1 → 1 ≤ i → i ≤ 3 → recS s' k i = recS s k i) (eh : ∀ k, k < s 1 → hdB s' m k = true → hdB s m k = true) (hD : (∀ h, dcN s m h ≤ 1) ∧ RAll s (fD (dcN s m))) : (∀ h, dcN s' m h ≤ 1) ∧ RAll s' (fD (dcN s' m)) := by
  obtain ⟨a, b⟩ := rem_ok hW e1 e7 er eh hD.1
  refine ⟨a, (RAll_s e4 e5 e6).mpr (RAll_mono (fun i hi => ?_) hD.2)⟩
  exact decide_eq_true (b i (of_decide_eq_true hi))
/-- a place more -/
theorem W0_pl {s : Nat → Nat} {k m v : Nat} (hW : W0 s) (hk : k < s 1) (hm : m < s 2) (hv : v ≤ 4) (h2 : recS s k 5 ≠ 2) : W0 (updN s (393 + 12 * k + m) v) := by
  have b1 := hW.n48
  have b2 := hW.m12
  have e1 : updN s (393 + 12 * k + m) v 1 = s 1 := updN_n (by omega)
  have e2 : updN s (393 + 12 * k + m) v 2 = s 2 := updN_n (by omega)
  have e0 : updN s (393 + 12 * k + m) v 0 = s 0 := updN_n (by omega)
  have er : ∀ k' i, k' < 48 → i < 20 → recS (updN s (393 + 12 * k + m) v) k' i = recS s k' i := fun k' i a b => rec_pl_lo (by omega) a (by omega) b
  refine ⟨hW.1.pl (by omega) (by omega) hv, fun k' m' hk' hm' h => ?_, fun k' hk' => ⟨?_, fun h => ?_⟩, fun k' j hk' hj hne => ?_⟩
  · rw [rec_pl (by omega) hm']
    rw [e1, e2, er k' 5 hk' (by omega)] at h
    rw [if_neg (fun c => by
      obtain ⟨rfl, rfl⟩ := c
      rcases h with h | h | h
      · omega
      · omega
      · exact h2 h)]
    exact hW.2.1 k' m' hk' hm' h
  · rw [e1] at hk'
    rw [updN_n (by omega)]
    exact (hW.2.2.1 k' hk').1
  · rw [e1] at hk'
    rw [er k' 5 (by omega) (by omega)] at h
    rw [e0, er k' 2 (by omega) (by omega)]
    exact (hW.2.2.1 k' hk').2 h
  · rw [e1] at hk' hj
    rw [er k' 5 (by omega) (by omega), er j 5 (by omega) (by omega), er k' 1 (by omega) (by omega), er j 1 (by omega) (by omega), er k' 2 (by omega) (by omega), er j 2 (by omega) (by omega), er k' 3 (by omega) (by omega), er j 3 (by omega) (by omega)]
    exact hW.2.2.2 k' j hk' hj hne
theorem add_out {s : Nat → Nat} {m k0 q h : Nat} (hW : W0 s) (hm : m < 12) (hk0 : k0 < s 1) (h0 : recS s k0 (20 + m) = 0) (ho : h + 1 < recS s k0 2 ∨ recS s k0 3 ≤ h) : dcN (updN s (393 + 12 * k0 + m) (q + 1)) m h = dcN s m h := by
  have b1 := hW.n48
  obtain ⟨s', hs'⟩ : ∃ s', s' = updN s (393 + 12 * k0 + m) (q + 1) := ⟨_, rfl⟩
  have e1 : s' 1 = s 1 := by rw [hs']; exact updN_n (by omega)
  have e7 : s' 7 = s 7 := by rw [hs']; exact updN_n (by omega)
  have er : ∀ k i, k < 48 → i < 20 → recS s' k i = recS s k i := fun k i a b => by rw [hs']; exact rec_pl_lo (by omega) a hm b
  have ep : ∀ k, recS s' k (20 + m) = if k = k0 ∧ m = m then q + 1 else recS s k (20 + m) := fun k => by rw [hs']; exact rec_pl hm hm
  rw [← hs']
  have hd : ∀ k, k < s 1 → k ≠ k0 → hdB s' m k = hdB s m k := fun k hk hne => hdB_cg (by rw [ep, if_neg (fun c => hne c.1)]) (er k 5 (by omega) (by omega))
  have h3 := rec_3 hW hk0
  unfold dcN
  rw [e1]
  refine cA_congr _ _ (fun k _ hk => ?_)
  have hk : k < s 1 := by omega
  have hge := bgN_ge (s := s') (m := m) (k := k)
  rw [er k 2 (by omega) (by omega)] at hge
  by_cases c : k = k0
  · subst c
    unfold dcB
    have f1 : hdB s m k = false := by unfold hdB; rw [h0]; simp
    rw [f1, Bool.false_and, er k 3 (by omega) (by omega), decide_eq_false (by omega), Bool.and_false]
  · unfold dcB
    rw [hd k hk c, er k 3 (by omega) (by omega)]
    congr 1
    have hl : ∀ j, j < s 1 → j ≠ k0 → lkB s' m k j = lkB s m k j := fun j hj hne => by
      unfold lkB
      rw [hd j hj hne, er j 1 (by omega) (by omega), er k 1 (by omega) (by omega), er j 3 (by omega) (by omega), er k 2 (by omega) (by omega)]
    have f0 : lkB s m k k0 = false := by
      have f1 : hdB s m k0 = false := by unfold hdB; rw [h0]; simp
      unfold lkB; rw [f1]; rfl
    cases v : lkB s' m k k0 with
    | true =>
      have v' := v
      unfold lkB at v'
      rw [Bool.and_eq_true, decide_eq_true_iff, er k0 3 (by omega) (by omega), er k 2 (by omega) (by omega)] at v'
      have g1 : bgN s' m k = recS s k 2 := by
        unfold bgN
        rw [if_pos (Or.inr (Or.inr (oA_iff.mpr ⟨k0, Nat.zero_le _, by omega, v⟩))), er k 2 (by omega) (by omega)]
      have g2 := bgN_ge (s := s) (m := m) (k := k)
      have g3 := bgN_le (s := s) (m := m) (k := k)
      rw [g1]
      refine decide_eq_decide.mpr ⟨fun w => ⟨by omega, w.2⟩, fun w => ⟨?_, w.2⟩⟩
      have := v'.2.2
      omega
    | false =>
      have g1 : oA (lkB s' m k) 0 (s 1) = oA (lkB s m k) 0 (s 1) := oA_congr _ _ (fun j _ hj => by
        by_cases e : j = k0
        · rw [e, v, f0]
        · exact hl j (by omega) e)
      have g2 : bgN s' m k = bgN s m k := by
        unfold bgN
        rw [e1, e7, g1, er k 2 (by omega) (by omega)]
      rw [g2]
/-- the class's check behind one more place is the reference's -/
theorem rst_add {s σ : Nat → Nat} {m r q : Nat} (hP : PS s σ) (hm : m < s 2) (hr : r < s 1) (hq : q < 4) (h5 : recS s (σ r) 5 = 0) (h0 : recS s (σ r) (20 + m) = 0) : rstB (dAll (UU s σ) (s 7) (selD (UU s σ) m (some r))) s (recS s (σ r) 2) (recS s (σ r) 3) = rsM (updN s (393 + 12 * σ r + m) (q + 1)) (dcN (updN s (393 + 12 * σ r + m) (q + 1)) m) := by
  have hW := hP.W
  have b1 := hW.n48
  have b2 := hW.m12
  have hk : σ r < s 1 := hP.2.1.1 r hr
  obtain ⟨s', hs'⟩ : ∃ s', s' = updN s (393 + 12 * σ r + m) (q + 1) := ⟨_, rfl⟩
  have ao : ∀ h, (h + 1 < recS s (σ r) 2 ∨ recS s (σ r) 3 ≤ h) → dcN s' m h = dcN s m h := fun h ho => by rw [hs']; exact add_out hW (by omega) hk h0 ho
  have hW' : W0 s' := by rw [hs']; exact W0_pl (v := q + 1) hW hk hm (by omega) (by rw [h5]; omega)
  have ep : ∀ k, recS s' k (20 + m) = if k = σ r ∧ m = m then q + 1 else recS s k (20 + m) := fun k => by rw [hs']; exact rec_pl (by omega) (by omega)
  have er : ∀ k i, k < 48 → i < 20 → recS s' k i = recS s k i := fun k i a b => by rw [hs']; exact rec_pl_lo (by omega) a (by omega) b
  have e1 : s' 1 = s 1 := by rw [hs']; exact updN_n (by omega)
  have e4 : s' 4 = s 4 := by rw [hs']; exact updN_n (by omega)
  have e5 : s' 5 = s 5 := by rw [hs']; exact updN_n (by omega)
  have e6 : s' 6 = s 6 := by rw [hs']; exact updN_n (by omega)
  have e7 : s' 7 = s 7 := by rw [hs']; exact updN_n (by omega)
  rw [← hs']
  have hp' : Prm σ (s' 1) := by rw [e1]; exact hP.2.1
  have e : dAll (UU s σ) (s 7) (selD (UU s σ) m (some r)) = dAll (UU s' σ) (s' 7) (selD (UU s' σ) m none) := by
    rw [e7]
    refine dAll_cg (fun r' hr' => ?_) (fun r' i hr' a b => ?_)
    · unfold selD
      by_cases c : r' = r
      · subst c
        rw [decide_eq_true rfl, Bool.true_or, UU_lt (s := s') (by omega), ep, if_pos ⟨rfl, rfl⟩]
        simp
      · have d : decide (some r = some r') = false := decide_eq_false (fun w => c (Option.some.inj w).symm)
        have d2 : decide ((none : Option Nat) = some r') = false := rfl
        rw [d, d2]
        rcases Nat.lt_or_ge r' (s 1) with g | g
        · rw [UU_lt g, UU_lt (s := s') (by omega), ep, if_neg (fun w => c (hP.2.1.2 r' r g hr w.1))]
        · rw [UU_ge g, UU_ge (s := s') (by omega)]
    · rcases Nat.lt_or_ge r' (s 1) with g | g
      · have := hP.2.1.1 r' g
        rw [UU_lt g, UU_lt (s := s') (by omega), er _ _ (by omega) (by omega)]
      · rw [UU_ge g, UU_ge (s := s') (by omega)]
  have hO := dcN_ok hW'.1 m
  rw [e]
  rcases dut hW' hp' (show m < 12 by omega) with h | ⟨h, -⟩
  · rw [rstB_bad h, Bool.eq_iff_iff, rsM_iff hW'.1.1 hO]
    constructor
    · intro w; exact absurd w (by decide)
    · intro w
      obtain ⟨t, ht⟩ := h.2
      have := w.1 t
      omega
  · have hR := (hP.1.2.2.2.2 m hm).2
    have fe : ∀ i, (i + 1 < recS s (σ r) 2 ∨ recS s (σ r) 3 ≤ i) → fD (dcN s' m) i = fD (dcN s m) i := fun i hi => by
      unfold fD; rw [ao i hi]
    have i := rstB_iff (s := s) h (p := recS s (σ r) 2) (T := recS s (σ r) 3) (fun t ht => by
      rw [cA_congr 24 t (fun i a b => fe i (by omega))]; exact hR.1 t) (fun t ht => hasR_cg (fun i a b w => by rw [fe i (by omega)]; exact w) (hR.2.1 t)) (fun t ht => by
      rw [cA_congr 168 t (fun i a b => fe i (by omega))]; exact hR.2.2 t)
    rw [Bool.eq_iff_iff, rsM_iff hW'.1.1 hO, i, RAll_s e4 e5 e6]
    exact ⟨fun w => ⟨h.2.1, w⟩, fun w => w.2⟩
/-- why not: by rank, by number -/
theorem rsn_eq {s σ : Nat → Nat} {m r q : Nat} (hP : PS s σ) (hm : m < s 2) (hr : r < s 1) (hq : q < 4) : rsn s (UU s σ) m r q = rsnM s m (σ r) q := by
  have hW := hP.W
  have b1 := hW.n48
  have hk : σ r < s 1 := hP.2.1.1 r hr
  unfold rsn rsnM
  rw [UU_lt hr, tkR_M hW (by omega)]
  by_cases c1 : recS s (σ r) 5 ≠ 0 ∨ recS s (σ r) 2 < s 0
  · rw [if_pos c1, if_pos c1]
  · rw [if_neg c1, if_neg c1]
    by_cases c2 : recS s (σ r) (10 + q) ≤ tkM s (σ r) q
    · rw [if_pos c2, if_pos c2]
    · rw [if_neg c2, if_neg c2]
      by_cases c3 : s (969 + 6 * m + q) < recS s (σ r) 3
      · rw [if_pos c3, if_pos c3]
      · rw [if_neg c3, if_neg c3]
        by_cases c4 : recS s (σ r) 2 < s (969 + 6 * m + 4)
        · rw [if_pos c4, if_pos (show s 0 < s (969 + 6 * m + 4) ∧ recS s (σ r) 2 < s (969 + 6 * m + 4) by omega)]
        · rw [if_neg c4, if_neg (fun w : s 0 < s (969 + 6 * m + 4) ∧ recS s (σ r) 2 < s (969 + 6 * m + 4) => c4 w.2)]
          by_cases c5 : recS s (σ r) (20 + m) ≠ 0
          · rw [if_pos c5, if_pos c5]
          · rw [if_neg c5, if_neg c5, rst_add hP hm hr hq (by omega) (by omega)]
