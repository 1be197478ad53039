/-! sailings called off, sailings that depart, by rank and by number -/
theorem clrM_in {s : Nat → Nat} {k m : Nat} (hm : m < 12) : clrM s k 12 (393 + 12 * k + m) = 0 := by
  unfold clrM; rw [if_pos (by omega)]
theorem clrM_out {s : Nat → Nat} {k i : Nat} (h : i < 393 + 12 * k ∨ 393 + 12 * k + 12 ≤ i) : clrM s k 12 i = s i := by
  unfold clrM; rw [if_neg (by omega)]
theorem rec_mid {s : Nat → Nat} {k i : Nat} (h : (5 < i ∧ i < 10) ∨ (13 < i ∧ i < 20)) : recS s k i = 0 := by
  rcases (show i = 6 ∨ i = 7 ∨ i = 8 ∨ i = 9 ∨ 14 ≤ i by omega) with rfl | rfl | rfl | rfl | c
  · rfl
  · rfl
  · rfl
  · rfl
  · obtain ⟨j, rfl⟩ : ∃ j, i = j + 14 := ⟨i - 14, by omega⟩
    show (if 20 ≤ j + 14 ∧ j + 14 < 32 then _ else 0) = 0
    rw [if_neg (by omega)]
/-- a record whose numbers other than the state are as they were -/
theorem rec_5 {s s' : Nat → Nat} {k i : Nat} (h : ∀ w, 1 ≤ w → w < 8 → s' (9 + 8 * k + w) = s (9 + 8 * k + w)) (hi : i < 20) (h5 : i ≠ 5) : recS s' k i = recS s k i := by
  have h1 := h 1 (by omega) (by omega)
  have h2 := h 2 (by omega) (by omega)
  have h3 := h 3 (by omega) (by omega)
  have h4 := h 4 (by omega) (by omega)
  have h5' := h 5 (by omega) (by omega)
  have h6 := h 6 (by omega) (by omega)
  have h7 := h 7 (by omega) (by omega)
  rcases (show i = 0 ∨ i = 1 ∨ i = 2 ∨ i = 3 ∨ i = 4 ∨ i = 10 ∨ i = 11 ∨ i = 12 ∨ i = 13 ∨ ((5 < i ∧ i < 10) ∨ (13 < i ∧ i < 20)) by omega) with rfl | rfl | rfl | rfl | rfl | rfl | rfl | rfl | rfl | c
  · rfl
  · exact h1
  · exact h2
  · show s' (9 + 8 * k + 2) + s' (9 + 8 * k + 3) = s (9 + 8 * k + 2) + s (9 + 8 * k + 3)
    rw [h2, h3]
  · show 1000 * s' (9 + 8 * k + 4) + 100 * s' (9 + 8 * k + 5) + 10 * s' (9 + 8 * k + 6) + s' (9 + 8 * k + 7) = 1000 * s (9 + 8 * k + 4) + 100 * s (9 + 8 * k + 5) + 10 * s (9 + 8 * k + 6) + s (9 + 8 * k + 7)
    rw [h4, h5', h6, h7]
  · exact h4
  · exact h5'
  · exact h6
  · exact h7
  · rw [rec_mid c, rec_mid c]
theorem hr_of {s s' : Nat → Nat} {k : Nat} (h : ∀ i, i < 20 → i ≠ 5 → recS s' k i = recS s k i) {w : Nat} (h1 : 1 ≤ w) (h8 : w < 8) : s' (9 + 8 * k + w) = s (9 + 8 * k + w) := by
  rcases (show w = 1 ∨ w = 2 ∨ w = 3 ∨ w = 4 ∨ w = 5 ∨ w = 6 ∨ w = 7 by omega) with rfl | rfl | rfl | rfl | rfl | rfl | rfl
  · exact h 1 (by omega) (by omega)
  · exact h 2 (by omega) (by omega)
  · have a : s' (9 + 8 * k + 2) = s (9 + 8 * k + 2) := h 2 (by omega) (by omega)
    have b : s' (9 + 8 * k + 2) + s' (9 + 8 * k + 3) = s (9 + 8 * k + 2) + s (9 + 8 * k + 3) := h 3 (by omega) (by omega)
    omega
  · exact h 10 (by omega) (by omega)
  · exact h 11 (by omega) (by omega)
  · exact h 12 (by omega) (by omega)
  · exact h 13 (by omega) (by omega)
theorem rec_off {s : Nat → Nat} {k k' i : Nat} (hk : k < 48) (hk' : k' < 48) (hi : i < 32) : recS (clrM (updN s (9 + 8 * k + 0) 2) k 12) k' i = if k' = k then offN (recS s k) i else recS s k' i := by
  have en : ∀ w, 1 ≤ w → w < 8 → clrM (updN s (9 + 8 * k + 0) 2) k 12 (9 + 8 * k' + w) = s (9 + 8 * k' + w) := fun w _ _ => by
    rw [clrM_out (by omega), updN_n (by omega)]
  by_cases c : k' = k
  · subst c
    rw [if_pos rfl]
    unfold offN
    by_cases d : i = 5
    · subst d
      rw [if_pos rfl]
      show clrM (updN s (9 + 8 * k' + 0) 2) k' 12 (9 + 8 * k' + 0) = 2
      rw [clrM_out (by omega), updN_s]
    · rw [if_neg d]
      by_cases e : 20 ≤ i ∧ i < 32
      · obtain ⟨m, rfl⟩ : ∃ m, i = 20 + m := ⟨i - 20, by omega⟩
        rw [if_pos e, recS_20 (by omega), clrM_in (by omega)]
      · rw [if_neg e, rec_5 en (by omega) d]
  · rw [if_neg c]
    by_cases e : i < 20
    · refine rec_lo (fun w hw => ?_) e
      rw [clrM_out (by omega), updN_n (by omega)]
    · obtain ⟨m, rfl⟩ : ∃ m, i = 20 + m := ⟨i - 20, by omega⟩
      rw [recS_20 (by omega), recS_20 (by omega), clrM_out (by omega), updN_n (by omega)]
theorem off_5 {u : Nat → Nat} : offN u 5 = 2 := rfl
theorem off_20 {u : Nat → Nat} {m : Nat} (hm : m < 12) : offN u (20 + m) = 0 := by
  unfold offN; rw [if_neg (by omega), if_pos (by omega)]
theorem off_lo {u : Nat → Nat} {i : Nat} (hi : i < 20) (h5 : i ≠ 5) : offN u i = u i := by
  unfold offN; rw [if_neg h5, if_neg (by omega)]
theorem dep_lo {u : Nat → Nat} {i : Nat} (hi : i < 20) (h5 : i ≠ 5) : depN u i = u i := by
  unfold depN; split
  · exact updN_n h5
  · exact off_lo hi h5
theorem dep_20 {u : Nat → Nat} {m : Nat} (hm : m < 12) : depN u (20 + m) = 0 ∨ depN u (20 + m) = u (20 + m) := by
  unfold depN; split
  · exact Or.inr (updN_n (by omega))
  · exact Or.inl (off_20 hm)
theorem dep_5 {u : Nat → Nat} : depN u 5 ≠ 0 := by
  unfold depN; split
  · rw [updN_s]; omega
  · rw [off_5]; omega
theorem dep_c {u : Nat → Nat} {m : Nat} (hm : m < 12) (h : depN u 5 = 2) : depN u (20 + m) = 0 := by
  unfold depN at h ⊢
  split at h
  · rw [updN_s] at h; omega
  · rename_i c; rw [if_neg c]; exact off_20 hm
theorem dep_cg {u v : Nat → Nat} (h : ∀ i, i < 32 → u i = v i) {i : Nat} (hi : i < 32) : depN u i = depN v i := by
  unfold depN ned
  rw [tkU_cg (fun m hm => h (20 + m) (by omega)), h 10 (by omega), h 11 (by omega), h 12 (by omega), h 13 (by omega)]
  split
  · by_cases c : i = 5
    · subst c; rw [updN_s, updN_s]
    · rw [updN_n c, updN_n c, h i hi]
  · unfold offN
    rw [h i hi]
theorem off_ok {s σ : Nat → Nat} {r : Nat} (hP : PS s σ) (hr : r < s 1) (h5 : recS s (σ r) 5 = 0) : PS (clrM (updN s (9 + 8 * σ r + 0) 2) (σ r) 12) σ ∧ EqH s (clrM (updN s (9 + 8 * σ r + 0) 2) (σ r) 12) ∧ EqU (setU (UU s σ) r (offN (UU s σ r))) (UU (clrM (updN s (9 + 8 * σ r + 0) 2) (σ r) 12) σ) ∧ ∀ q, q < 4 → lsS s q = lsS (clrM (updN s (9 + 8 * σ r + 0) 2) (σ r) 12) q := by
  have b1 := hP.W.n48
  have hk := hP.2.1.1 r hr
  obtain ⟨s', hs'⟩ : ∃ s', s' = clrM (updN s (9 + 8 * σ r + 0) 2) (σ r) 12 := ⟨_, rfl⟩
  have er : ∀ k i, k < 48 → i < 32 → recS s' k i = if k = σ r then offN (recS s (σ r)) i else recS s k i := fun k i a b => by rw [hs']; exact rec_off (by omega) a b
  have en : ∀ i, i < 9 ∨ 969 ≤ i → s' i = s i := fun i hi => by rw [hs', clrM_out (by omega), updN_n (by omega)]
  have B' : RB s' := by rw [hs']; exact (hP.B.stt (by omega) (by omega)).clr (by omega) 12 (Nat.le_refl _)
  rw [← hs']
  have e1 := en 1 (by omega)
  have e0 := en 0 (by omega)
  refine ⟨PS_less hP B' e1 (fun i hi => en i (by omega)) (fun k w hk a b => hr_of (fun i x y => ?_) a b) (fun k hk => ?_) (fun k hk => ?_) (fun k m hk hm => ?_) (fun k m hk hm => ?_), fun i hi => (en i (by omega)).symm, fun r' i hr' hi => ?_, fun q hq => (lsS_cg (fun i hi => en i (by omega)) q).symm⟩
  · rw [er k i hk (by omega)]
    split
    · rename_i c; rw [c]; exact off_lo x y
    · rfl
  · rw [er k 5 (by omega) (by omega)]
    split
    · intro h; exact absurd off_5 h
    · exact id
  · rw [er k 5 (by omega) (by omega)]
    split
    · intro h; rw [off_5] at h; omega
    · rw [e0]; exact (hP.W.2.2.1 k hk).2
  · rw [er k (20 + m) hk (by omega)]
    split
    · exact Or.inl (off_20 hm)
    · exact Or.inr rfl
  · rw [er k 5 hk (by omega), er k (20 + m) hk (by omega)]
    split
    · intro _; exact off_20 hm
    · intro h; exact hP.W.2.1 k m hk hm (Or.inr (Or.inr h))
  · rcases Nat.lt_or_ge r' (s 1) with c | c
    · have hk' := hP.2.1.1 r' c
      rw [UU_lt (s := s') (by omega), er _ i (by omega) (by omega)]
      by_cases e : r' = r
      · subst e
        rw [setU_s, if_pos rfl, UU_lt c]
      · rw [setU_n e, if_neg (fun w => e (hP.2.1.2 r' r c hr w)), UU_lt c]
    · rw [UU_ge (s := s') (by omega), setU_n (by omega), UU_ge c]
theorem rec_dep {s : Nat → Nat} {k k' i : Nat} (hk : k < 48) (hk' : k' < 48) (hi : i < 32) (ht : tkU (recS s k) = tkO s k) : recS (depM s k) k' i = if k' = k then depN (recS s k) i else recS s k' i := by
  unfold depM depN
  rw [ht]
  by_cases c : ned (recS s k) = tkO s k
  · rw [if_pos c, if_pos c]
    by_cases d : k' = k
    · subst d
      rw [if_pos rfl]
      by_cases e : i = 5
      · subst e
        rw [updN_s]
        show updN s (9 + 8 * k' + 0) 1 (9 + 8 * k' + 0) = 1
        rw [updN_s]
      · rw [updN_n e]
        by_cases g : i < 20
        · exact rec_5 (fun w a b => updN_n (by omega)) g e
        · obtain ⟨m, rfl⟩ : ∃ m, i = 20 + m := ⟨i - 20, by omega⟩
          rw [recS_20 (by omega), recS_20 (by omega), updN_n (by omega)]
    · rw [if_neg d]
      by_cases g : i < 20
      · exact rec_lo (fun w hw => updN_n (by omega)) g
      · obtain ⟨m, rfl⟩ : ∃ m, i = 20 + m := ⟨i - 20, by omega⟩
        rw [recS_20 (by omega), recS_20 (by omega), updN_n (by omega)]
  · rw [if_neg c, if_neg c]
    exact rec_off hk hk' hi
theorem tkO_cg {s s' : Nat → Nat} {k : Nat} (e2 : s' 2 = s 2) (h : ∀ m, m < s 2 → recS s' k (20 + m) = recS s k (20 + m)) : tkO s' k = tkO s k := by
  unfold tkO
  rw [tkM_cg e2 h, tkM_cg e2 h, tkM_cg e2 h, tkM_cg e2 h]
theorem rec_phL : ∀ (n j : Nat) (s : Nat → Nat), j + n ≤ 48 → s 2 ≤ 12 → (∀ k, j ≤ k → k < 48 → tkU (recS s k) = tkO s k) → ∀ k' i, k' < 48 → i < 32 → recS (phL j n s) k' i = if (j ≤ k' ∧ k' < j + n) ∧ phB s k' = true then depN (recS s k') i else recS s k' i
  | 0, j, s, _, _, _, k', i, _, _ => by rw [if_neg (by omega)]; rfl
  | n + 1, j, s, hn, h2, ht, k', i, hk', hi => by
    show recS (phL (j + 1) n (match phB s j with | true => depM s j | false => s)) k' i = _
    cases c : phB s j with
    | false =>
      show recS (phL (j + 1) n s) k' i = _
      rw [rec_phL n (j + 1) s (by omega) h2 (fun k a b => ht k (by omega) b) k' i hk' hi]
      by_cases d : (j + 1 ≤ k' ∧ k' < j + 1 + n) ∧ phB s k' = true
      · rw [if_pos d, if_pos ⟨by omega, d.2⟩]
      · rw [if_neg d, if_neg (fun w => by
          by_cases e : k' = j
          · rw [e, c] at w; cases w.2
          · exact d ⟨by omega, w.2⟩)]
    | true =>
      show recS (phL (j + 1) n (depM s j)) k' i = _
      have e2 : depM s j 2 = s 2 := depM_1 (by omega) (by omega)
      have e0 : depM s j 0 = s 0 := depM_1 (by omega) (by omega)
      have er : ∀ k i, k < 48 → i < 32 → k ≠ j → recS (depM s j) k i = recS s k i := fun k i a b hne => by rw [rec_dep (by omega) a b (ht j (Nat.le_refl _) (by omega)), if_neg hne]
      rw [rec_phL n (j + 1) (depM s j) (by omega) (by omega) (fun k a b => by
        rw [tkU_cg (v := recS s k) (fun m hm => er k (20 + m) b (by omega) (by omega)), tkO_cg e2 (fun m hm => er k (20 + m) b (by omega) (by omega))]
        exact ht k (by omega) b) k' i hk' hi]
      by_cases d : k' = j
      · subst d
        rw [if_neg (by omega), rec_dep (by omega) hk' hi (ht k' (Nat.le_refl _) (by omega)), if_pos rfl, if_pos ⟨by omega, c⟩]
      · have ep : phB (depM s j) k' = phB s k' := by
          unfold phB
          rw [er k' 5 hk' (by omega) d, er k' 2 hk' (by omega) d, e0]
        rw [ep, er k' i hk' hi d, dep_cg (v := recS s k') (fun i hi => er k' i hk' hi d) hi]
        by_cases g : (j + 1 ≤ k' ∧ k' < j + 1 + n) ∧ phB s k' = true
        · rw [if_pos g, if_pos ⟨by omega, g.2⟩]
        · rw [if_neg g, if_neg (fun w => g ⟨by omega, w.2⟩)]
theorem rec_passH {s σ : Nat → Nat} (hP : PS s σ) {k i : Nat} (hk : k < 48) (hi : i < 32) : recS (passH s) k i = if k < s 1 ∧ (recS s k 5 = 0 ∧ recS s k 2 = s 0) then depN (recS s k) i else recS s k i := by
  have b1 := hP.W.n48
  have e : recS (passH s) k i = recS (phL 0 (s 1) s) k i := by
    unfold passH
    exact rec_hi (fun j a b => updN_n (by omega)) hk (by omega)
  rw [e, rec_phL (s 1) 0 s (by omega) hP.W.m12 (fun k _ hk => tkU_O hP.W hk) k i hk hi]
  by_cases c : k < s 1 ∧ (recS s k 5 = 0 ∧ recS s k 2 = s 0)
  · rw [if_pos c, if_pos ⟨by omega, decide_eq_true c.2⟩]
  · rw [if_neg c, if_neg (fun w => c ⟨by omega, of_decide_eq_true w.2⟩)]
theorem passH_n {s σ : Nat → Nat} (hP : PS s σ) {i : Nat} (hi : (1 ≤ i ∧ i < 9) ∨ 969 ≤ i) : passH s i = s i := by
  have b1 := hP.W.n48
  unfold passH
  rw [updN_n (by omega), phL_0 (by omega) _ _ _ (by omega)]
theorem PS_passH {s σ : Nat → Nat} (hP : PS s σ) (hB : RB (passH s)) : PS (passH s) σ := by
  have b1 := hP.W.n48
  have er := fun k i hk hi => rec_passH hP (k := k) (i := i) hk hi
  refine PS_less hP hB (passH_n hP (by omega)) (fun i hi => passH_n hP (by omega)) (fun k w hk a b => hr_of (fun i x y => ?_) a b) (fun k hk => ?_) (fun k hk => ?_) (fun k m hk hm => ?_) (fun k m hk hm => ?_)
  · rw [er k i hk (by omega)]
    split
    · exact dep_lo x y
    · rfl
  · rw [er k 5 (by omega) (by omega)]
    split
    · rename_i c; intro _; rw [c.2.1]; omega
    · exact id
  · rw [er k 5 (by omega) (by omega)]
    split
    · intro h; exact absurd h dep_5
    · rename_i c
      intro h
      have := (hP.W.2.2.1 k hk).2 h
      have : recS s k 2 ≠ s 0 := fun w => c ⟨hk, h, w⟩
      rw [passH_0]
      omega
  · rw [er k (20 + m) hk (by omega)]
    split
    · exact dep_20 hm
    · exact Or.inr rfl
  · rw [er k 5 hk (by omega), er k (20 + m) hk (by omega)]
    split
    · exact dep_c hm
    · intro h; exact hP.W.2.1 k m hk hm (Or.inr (Or.inr h))
theorem RB_passH {s σ : Nat → Nat} (hP : PS s σ) (h : s 0 < 1000) : RB (passH s) := by
  have b1 := hP.W.n48
  have key : ∀ (n k : Nat) (s : Nat → Nat), RB s → k + n ≤ 48 → RB (phL k n s) := by
    intro n
    induction n with
    | zero => intro k s h _; exact h
    | succ n ih =>
      intro k s h hk
      show RB (phL (k + 1) n (match phB s k with | true => depM s k | false => s))
      refine ih _ _ ?_ (by omega)
      cases phB s k with
      | true => exact h.dep (by omega)
      | false => exact h
  exact (key (s 1) 0 s hP.B (by omega)).now (by omega)
theorem passN_ok {σ : Nat → Nat} : ∀ (n : Nat) (s : Nat → Nat), PS s σ → s 0 + n ≤ 1000 → PS (passN n s) σ ∧ passN n s 0 = s 0 + n ∧ (∀ i, ((1 ≤ i ∧ i < 9) ∨ 969 ≤ i) → passN n s i = s i) ∧ ∀ k i, k < 48 → i < 32 → recS (passN n s) k i = if k < s 1 ∧ (recS s k 5 = 0 ∧ recS s k 2 < s 0 + n) then depN (recS s k) i else recS s k i
  | 0, s, hP, _ => by
    refine ⟨hP, rfl, fun _ _ => rfl, fun k i hk hi => ?_⟩
    rw [if_neg (fun w => by have := (hP.W.2.2.1 k w.1).2 w.2.1; omega)]
    rfl
  | n + 1, s, hP, hn => by
    have hP' := PS_passH hP (RB_passH hP (by omega))
    have e0 : passH s 0 = s 0 + 1 := passH_0
    have e1 : passH s 1 = s 1 := passH_n hP (by omega)
    obtain ⟨g1, g2, g3, g4⟩ := passN_ok n (passH s) hP' (by omega)
    refine ⟨g1, ?_, fun i hi => (g3 i hi).trans (passH_n hP hi), fun k i hk hi => ?_⟩
    · show passN n (passH s) 0 = _
      rw [g2, e0]; omega
    · show recS (passN n (passH s)) k i = _
      have er := fun i hi => rec_passH hP (k := k) (i := i) hk hi
      rw [g4 k i hk hi, e0, e1]
      by_cases c : k < s 1 ∧ (recS s k 5 = 0 ∧ recS s k 2 = s 0)
      · rw [if_neg (fun w => by
          have w5 := w.2.1
          rw [er 5 (by omega), if_pos c] at w5
          exact dep_5 w5), er i hi, if_pos c, if_pos ⟨c.1, c.2.1, by omega⟩]
      · have er2 : ∀ i, i < 32 → recS (passH s) k i = recS s k i := fun i hi => by rw [er i hi, if_neg c]
        rw [er2 5 (by omega), er2 2 (by omega), er2 i hi, dep_cg er2 hi]
        by_cases d : k < s 1 ∧ (recS s k 5 = 0 ∧ recS s k 2 < s 0 + (n + 1))
        · rw [if_pos d, if_pos ⟨d.1, d.2.1, by omega⟩]
        · rw [if_neg d, if_neg (fun w => d ⟨w.1, w.2.1, by omega⟩)]
theorem go_eq {s σ : Nat → Nat} {h : Nat} (hP : PS s σ) (hh : s 0 + h ≤ 1000) : PS (passN h s) σ ∧ EqH (updN s 0 (s 0 + h)) (passN h s) ∧ EqU (goU (UU s σ) (s 0 + h) 48) (UU (passN h s) σ) ∧ ∀ q, q < 4 → lsS s q = lsS (passN h s) q := by
  have b1 := hP.W.n48
  obtain ⟨g1, g2, g3, g4⟩ := passN_ok h s hP hh
  have e1 := g3 1 (by omega)
  refine ⟨g1, fun i hi => ?_, fun r i hr hi => ?_, fun q hq => (lsS_cg (fun i hi => g3 i (by omega)) q).symm⟩
  · by_cases c : i = 0
    · subst c; rw [updN_s, g2]
    · rw [updN_n c, g3 i (by omega)]
  · unfold goU
    rcases Nat.lt_or_ge r (s 1) with c | c
    · have hk := hP.2.1.1 r c
      rw [UU_lt c, UU_lt (s := passN h s) (by omega), g4 _ i (by omega) (by omega)]
      by_cases d : recS s (σ r) 5 = 0 ∧ recS s (σ r) 2 < s 0 + h
      · rw [if_pos ⟨hr, d⟩, if_pos ⟨hk, d⟩]
      · rw [if_neg (fun w => d w.2), if_neg (fun w => d w.2)]
    · rw [UU_ge c, UU_ge (s := passN h s) (by omega), if_neg (fun w => by
        have : emp 5 = 0 := w.2.1
        exact absurd this (by decide))]
