/-! falling sick, by rank and by number -/
theorem gmR_at {s : Nat → Nat} {m U k : Nat} (hm : m < 12) : ∀ K, gmR s m U K (393 + 12 * k + m) = if k < K ∧ gmB s m U k = true then 0 else s (393 + 12 * k + m)
  | 0 => by rw [if_neg (by omega)]; rfl
  | K + 1 => by
    have ih := gmR_at (s := s) (U := U) (k := k) hm K
    show (match gmB s m U K with | true => updN (gmR s m U K) (393 + 12 * K + m) 0 | false => gmR s m U K) (393 + 12 * k + m) = _
    by_cases c : k = K
    · subst c
      rw [if_neg (by omega)] at ih
      cases d : gmB s m U k with
      | true => rw [if_pos ⟨by omega, rfl⟩]; exact updN_s
      | false => rw [if_neg (fun w => by cases w.2)]; exact ih
    · have e : (if k < K + 1 ∧ gmB s m U k = true then 0 else s (393 + 12 * k + m)) = if k < K ∧ gmB s m U k = true then 0 else s (393 + 12 * k + m) := by
        by_cases d : k < K ∧ gmB s m U k = true
        · rw [if_pos d, if_pos ⟨by omega, d.2⟩]
        · rw [if_neg d, if_neg (fun w => d ⟨by omega, w.2⟩)]
      rw [e, ← ih]
      cases gmB s m U K with
      | true => exact updN_n (by omega)
      | false => rfl
theorem gmR_pl {s : Nat → Nat} {m U K k m' : Nat} (hm : m < 12) (hm' : m' < 12) : recS (gmR s m U K) k (20 + m') = if m' = m ∧ k < K ∧ gmB s m U k = true then 0 else recS s k (20 + m') := by
  rw [recS_20 hm', recS_20 hm']
  by_cases c : m' = m
  · subst c
    rw [gmR_at hm]
    by_cases d : k < K ∧ gmB s m' U k = true
    · rw [if_pos d, if_pos ⟨rfl, d⟩]
    · rw [if_neg d, if_neg (fun w => d w.2)]
  · rw [if_neg (fun w => c w.1), gmR_n K (fun k' hk' => by omega)]
theorem IVm_up {s : Nat → Nat} {m i v : Nat} (h : IVm s) (hm : m < s 2) (hm2 : m < 12) (hi : i < 5) : IVm (updN s (969 + 6 * m + i) v) := by
  refine ⟨fun m' a b => ?_, ?_⟩
  · rw [updN_n (by omega)] at a
    rw [updN_n (by omega), updN_n (by omega)]
    exact h.1 m' a b
  · rw [updN_n (by omega), h.2]
    exact sA_congr _ _ (fun m' _ _ => (updN_n (by omega)).symm)
theorem sick_eq {s σ : Nat → Nat} {m h : Nat} (hP : PS s σ) (hm : m < s 2) (hh : h < 1000) : EqA (sickP s (UU s σ) (lsS s) m h).1 (sickM s m h).1 σ ∧ (sickP s (UU s σ) (lsS s) m h).2 = (sickM s m h).2 ∧ PS (sickM s m h).1 σ ∧ ∀ q, q < 4 → lsS s q = lsS (sickM s m h).1 q := by
  have b1 := hP.W.n48
  have b2 := hP.W.m12
  have b0 := hP.sg.1
  obtain ⟨U, hU⟩ : ∃ U, U = s 0 + h := ⟨_, rfl⟩
  obtain ⟨s1, hs1⟩ : ∃ s1, s1 = updN s (969 + 6 * m + 4) U := ⟨_, rfl⟩
  have n1 : ∀ i, i ≠ 969 + 6 * m + 4 → s1 i = s i := fun i hi => by rw [hs1]; exact updN_n hi
  have P1 : PS s1 σ := PS_mem hP (by rw [hs1]; exact hP.B.mem (by omega) (by omega) (by omega)) (fun i a b => n1 i (by omega)) (by rw [hs1]; exact IVm_up hP.1.2.2.1 hm (by omega) (by omega))
  have r1 : ∀ k i, k < 48 → (i < 20 ∨ (20 ≤ i ∧ i < 32)) → recS s1 k i = recS s k i := fun k i a b => rec_hi (fun j x y => n1 j (by omega)) a b
  obtain ⟨s2, hs2⟩ : ∃ s2, s2 = gmR s1 m U (s 1) := ⟨_, rfl⟩
  have n2 : ∀ i, i < 393 ∨ 969 ≤ i → s2 i = s1 i := fun i hi => by rw [hs2]; exact gmR_n _ (fun k' hk' => by omega)
  have p2 : ∀ k m', m' < 12 → recS s2 k (20 + m') = if m' = m ∧ k < s 1 ∧ gmB s1 m U k = true then 0 else recS s1 k (20 + m') := fun k m' hm' => by rw [hs2]; exact gmR_pl (by omega) hm'
  have l2 : ∀ k i, k < 48 → i < 20 → recS s2 k i = recS s1 k i := fun k i a b => rec_lo (fun w hw => n2 _ (by omega)) b
  have B2 : RB s2 := by rw [hs2]; exact P1.B.gm (by omega) _ (by omega)
  have P2 : PS s2 σ := by
    refine PS_less P1 B2 (n2 1 (by omega)) (fun i hi => ?_) (fun k w hk _ hw => n2 _ (by omega)) (fun k hk => by rw [l2 k 5 (by have := n1 1 (by omega); omega) (by omega)]; exact id) (fun k hk => ?_) (fun k m' hk hm' => ?_) (fun k m' hk hm' c => ?_)
    · exact n2 i (by omega)
    · have e1 := n1 1 (by omega)
      rw [l2 k 5 (by omega) (by omega), n2 0 (by omega)]
      exact (P1.W.2.2.1 k hk).2
    · rw [p2 k m' hm']
      split
      · exact Or.inl rfl
      · exact Or.inr rfl
    · rw [l2 k 5 hk (by omega)] at c
      rw [p2 k m' hm']
      split
      · rfl
      · exact P1.W.2.1 k m' hk hm' (Or.inr (Or.inr c))
  have e1 : s2 1 = s 1 := (n2 1 (by omega)).trans (n1 1 (by omega))
  have e0 : s1 0 = s 0 := n1 0 (by omega)
  have ls2 : ∀ q, lsS s2 q = lsS s q := fun q => lsS_cg (fun i hi => (n2 i (by omega)).trans (n1 i (by omega))) q
  have hg : ∀ k, k < 48 → gmN s1 m U k ≤ 4 := fun k hk => by
    unfold gmN
    cases c : gmB s1 m U k with
    | false => exact Nat.zero_le _
    | true => exact rec_le4 P1.B hk (by omega)
  have hgc : ∀ r, r < s2 1 → gvN (UU s σ) m U r = gmN s1 m U (σ r) := fun r hr => by
    rw [e1] at hr
    have hk := hP.2.1.1 r hr
    have ho := (hP.W.2.2.1 _ hk).2
    unfold gvN gmN gvC gmB
    rw [UU_lt hr, r1 _ 5 (by omega) (by omega), r1 _ 2 (by omega) (by omega), r1 _ (20 + m) (by omega) (by omega), e0]
    by_cases c : recS s (σ r) 5 = 0 ∧ recS s (σ r) 2 < U
    · rw [decide_eq_true c]
      by_cases d : recS s (σ r) (20 + m) = 0
      · rw [decide_eq_false (fun w => w.2.2.2 d)]; exact d
      · rw [decide_eq_true ⟨c.1, ho c.1, c.2, d⟩]
    · rw [decide_eq_false c, decide_eq_false (fun w => c ⟨w.1, w.2.2.1⟩)]
  have hz : ∀ r, s 1 ≤ r → gvN (UU s σ) m U r = 0 := fun r hr => by
    unfold gvN
    rw [UU_ge hr, emp_n (by omega)]
    split <;> rfl
  have E2 : EqA (s1, gvU (UU s σ) m U 48) s2 σ := by
    refine ⟨fun i hi => (n2 i (by omega)).symm, fun r i hr hi => ?_⟩
    show gvU (UU s σ) m U 48 r i = UU s2 σ r i
    unfold gvU gvC
    rcases Nat.lt_or_ge r (s 1) with c | c
    · have hk := hP.2.1.1 r c
      have ho := (hP.W.2.2.1 _ hk).2
      rw [UU_lt c, UU_lt (s := s2) (by omega)]
      by_cases d : i < 20
      · rw [l2 _ i (by omega) d, r1 _ i (by omega) (by omega)]
        split
        · rw [updN_n (by omega)]
        · rfl
      · obtain ⟨m', rfl⟩ : ∃ m', i = 20 + m' := ⟨i - 20, by omega⟩
        rw [p2 _ m' (by omega), r1 _ (20 + m') (by omega) (by omega)]
        unfold gmB
        rw [r1 _ 5 (by omega) (by omega), r1 _ 2 (by omega) (by omega), r1 _ (20 + m) (by omega) (by omega), e0]
        by_cases g : recS s (σ r) 5 = 0 ∧ recS s (σ r) 2 < U
        · rw [if_pos ⟨hr, decide_eq_true g⟩]
          by_cases f : m' = m
          · subst f
            rw [updN_s]
            by_cases f2 : recS s (σ r) (20 + m') = 0
            · rw [f2]; split <;> rfl
            · rw [if_pos ⟨rfl, hk, decide_eq_true ⟨g.1, ho g.1, g.2, f2⟩⟩]
          · rw [updN_n (by omega), if_neg (fun w => f w.1)]
        · rw [if_neg (fun w => g (of_decide_eq_true w.2)), if_neg (fun w => by
            have := of_decide_eq_true w.2.2
            exact g ⟨this.1, this.2.2.1⟩)]
    · rw [UU_ge c, UU_ge (s := s2) (by omega)]
      rw [if_neg (fun w => by
        have := of_decide_eq_true w.2
        have : emp 5 = 0 := this.1
        exact absurd this (by decide))]
  have hall := skO_all (b := (s2, 0)) (H := s 0) (n := h) hg P2 (fun k hk w => by
    have hk : k < s2 1 := hk
    have w2 : gmB s1 m U k = true := by
      unfold gmN at w
      cases c : gmB s1 m U k with
      | true => rfl
      | false => rw [c] at w; exact absurd rfl w
    have w3 := of_decide_eq_true w2
    show s 0 ≤ recS s2 k 2 ∧ recS s2 k 2 < s 0 + h
    rw [l2 k 2 (by omega) (by omega)]
    omega)
  have hF := skF_FT (ls := lsS s) (gc := gvN (UU s σ) m U) (b := (s2, 0)) hg P2 (fun q _ => (ls2 q).symm) hgc (s2 1) 0 ((s1, gvU (UU s σ) m U 48), 0) (Nat.zero_add _) E2 rfl
  have hO := FT_ok (gv := gmN s1 m U) (a := (s2, 0)) hg P2 (s2 1) (Nat.le_refl _)
  have eM : sickM s m h = skO (gmN s1 m U) (s 0) h (s2, 0) := by rw [hs2, hs1, hU]; rfl
  have eP : sickP s (UU s σ) (lsS s) m h = skF (lsS s) (gvN (UU s σ) m U) 0 (s2 1) ((s1, gvU (UU s σ) m U 48), 0) := by
    have e : sickP s (UU s σ) (lsS s) m h = skF (lsS s) (gvN (UU s σ) m U) 0 (s2 1 + (48 - s2 1)) ((s1, gvU (UU s σ) m U 48), 0) := by
      rw [show s2 1 + (48 - s2 1) = 48 by omega, hs1, hU]; rfl
    rw [e, skF_sp, skF_z _ _ _ (fun r x y => hz r (by omega))]
  rw [eM, hall, eP]
  refine ⟨hF.1, hF.2, hO.1, fun q _ => ?_⟩
  have := hO.2.ls q
  rw [this]
  exact (ls2 q).symm
