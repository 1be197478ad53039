/-! members, certificates and ladders of a row -/
theorem EqU_hi {s s' σ : Nat → Nat} (hP : PS s σ) (e1 : s' 1 = s 1) (h : ∀ i, 9 ≤ i → i < 969 → s' i = s i) : EqU (UU s σ) (UU s' σ) := fun r i hr hi => by
  have b := hP.W.n48
  exact (UU_cg e1 (fun r' hr' => rec_hi h (by have := hP.2.1.1 r' hr'; omega) (by omega)) r).symm
theorem RB_of {s s' : Nat → Nat} (hB : RB s) (hg : SG s') (h : ∀ i, 9 ≤ i → i < 969 → s' i = s i) (hl : ∀ q, q < 4 → s' (1041 + q) ≤ 12 ∧ ∀ i, i < 12 → s' (1045 + 12 * q + i) < 12) : RB s' := by
  obtain ⟨-, a, b, -⟩ := hB
  refine ⟨hg, fun k hk => ?_, fun k hk m hm => ?_, hl⟩
  · rw [h (9 + 8 * k + 0) (by omega) (by omega), h (9 + 8 * k + 1) (by omega) (by omega), h (9 + 8 * k + 2) (by omega) (by omega), h (9 + 8 * k + 3) (by omega) (by omega), h (9 + 8 * k + 4) (by omega) (by omega), h (9 + 8 * k + 5) (by omega) (by omega), h (9 + 8 * k + 6) (by omega) (by omega), h (9 + 8 * k + 7) (by omega) (by omega)]
    exact a k hk
  · rw [h _ (by omega) (by omega)]; exact b k hk m hm
theorem PS_hi {s s' σ : Nat → Nat} (hP : PS s σ) (hB : RB s') (h : ∀ i, i < 969 → i ≠ 2 → i ≠ 3 → s' i = s i) (e2 : s 2 ≤ s' 2) (hm : IVm s') (hl : IVl s') : PS s' σ := by
  have hW := hP.W
  have b1 := hW.n48
  have b2 : s' 2 ≤ 12 := hB.1.2.2.1
  have e0 := h 0 (by omega) (by omega) (by omega)
  have e1 := h 1 (by omega) (by omega) (by omega)
  have hh : ∀ i, 9 ≤ i → i < 969 → s' i = s i := fun i a b => h i (by omega) (by omega) (by omega)
  have er : ∀ k i, k < 48 → (i < 20 ∨ (20 ≤ i ∧ i < 32)) → recS s' k i = recS s k i := fun k i a b => rec_hi hh a b
  have hz : IVz s' := fun k m hk hm c => by
    rw [er k (20 + m) hk (by omega)]
    rw [e1, er k 5 hk (by omega)] at c
    exact hW.2.1 k m hk hm (by omega)
  have hv : IVs s' := by
    refine ⟨fun k hk => ⟨?_, fun c => ?_⟩, fun k j hk hj hne => ?_⟩
    · rw [e1] at hk
      rw [hh _ (by omega) (by omega)]
      exact (hW.2.2.1 k hk).1
    · rw [e1] at hk
      rw [er k 5 (by omega) (by omega)] at c
      rw [e0, er k 2 (by omega) (by omega)]
      exact (hW.2.2.1 k hk).2 c
    · rw [e1] at hk hj
      rw [er k 5 (by omega) (by omega), er j 5 (by omega) (by omega), er k 1 (by omega) (by omega), er j 1 (by omega) (by omega), er k 2 (by omega) (by omega), er j 2 (by omega) (by omega), er k 3 (by omega) (by omega), er j 3 (by omega) (by omega)]
      exact hW.2.2.2 k j hk hj hne
  have hW' : W0 s' := ⟨hB, hz, hv⟩
  refine ⟨⟨hW', fun k hk q hq => ?_, hm, hl, fun m hm => ?_⟩, by rw [e1]; exact hP.2.1, by rw [e1]; exact Srt_rec hP (fun k hk => er k 2 (by omega) (by omega))⟩
  · rw [e1] at hk
    rw [← tkR_M hW' (by omega), tkR_cg (v := recS s k) (fun m hm => er k (20 + m) (by omega) (by omega)), tkR_M hW (by omega), er k _ (by omega) (by omega)]
    exact hP.1.2.1 k hk q hq
  · rcases Nat.lt_or_ge m (s 2) with c | c
    · rw [dcN_hi hW (by omega) e1 (h 7 (by omega) (by omega) (by omega)) hh, RAll_s (h 4 (by omega) (by omega) (by omega)) (h 5 (by omega) (by omega) (by omega)) (h 6 (by omega) (by omega) (by omega))]
      exact hP.1.2.2.2.2 m c
    · have z : ∀ t, dcN s' m t = 0 := fun t => cA_all0 _ _ (fun k _ hk => by
        unfold dcB hdB
        rw [er k (20 + m) (by omega) (by omega), hW.2.1 k m (by omega) (by omega) (Or.inr (Or.inl c))]
        simp)
      have f : ∀ t, fD (dcN s' m) t = true := fun t => decide_eq_true (z t)
      obtain ⟨g4, g5, g6, -, -⟩ := hB.1.2.2.2.1
      refine ⟨fun t => by rw [z t]; omega, fun t => by rw [cA_full 24 t (fun i _ _ => f i)]; omega, fun t => ⟨t, Nat.le_refl _, by omega, fun i _ _ => f i⟩, fun t => by rw [cA_full 168 t (fun i _ _ => f i)]; omega⟩
theorem lsF_get {s : Nat → Nat} {q : Nat} : ∀ (n i k : Nat), (lsF s q i n)[k]? = if k < n then some (s (1045 + 12 * q + (i + k))) else none
  | 0, i, k => by simp [lsF]
  | n + 1, i, 0 => by simp [lsF]
  | n + 1, i, k + 1 => by
    have e := lsF_get (s := s) (q := q) n (i + 1) k
    show (lsF s q (i + 1) n)[k]? = _
    rw [e, show i + 1 + k = i + (k + 1) by omega]
    by_cases c : k < n
    · rw [if_pos c, if_pos (c := k + 1 < n + 1) (by omega)]
    · rw [if_neg c, if_neg (c := k + 1 < n + 1) (by omega)]
theorem lsS_get {s : Nat → Nat} {q k : Nat} : (lsS s q)[k]? = if k < s (1041 + q) then some (s (1045 + 12 * q + k)) else none := by
  unfold lsS
  rw [lsF_get, Nat.zero_add]
theorem lsS_q {s s' : Nat → Nat} {q : Nat} (h1 : s' (1041 + q) = s (1041 + q)) (h : ∀ k, k < s (1041 + q) → s' (1045 + 12 * q + k) = s (1045 + 12 * q + k)) : lsS s' q = lsS s q := by
  unfold lsS
  rw [h1]
  exact lsF_cg _ _ (fun j _ hj => h j (by omega))
/-- one more at the end of a ladder -/
def appM (s : Nat → Nat) (q m : Nat) : Nat → Nat := updN (updN s (1045 + 12 * q + s (1041 + q)) m) (1041 + q) (s (1041 + q) + 1)
theorem appM_o {s : Nat → Nat} {q m i : Nat} (hq : q < 4) (h12 : s (1041 + q) < 12) (hi : i < 1041) : appM s q m i = s i := by
  unfold appM
  rw [updN_n (by omega), updN_n (by omega)]
theorem lsS_app {s : Nat → Nat} {q m : Nat} (hq : q < 4) (h12 : s (1041 + q) < 12) : lsS (appM s q m) q = lsS s q ++ [m] := by
  refine List.ext_getElem? (fun k => ?_)
  have e1 : appM s q m (1041 + q) = s (1041 + q) + 1 := updN_s
  rw [lsS_get, e1, List.getElem?_append, lsS_len, lsS_get]
  by_cases c : k < s (1041 + q)
  · rw [if_pos (c := k < s (1041 + q) + 1) (by omega), if_pos c, if_pos c]
    unfold appM
    rw [updN_n (by omega), updN_n (by omega)]
  · rw [if_neg c]
    by_cases d : k = s (1041 + q)
    · rw [d, if_pos (by omega), Nat.sub_self]
      unfold appM
      rw [updN_n (by omega), updN_s]
      rfl
    · rw [if_neg (by omega)]
      obtain ⟨j, hj⟩ : ∃ j, k - s (1041 + q) = j + 1 := ⟨k - s (1041 + q) - 1, by omega⟩
      rw [hj]; rfl
theorem lsS_app' {s : Nat → Nat} {q q' m : Nat} (hB : RB s) (hq : q < 4) (hq' : q' < 4) (h12 : s (1041 + q) < 12) (hne : q' ≠ q) : lsS (appM s q m) q' = lsS s q' := by
  have b := (hB.2.2.2 q' hq').1
  refine lsS_q ?_ (fun k hk => ?_)
  · unfold appM; rw [updN_n (by omega), updN_n (by omega)]
  · unfold appM; rw [updN_n (by omega), updN_n (by omega)]
/-- one less on a ladder -/
theorem offL_at {q : Nat} : ∀ (n i : Nat) (s : Nat → Nat) (j : Nat), offL q i n s j = if 1045 + 12 * q + i ≤ j ∧ j < 1045 + 12 * q + i + n then s (j + 1) else s j
  | 0, i, s, j => by rw [if_neg (by omega)]; rfl
  | n + 1, i, s, j => by
    show offL q (i + 1) n (updN s (1045 + 12 * q + i) (s (1045 + 12 * q + i + 1))) j = _
    rw [offL_at n (i + 1)]
    by_cases c : 1045 + 12 * q + (i + 1) ≤ j ∧ j < 1045 + 12 * q + (i + 1) + n
    · rw [if_pos c, if_pos (c := 1045 + 12 * q + i ≤ j ∧ j < 1045 + 12 * q + i + (n + 1)) (by omega), updN_n (by omega)]
    · rw [if_neg c]
      by_cases d : j = 1045 + 12 * q + i
      · rw [d, updN_s, if_pos (by omega)]
      · rw [updN_n d, if_neg (by omega)]
theorem offM_o {s : Nat → Nat} {q i j : Nat} (hj : j ≠ 1041 + q) (h : j < 1045 + 12 * q + i ∨ 1045 + 12 * q + (s (1041 + q) - 1) ≤ j) (hi : i < s (1041 + q)) : offM s q i j = s j := by
  unfold offM
  rw [offL_at, if_neg (by omega), updN_n hj]
theorem offM_l {s : Nat → Nat} {q i : Nat} (hq : q < 4) (hi : i < s (1041 + q)) : offM s q i (1041 + q) = s (1041 + q) - 1 := by
  unfold offM
  rw [offL_at, if_neg (by omega), updN_s]
theorem offM_k {s : Nat → Nat} {q i k : Nat} (hq : q < 4) (hi : i < s (1041 + q)) (h1 : i ≤ k) (h2 : k < s (1041 + q) - 1) : offM s q i (1045 + 12 * q + k) = s (1045 + 12 * q + (k + 1)) := by
  unfold offM
  rw [offL_at, if_pos (by omega), updN_n (by omega)]
  rfl
theorem lsS_off {s : Nat → Nat} {q i : Nat} (hq : q < 4) (hi : i < s (1041 + q)) : lsS (offM s q i) q = (lsS s q).eraseIdx i := by
  refine List.ext_getElem? (fun k => ?_)
  rw [lsS_get, offM_l hq hi, List.getElem?_eraseIdx, lsS_get, lsS_get]
  by_cases c : k < i
  · rw [if_pos (c := k < s (1041 + q) - 1) (by omega), if_pos c, if_pos (by omega), offM_o (by omega) (by omega) hi]
  · rw [if_neg c]
    by_cases d : k < s (1041 + q) - 1
    · rw [if_pos d, if_pos (by omega), offM_k hq hi (by omega) d]
    · rw [if_neg d, if_neg (by omega)]
theorem lsS_off' {s : Nat → Nat} {q q' i : Nat} (hB : RB s) (hq : q < 4) (hq' : q' < 4) (hi : i < s (1041 + q)) (hne : q' ≠ q) : lsS (offM s q i) q' = lsS s q' := by
  have b := (hB.2.2.2 q' hq').1
  have b' := (hB.2.2.2 q hq).1
  exact lsS_q (offM_o (by omega) (by omega) hi) (fun k hk => offM_o (by omega) (by omega) hi)
theorem filt_erase {m : Nat} : ∀ (l : List Nat) (i : Nat), l.Nodup → l[i]? = some m → l.filter (fun x => !decide (x = m)) = l.eraseIdx i
  | [], i, _, h => by simp at h
  | a :: l, 0, h, e => by
    have h2 := List.nodup_cons.mp h
    have e : a = m := by simpa using e
    subst e
    rw [List.filter_cons_of_neg (by simp)]
    exact List.filter_eq_self.mpr (fun x hx => by
      have : x ≠ a := fun q => h2.1 (q ▸ hx)
      simp [this])
  | a :: l, i + 1, h, e => by
    have h2 := List.nodup_cons.mp h
    have e : l[i]? = some m := by simpa using e
    have hm : m ∈ l := List.mem_of_getElem? e
    have : a ≠ m := fun q => h2.1 (q ▸ hm)
    rw [List.filter_cons_of_pos (by simp [this]), filt_erase l i h2.2 e]
    rfl
theorem filt_no {m : Nat} {l : List Nat} (h : m ∉ l) : l.filter (fun x => !decide (x = m)) = l :=
  List.filter_eq_self.mpr (fun x hx => by
    have : x ≠ m := fun q => h (q ▸ hx)
    simp [this])
theorem rung_mem {s : Nat → Nat} {q m : Nat} : (nA (fun i => decide (s (1045 + 12 * q + i) = m)) 0 (s (1041 + q)) 0 = none ∧ m ∉ lsS s q) ∨ ∃ i, nA (fun i => decide (s (1045 + 12 * q + i) = m)) 0 (s (1041 + q)) 0 = some i ∧ i < s (1041 + q) ∧ (lsS s q)[i]? = some m := by
  rcases nA_first (p := fun i => decide (s (1045 + 12 * q + i) = m)) (s (1041 + q)) 0 with ⟨a, b⟩ | ⟨i, a, _, c, d, _⟩
  · refine Or.inl ⟨a, fun h => ?_⟩
    obtain ⟨k, hk⟩ := List.mem_iff_getElem?.mp h
    rw [lsS_get] at hk
    by_cases c : k < s (1041 + q)
    · rw [if_pos c] at hk
      exact absurd (of_decide_eq_true (show decide (s (1045 + 12 * q + k) = m) = true from decide_eq_true (Option.some.inj hk))) (of_decide_eq_false (b k (Nat.zero_le _) (by omega)))
    · rw [if_neg c] at hk; exact absurd hk (by simp)
  · refine Or.inr ⟨i, a, by omega, ?_⟩
    rw [lsS_get, if_pos (by omega), of_decide_eq_true d]
/-- the row without a member on a ladder -/
def lessM (s : Nat → Nat) (q m : Nat) : Nat → Nat := match nA (fun i => decide (s (1045 + 12 * q + i) = m)) 0 (s (1041 + q)) 0 with
  | none => s
  | some i => offM s q i
theorem less_ok {s : Nat → Nat} {q m : Nat} (hB : RB s) (hl : IVl s) (hq : q < 4) : lsS (lessM s q m) q = (lsS s q).filter (fun x => !decide (x = m)) ∧ (∀ q', q' < 4 → q' ≠ q → lsS (lessM s q m) q' = lsS s q') ∧ (∀ i, i < 1041 → lessM s q m i = s i) ∧ RB (lessM s q m) := by
  have bq := (hB.2.2.2 q hq).1
  rcases rung_mem (s := s) (q := q) (m := m) with ⟨a, b⟩ | ⟨i, a, b, c⟩
  · have e : lessM s q m = s := by unfold lessM; rw [a]
    rw [e]
    exact ⟨(filt_no b).symm, fun _ _ _ => rfl, fun _ _ => rfl, hB⟩
  · have e : lessM s q m = offM s q i := by unfold lessM; rw [a]
    rw [e]
    have o : ∀ j, j < 1041 → offM s q i j = s j := fun j hj => offM_o (by omega) (by omega) b
    refine ⟨by rw [lsS_off hq b, filt_erase _ i (hl q hq).1 c], fun q' h' hne => lsS_off' hB hq h' b hne, o, RB_of hB ?_ (fun j h1 h2 => o j (by omega)) (fun q' h' => ⟨?_, fun j hj => ?_⟩)⟩
    · have g := hB.1
      unfold SG at g ⊢
      rw [o 0 (by omega), o 1 (by omega), o 2 (by omega), o 4 (by omega), o 5 (by omega), o 6 (by omega), o 7 (by omega), o 8 (by omega)]
      exact ⟨g.1, g.2.1, g.2.2.1, g.2.2.2.1, fun m hm q hq => by rw [o _ (by omega)]; exact g.2.2.2.2 m hm q hq⟩
    · by_cases d : q' = q
      · rw [d, offM_l hq b]; omega
      · rw [offM_o (by omega) (by omega) b]; exact (hB.2.2.2 q' h').1
    · have g := (hB.2.2.2 q' h').2 j hj
      by_cases d : q' = q
      · subst d
        by_cases k : i ≤ j ∧ j < s (1041 + q') - 1
        · rw [offM_k hq b k.1 k.2]; exact (hB.2.2.2 q' h').2 _ (by omega)
        · rw [offM_o (by omega) (by omega) b]; exact g
      · rw [offM_o (by omega) (by omega) b]; exact g
theorem RB_app {s : Nat → Nat} {q m : Nat} (hB : RB s) (hq : q < 4) (h12 : s (1041 + q) < 12) (hm : m < 12) : RB (appM s q m) := by
  have o : ∀ j, j < 1041 → appM s q m j = s j := fun j hj => appM_o hq h12 hj
  refine RB_of hB ?_ (fun j h1 h2 => o j (by omega)) (fun q' h' => ⟨?_, fun j hj => ?_⟩)
  · have g := hB.1
    unfold SG at g ⊢
    rw [o 0 (by omega), o 1 (by omega), o 2 (by omega), o 4 (by omega), o 5 (by omega), o 6 (by omega), o 7 (by omega), o 8 (by omega)]
    exact ⟨g.1, g.2.1, g.2.2.1, g.2.2.2.1, fun m hm q hq => by rw [o _ (by omega)]; exact g.2.2.2.2 m hm q hq⟩
  · have g := (hB.2.2.2 q' h').1
    unfold appM
    by_cases d : q' = q
    · rw [d, updN_s]; omega
    · rw [updN_n (by omega), updN_n (by omega)]; exact g
  · have g := (hB.2.2.2 q' h').2 j hj
    unfold appM
    rw [updN_n (by omega)]
    by_cases d : 1045 + 12 * q' + j = 1045 + 12 * q + s (1041 + q)
    · rw [d, updN_s]; exact hm
    · rw [updN_n d]; exact g
theorem PS_lad {s s' σ : Nat → Nat} (hP : PS s σ) (hB : RB s') (h : ∀ i, i < 1041 → s' i = s i) (hl : IVl s') : PS s' σ := by
  refine PS_hi hP hB (fun i a _ _ => h i (by omega)) (by rw [h 2 (by omega)]; exact Nat.le_refl _) ⟨fun m a b => ?_, ?_⟩ hl
  · rw [h 2 (by omega)] at a
    rw [h _ (by omega), h _ (by omega)]
    exact hP.1.2.2.1.1 m a b
  · rw [h 3 (by omega), hP.1.2.2.1.2]
    exact sA_congr _ _ (fun m _ _ => (h _ (by omega)).symm)
theorem EqH_lad {s s' : Nat → Nat} (h : ∀ i, i < 1041 → s' i = s i) : EqH s s' := fun i hi => (h i (by omega)).symm
theorem leave_eq {s σ : Nat → Nat} {q m : Nat} (hP : PS s σ) (hq : q < 4) : PS (lessM s q m) σ ∧ EqH s (lessM s q m) ∧ EqU (UU s σ) (UU (lessM s q m) σ) ∧ ∀ q', q' < 4 → setL (lsS s) q ((lsS s q).filter (fun x => !decide (x = m))) q' = lsS (lessM s q m) q' := by
  obtain ⟨a, b, c, d⟩ := less_ok (m := m) hP.B hP.1.2.2.2.1 hq
  refine ⟨PS_lad hP d c (fun q' h' => ?_), EqH_lad c, EqU_hi hP (c 1 (by omega)) (fun i _ _ => c i (by omega)), fun q' h' => ?_⟩
  · have g := hP.1.2.2.2.1
    rw [c 2 (by omega)]
    by_cases e : q' = q
    · rw [e, a]
      exact ⟨List.Pairwise.filter _ (g q hq).1, fun x hx => (g q hq).2 x (List.mem_filter.mp hx).1⟩
    · rw [b q' h' e]; exact g q' h'
  · by_cases e : q' = q
    · rw [e, setL_s, a]
    · rw [setL_n e, b q' h' e]
theorem app_eq {s σ : Nat → Nat} {q m : Nat} (hP : PS s σ) (hq : q < 4) (hm : m < s 2) (hn : m ∉ lsS s q) (h12 : s (1041 + q) < 12) : PS (appM s q m) σ ∧ EqH s (appM s q m) ∧ EqU (UU s σ) (UU (appM s q m) σ) ∧ ∀ q', q' < 4 → setL (lsS s) q (lsS s q ++ [m]) q' = lsS (appM s q m) q' := by
  have b2 := hP.W.m12
  have c : ∀ i, i < 1041 → appM s q m i = s i := fun i hi => appM_o hq h12 hi
  have a := lsS_app (m := m) hq h12
  refine ⟨PS_lad hP (RB_app hP.B hq h12 (by omega)) c (fun q' h' => ?_), EqH_lad c, EqU_hi hP (c 1 (by omega)) (fun i _ _ => c i (by omega)), fun q' h' => ?_⟩
  · have g := hP.1.2.2.2.1
    rw [c 2 (by omega)]
    by_cases e : q' = q
    · rw [e, a]
      refine ⟨List.nodup_append.mpr ⟨(g q hq).1, by simp, fun x hx y hy => ?_⟩, fun x hx => ?_⟩
      · have : y = m := by simpa using hy
        rw [this]; exact fun q => hn (q ▸ hx)
      · rcases List.mem_append.mp hx with f | f
        · exact (g q hq).2 x f
        · have : x = m := by simpa using f
          omega
    · rw [lsS_app' hP.B hq h' h12 e]; exact g q' h'
  · by_cases e : q' = q
    · rw [e, setL_s, a]
    · rw [setL_n e, lsS_app' hP.B hq h' h12 e]
theorem climb_eq {s σ : Nat → Nat} {q m : Nat} (hP : PS s σ) (hq : q < 4) (hm : m < s 2) : PS (appM (lessM s q m) q m) σ ∧ EqH s (appM (lessM s q m) q m) ∧ EqU (UU s σ) (UU (appM (lessM s q m) q m) σ) ∧ (∀ q', q' < 4 → setL (lsS s) q ((lsS s q).filter (fun x => !decide (x = m)) ++ [m]) q' = lsS (appM (lessM s q m) q m) q') ∧ lessM s q m (1041 + q) = ((lsS s q).filter (fun x => !decide (x = m))).length ∧ lessM s q m (1041 + q) < 12 := by
  have b2 := hP.W.m12
  obtain ⟨a, b, c, d⟩ := less_ok (m := m) hP.B hP.1.2.2.2.1 hq
  obtain ⟨p1, p2, p3, p4⟩ := leave_eq (m := m) hP hq
  have l : lessM s q m (1041 + q) = ((lsS s q).filter (fun x => !decide (x = m))).length := by rw [← a, lsS_len]
  have l12 : lessM s q m (1041 + q) < 12 := by
    rw [l]
    have := nodup_lt (hP.1.2.2.2.1 q hq).1 (hP.1.2.2.2.1 q hq).2 hm
    omega
  obtain ⟨k1, k2, k3, k4⟩ := app_eq (m := m) p1 hq (by rw [c 2 (by omega)]; exact hm) (by rw [a]; intro h; simpa using (List.mem_filter.mp h).2) l12
  refine ⟨k1, fun i hi => (p2 i hi).trans (k2 i hi), fun r i hr hi => (p3 r i hr hi).trans (k3 r i hr hi), fun q' h' => ?_, l, l12⟩
  rw [← k4 q' h']
  by_cases e : q' = q
  · rw [e, setL_s, setL_s, a]
  · rw [setL_n e, setL_n e, b q' h' e]
/-- a member comes -/
def memM (s : Nat → Nat) (q v : Nat) : Nat → Nat := appM (updN (updN s 2 (s 2 + 1)) (969 + 6 * s 2 + q) v) q (s 2)
theorem memb_eq {s σ : Nat → Nat} {q v : Nat} (hP : PS s σ) (hq : q < 4) (hm : s 2 < 12) (hv : v < 100000) : PS (memM s q v) σ ∧ EqH (updN (updN s 2 (s 2 + 1)) (969 + 6 * s 2 + q) v) (memM s q v) ∧ EqU (UU s σ) (UU (memM s q v) σ) ∧ (∀ q', q' < 4 → setL (lsS s) q (lsS s q ++ [s 2]) q' = lsS (memM s q v) q') ∧ s (1041 + q) < 12 := by
  obtain ⟨s1, hs1⟩ : ∃ s1, s1 = updN (updN s 2 (s 2 + 1)) (969 + 6 * s 2 + q) v := ⟨_, rfl⟩
  have o : ∀ i, i ≠ 2 → i ≠ 969 + 6 * s 2 + q → s1 i = s i := fun i a b => by rw [hs1, updN_n b, updN_n a]
  have o2 : s1 2 = s 2 + 1 := by rw [hs1, updN_n (by omega), updN_s]
  have l12 : s (1041 + q) < 12 := by
    have := nodup_len (s 2) (lsS s q) (hP.1.2.2.2.1 q hq).1 (hP.1.2.2.2.1 q hq).2
    rw [lsS_len] at this
    omega
  have hB1 : RB s1 := by
    refine RB_of hP.B ?_ (fun i a b => o i (by omega) (by omega)) (fun q' h' => ?_)
    · have g := hP.B.1
      refine ⟨?_, ?_, ?_, ⟨?_, ?_, ?_, ?_, ?_⟩, fun m hm q' hq' => ?_⟩
      · rw [o 0 (by omega) (by omega)]; exact g.1
      · rw [o 1 (by omega) (by omega)]; exact g.2.1
      · rw [o2]; omega
      · rw [o 4 (by omega) (by omega)]; exact g.2.2.2.1.1
      · rw [o 5 (by omega) (by omega)]; exact g.2.2.2.1.2.1
      · rw [o 6 (by omega) (by omega)]; exact g.2.2.2.1.2.2.1
      · rw [o 7 (by omega) (by omega)]; exact g.2.2.2.1.2.2.2.1
      · rw [o 8 (by omega) (by omega)]; exact g.2.2.2.1.2.2.2.2
      · by_cases e : 969 + 6 * m + q' = 969 + 6 * s 2 + q
        · rw [e, hs1, updN_s]; exact hv
        · rw [o _ (by omega) e]; exact g.2.2.2.2 m hm q' hq'
    · rw [o _ (by omega) (by omega)]
      exact ⟨(hP.B.2.2.2 q' h').1, fun i hi => by rw [o _ (by omega) (by omega)]; exact (hP.B.2.2.2 q' h').2 i hi⟩
  have hl1 : ∀ q, lsS s1 q = lsS s q := fun q => lsS_cg (fun i hi => o i (by omega) (by omega)) q
  have hP1 : PS s1 σ := by
    refine PS_hi hP hB1 (fun i a b _ => o i b (by omega)) (by rw [o2]; omega) ⟨fun m a b => ?_, ?_⟩ (fun q hq => ?_)
    · rw [o2] at a
      rw [o _ (by omega) (by omega), o _ (by omega) (by omega)]
      exact hP.1.2.2.1.1 m (by omega) b
    · rw [o 3 (by omega) (by omega), hP.1.2.2.1.2]
      exact sA_congr _ _ (fun m _ _ => (o _ (by omega) (by omega)).symm)
    · rw [hl1, o2]
      exact ⟨(hP.1.2.2.2.1 q hq).1, fun x hx => by have := (hP.1.2.2.2.1 q hq).2 x hx; omega⟩
  have e1 : s1 (1041 + q) = s (1041 + q) := o _ (by omega) (by omega)
  obtain ⟨k1, k2, k3, k4⟩ := app_eq (m := s 2) hP1 hq (by rw [o2]; omega) (by rw [hl1]; intro h; have := (hP.1.2.2.2.1 q hq).2 _ h; omega) (by rw [e1]; exact l12)
  have hm' : memM s q v = appM s1 q (s 2) := by unfold memM; rw [← hs1]
  rw [hm', ← hs1]
  refine ⟨k1, k2, fun r i hr hi => (EqU_hi hP (o 1 (by omega) (by omega)) (fun i a b => o i (by omega) (by omega)) r i hr hi).trans (k3 r i hr hi), fun q' h' => ?_, l12⟩
  rw [← k4 q' h']
  by_cases e : q' = q
  · rw [e, setL_s, setL_s, hl1]
  · rw [setL_n e, setL_n e, hl1]
/-- a certificate, a place, a setting -/
theorem upd_mem {s σ : Nat → Nat} {m q v : Nat} (hP : PS s σ) (hm : m < s 2) (hq : q < 5) (hv : v < 100000) : PS (updN s (969 + 6 * m + q) v) σ ∧ EqU (UU s σ) (UU (updN s (969 + 6 * m + q) v) σ) ∧ ∀ q', q' < 4 → lsS s q' = lsS (updN s (969 + 6 * m + q) v) q' := by
  have b2 := hP.W.m12
  refine ⟨PS_mem hP (hP.B.mem (by omega) hq hv) (fun i a b => updN_n (by omega)) (IVm_up hP.1.2.2.1 hm (by omega) hq), EqU_hi hP (updN_n (by omega)) (fun i a b => updN_n (by omega)), fun q' _ => (lsS_cg (fun i hi => updN_n (by omega)) q').symm⟩
