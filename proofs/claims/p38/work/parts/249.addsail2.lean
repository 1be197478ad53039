/-! a sailing comes: by rank and by number -/
theorem ref_eq {s σ : Nat → Nat} (hP : PS s σ) (f st h v : Int32) : refI s (UU s σ) f st h v = refM s f st h v := by
  have b := hP.W.n48
  have e : oA (ocB (UU s σ) f st (st + h)) 0 48 = oA (ohB s f st (st + h)) 0 (s 1) := by
    refine oA_num b hP.2.1 (fun r hr => ?_) (fun r a _ => ?_)
    · have c := hP.2.1.1 r hr
      have d : recS s (σ r) 5 ≤ 2 := (hP.B.2.1 (σ r) (by omega)).1
      unfold ocB ohB
      rw [UU_lt hr]
      have : (recS s (σ r) 5 = 0 ∨ recS s (σ r) 5 = 1) ↔ recS s (σ r) 5 ≠ 2 := by omega
      simp only [this]
    · unfold ocB
      rw [UU_ge a]
      have : ¬ (emp 5 = 0 ∨ emp 5 = 1) := by unfold emp; simp
      simp [this]
  unfold refI refM
  rw [e]
  by_cases c : s 1 < 48
  · rw [if_pos c, if_neg (c := s 1 = 48) (by omega)]
  · rw [if_neg c, if_pos (c := s 1 = 48) (by omega)]
theorem newM_o {s : Nat → Nat} {f st h v i : Nat} (h1 : i ≠ 1) (h2 : i < 9 + 8 * s 1 ∨ 9 + 8 * s 1 + 8 ≤ i) : newM s f st h v i = s i := by
  unfold newM
  rw [updN_n (by omega), updN_n (by omega), updN_n (by omega), updN_n (by omega), updN_n (by omega), updN_n (by omega), updN_n (by omega), updN_n (by omega), updN_n (by omega)]
theorem newM_1 {s : Nat → Nat} {f st h v : Nat} : newM s f st h v 1 = s 1 + 1 := by
  unfold newM
  rw [updN_n (by omega), updN_n (by omega), updN_n (by omega), updN_n (by omega), updN_n (by omega), updN_n (by omega), updN_n (by omega), updN_n (by omega), updN_s]
theorem newM_w {s : Nat → Nat} {f st h v : Nat} : newM s f st h v (9 + 8 * s 1 + 0) = 0 ∧ newM s f st h v (9 + 8 * s 1 + 1) = f ∧ newM s f st h v (9 + 8 * s 1 + 2) = st ∧ newM s f st h v (9 + 8 * s 1 + 3) = h ∧ newM s f st h v (9 + 8 * s 1 + 4) = dgt v 0 ∧ newM s f st h v (9 + 8 * s 1 + 5) = dgt v 1 ∧ newM s f st h v (9 + 8 * s 1 + 6) = dgt v 2 ∧ newM s f st h v (9 + 8 * s 1 + 7) = dgt v 3 := by
  unfold newM
  refine ⟨?_, ?_, ?_, ?_, ?_, ?_, ?_, ?_⟩ <;> simp (disch := first | assumption | omega) only [updN_s, updN_n]
theorem rec_new {s : Nat → Nat} {f st h v k i : Nat} (hn : s 1 < 48) (hv : v < 10000) (h0 : ∀ m, m < 12 → recS s (s 1) (20 + m) = 0) (hk : k < 48) (hi : i < 32) : recS (newM s f st h v) k i = if k = s 1 then newR (s 1) f st h v i else recS s k i := by
  by_cases c : k = s 1
  · rw [if_pos c, c]
    obtain ⟨a0, a1, a2, a3, a4, a5, a6, a7⟩ := newM_w (s := s) (f := f) (st := st) (h := h) (v := v)
    have ap : ∀ m, m < 12 → newM s f st h v (393 + 12 * s 1 + m) = 0 := fun m hm => by
      rw [newM_o (by omega) (by omega), ← recS_20 (s := s) (k := s 1) hm]; exact h0 m hm
    obtain ⟨s', hs'⟩ : ∃ s', s' = newM s f st h v := ⟨_, rfl⟩
    rw [← hs'] at a0 a1 a2 a3 a4 a5 a6 a7 ap ⊢
    rcases (show i = 0 ∨ i = 1 ∨ i = 2 ∨ i = 3 ∨ i = 4 ∨ i = 5 ∨ i = 10 ∨ i = 11 ∨ i = 12 ∨ i = 13 ∨ ((5 < i ∧ i < 10) ∨ (13 < i ∧ i < 20)) ∨ (20 ≤ i ∧ i < 32) by omega) with rfl | rfl | rfl | rfl | rfl | rfl | rfl | rfl | rfl | rfl | d | d
    · rfl
    · exact a1
    · exact a2
    · show s' (9 + 8 * s 1 + 2) + s' (9 + 8 * s 1 + 3) = st + h
      rw [a2, a3]
    · show 1000 * s' (9 + 8 * s 1 + 4) + 100 * s' (9 + 8 * s 1 + 5) + 10 * s' (9 + 8 * s 1 + 6) + s' (9 + 8 * s 1 + 7) = v
      rw [a4, a5, a6, a7]
      show 1000 * (v / 10 / 10 / 10 % 10) + 100 * (v / 10 / 10 % 10) + 10 * (v / 10 % 10) + v % 10 = v
      omega
    · exact a0
    · exact a4
    · exact a5
    · exact a6
    · exact a7
    · rw [rec_mid d]
      rcases (show i = 6 ∨ i = 7 ∨ i = 8 ∨ i = 9 ∨ 14 ≤ i by omega) with rfl | rfl | rfl | rfl | e
      · rfl
      · rfl
      · rfl
      · rfl
      · exact (newR_20 e).symm
    · obtain ⟨m, rfl⟩ : ∃ m, i = 20 + m := ⟨i - 20, by omega⟩
      rw [recS_20 (by omega), newR_20 (by omega)]
      exact ap m (by omega)
  · rw [if_neg c]
    rcases (show i < 20 ∨ 20 ≤ i by omega) with d | d
    · exact rec_lo (fun w hw => newM_o (by omega) (by omega)) d
    · obtain ⟨m, rfl⟩ : ∃ m, i = 20 + m := ⟨i - 20, by omega⟩
      rw [recS_20 (by omega), recS_20 (by omega), newM_o (by omega) (by omega)]
def insS (σ : Nat → Nat) (n p : Nat) : Nat → Nat := fun i => if i = p then n else σ (piI n p i)
theorem piI_n {n p i : Nat} (hp : p ≤ n) (h : i ≠ p) (hi : i < n + 1) : piI n p i < n ∧ piI n p i = if i < p then i else i - 1 := by
  unfold piI
  rw [if_neg h]
  by_cases c : i < p
  · rw [if_neg (c := p < i ∧ i ≤ n) (by omega), if_pos c]; omega
  · rw [if_pos (c := p < i ∧ i ≤ n) (by omega), if_neg c]; omega
theorem piI_hi {n p i : Nat} (hp : p ≤ n) (hi : n + 1 ≤ i) : piI n p i = i := by
  unfold piI
  rw [if_neg (c := i = p) (by omega), if_neg (c := p < i ∧ i ≤ n) (by omega)]
theorem insS_lt {σ : Nat → Nat} {n p r : Nat} (h : Prm σ n) (hp : p ≤ n) (hr : r < n + 1) : insS σ n p r < n + 1 := by
  unfold insS
  by_cases c : r = p
  · rw [if_pos c]; omega
  · rw [if_neg c]; have := h.1 _ (piI_n hp c hr).1; omega
theorem insS_prm {σ : Nat → Nat} {n p : Nat} (h : Prm σ n) (hp : p ≤ n) : Prm (insS σ n p) (n + 1) := by
  refine ⟨fun r hr => insS_lt h hp hr, fun r q hr hq e => ?_⟩
  unfold insS at e
  by_cases c : r = p
  · rw [if_pos c] at e
    by_cases d : q = p
    · omega
    · rw [if_neg d] at e
      have := h.1 _ (piI_n hp d hq).1
      omega
  · rw [if_neg c] at e
    by_cases d : q = p
    · rw [if_pos d] at e
      have := h.1 _ (piI_n hp c hr).1
      omega
    · rw [if_neg d] at e
      exact piI_inj hp (h.2 _ _ (piI_n hp c hr).1 (piI_n hp d hq).1 e)
theorem insS_srt {σ st st' : Nat → Nat} {n p : Nat} (h : Prm σ n) (hp : p ≤ n) (hs : Srt st σ n) (e : ∀ k, k < n → st' k = st k) (h1 : ∀ i, p ≤ i → i < n → st' n < st (σ i)) (h2 : ∀ i, p = i + 1 → st (σ i) ≤ st' n) : Srt st' (insS σ n p) (n + 1) := by
  intro r q hrq hq
  unfold insS
  by_cases c : r = p
  · rw [if_pos c, if_neg (c := q = p) (by omega)]
    obtain ⟨a, b⟩ := piI_n (n := n) (p := p) (i := q) hp (by omega) hq
    rw [if_neg (by omega)] at b
    rw [b] at a ⊢
    left
    rw [e _ (h.1 _ a)]
    exact h1 _ (by omega) a
  · obtain ⟨a, b⟩ := piI_n (n := n) (p := p) (i := r) hp c (by omega)
    rw [if_neg c]
    by_cases d : q = p
    · rw [if_pos d]
      rw [if_pos (by omega)] at b
      rw [b] at a ⊢
      rw [e _ (h.1 _ a)]
      have l := h.1 _ a
      have k := h2 (p - 1) (by omega)
      by_cases f : r = p - 1
      · rw [f] at l ⊢; omega
      · rcases hs r (p - 1) (by omega) (by omega) with g | g <;> omega
    · obtain ⟨a', b'⟩ := piI_n (n := n) (p := p) (i := q) hp d hq
      rw [if_neg d]
      rw [e _ (h.1 _ a), e _ (h.1 _ a')]
      refine hs _ _ ?_ a'
      rw [b, b']
      split <;> split <;> omega
theorem PS_new {s σ : Nat → Nat} {f st h v p : Nat} (hP : PS s σ) (hn : s 1 < 48) (hf : f < 6) (hs0 : s 0 ≤ st) (hst : st ≤ 900) (h1 : 1 ≤ h) (hh : h ≤ 12) (hv : v < 10000) (hd : ∀ q, q < 4 → dgt v q ≤ 3) (hno : ∀ k, k < s 1 → recS s k 5 ≠ 2 → recS s k 1 = f → st + h ≤ recS s k 2 ∨ recS s k 3 ≤ st) (p1 : p ≤ s 1) (p2 : ∀ i, p ≤ i → i < s 1 → st < UU s σ i 2) (p3 : ∀ i, p = i + 1 → UU s σ i 2 ≤ st) : PS (newM s f st h v) (insS σ (s 1) p) ∧ EqH (updN s 1 (s 1 + 1)) (newM s f st h v) ∧ EqU (insU (UU s σ) (s 1) p (newR (s 1) f st h v)) (UU (newM s f st h v) (insS σ (s 1) p)) ∧ ∀ q, q < 4 → lsS s q = lsS (newM s f st h v) q := by
  have h0 : ∀ m, m < 12 → recS s (s 1) (20 + m) = 0 := fun m hm => hP.W.2.1 _ m hn hm (Or.inl (Nat.le_refl _))
  have rn : ∀ k i, k < 48 → i < 32 → recS (newM s f st h v) k i = if k = s 1 then newR (s 1) f st h v i else recS s k i := fun k i hk hi => rec_new hn hv h0 hk hi
  have rB : RB (newM s f st h v) := hP.B.new hn hf hst hh hd
  have o1 : newM s f st h v 1 = s 1 + 1 := newM_1
  have oo : ∀ i, i ≠ 1 → (i < 9 ∨ 393 ≤ i) → newM s f st h v i = s i := fun i a b => newM_o a (by omega)
  have ol : ∀ i, 9 ≤ i → i < 9 + 8 * s 1 → newM s f st h v i = s i := fun i a b => newM_o (by omega) (by omega)
  have ow := newM_w (s := s) (f := f) (st := st) (h := h) (v := v)
  obtain ⟨s', hs'⟩ : ∃ s', s' = newM s f st h v := ⟨_, rfl⟩
  rw [← hs'] at rn rB o1 oo ol ow ⊢
  have rs : ∀ i, i < 32 → recS s' (s 1) i = newR (s 1) f st h v i := fun i hi => by rw [rn _ _ hn hi, if_pos rfl]
  have ro : ∀ k i, k < s 1 → i < 32 → recS s' k i = recS s k i := fun k i hk hi => by rw [rn _ _ (by omega) hi, if_neg (by omega)]
  have hln : ∀ q, lsS s' q = lsS s q := fun q => lsS_cg (fun i hi => oo i (by omega) (by omega)) q
  have hN : ∀ m, m < 12 → hdB s' m (s 1) = false := fun m hm => by
    unfold hdB
    rw [rs _ (by omega), newR_20 (by omega)]
    simp
  have hH : ∀ m k, m < 12 → k < s 1 → hdB s' m k = hdB s m k := fun m k hm hk => hdB_cg (ro k _ hk (by omega)) (ro k _ hk (by omega))
  have hlk : ∀ m k, m < 12 → k < s 1 → oA (lkB s' m k) 0 (s' 1) = oA (lkB s m k) 0 (s 1) := fun m k hm hk => by
    have e : oA (lkB s' m k) 0 (s 1) = oA (lkB s m k) 0 (s 1) := oA_congr _ _ (fun i _ hi => by
      unfold lkB
      rw [hH m i hm (by omega), ro i 1 (by omega) (by omega), ro i 3 (by omega) (by omega), ro k 1 hk (by omega), ro k 2 hk (by omega)])
    rw [← e, o1]
    have f : lkB s' m k (s 1) = false := by unfold lkB; rw [hN m hm]; rfl
    refine Bool.eq_iff_iff.mpr ?_
    rw [oA_iff, oA_iff]
    constructor
    · rintro ⟨i, i1, i2, i3⟩
      by_cases d : i = s 1
      · rw [d, f] at i3; exact absurd i3 Bool.false_ne_true
      · exact ⟨i, i1, by omega, i3⟩
    · rintro ⟨i, i1, i2, i3⟩
      exact ⟨i, i1, by omega, i3⟩
  have hdc : ∀ m, m < 12 → dcN s' m = dcN s m := fun m hm => by
    funext t
    unfold dcN
    rw [o1]
    have f : dcB s' m t (s 1) = false := by unfold dcB; rw [hN m hm]; rfl
    rw [cA_lf f]
    refine cA_congr _ _ (fun k _ hk => ?_)
    unfold dcB bgN
    rw [hH m k hm (by omega), hlk m k hm (by omega), ro k 2 (by omega) (by omega), ro k 3 (by omega) (by omega), oo 7 (by omega) (by omega)]
  obtain ⟨⟨⟨-, hz, hv1, hv2⟩, hfk, hm0, hl0, hr0⟩, hp, hsr⟩ := hP
  have nr5 : newR (s 1) f st h v 5 = 0 := rfl
  have nr1 : newR (s 1) f st h v 1 = f := rfl
  have nr2 : newR (s 1) f st h v 2 = st := rfl
  have nr3 : newR (s 1) f st h v 3 = st + h := rfl
  refine ⟨⟨⟨⟨rB, ?_, ?_, ?_⟩, ?_, ⟨?_, ?_⟩, ?_, ?_⟩, ?_, ?_⟩, ?_, ?_, fun q _ => (hln q).symm⟩
  · intro k m hk hm c
    by_cases d : k = s 1
    · rw [d, rs _ (by omega), newR_20 (by omega)]
    · rw [rn _ _ hk (by omega), if_neg d]
      rw [rn _ 5 hk (by omega), if_neg d, o1, oo 2 (by omega) (by omega)] at c
      exact hz k m hk hm (by omega)
  · intro k hk
    rw [o1] at hk
    by_cases d : k = s 1
    · rw [d, ow.2.2.2.1, rs 2 (by omega), nr2, oo 0 (by omega) (by omega)]
      exact ⟨h1, fun _ => hs0⟩
    · rw [ol _ (by omega) (by omega), ro k 5 (by omega) (by omega), ro k 2 (by omega) (by omega), oo 0 (by omega) (by omega)]
      exact hv1 k (by omega)
  · intro k j hk hj hne
    rw [o1] at hk hj
    by_cases d : k = s 1
    · have dj : j < s 1 := by omega
      rw [d, rs 5 (by omega), rs 1 (by omega), rs 2 (by omega), rs 3 (by omega), ro j 5 dj (by omega), ro j 1 dj (by omega), ro j 2 dj (by omega), ro j 3 dj (by omega), nr1, nr2, nr3]
      intro _ e5 e1
      exact hno j dj e5 e1.symm
    · have dk : k < s 1 := by omega
      rw [ro k 5 dk (by omega), ro k 1 dk (by omega), ro k 2 dk (by omega), ro k 3 dk (by omega)]
      by_cases d2 : j = s 1
      · rw [d2, rs 5 (by omega), rs 1 (by omega), rs 2 (by omega), rs 3 (by omega), nr1, nr2, nr3]
        intro e5 _ e1
        exact (hno k dk e5 e1).symm
      · have dj : j < s 1 := by omega
        rw [ro j 5 dj (by omega), ro j 1 dj (by omega), ro j 2 dj (by omega), ro j 3 dj (by omega)]
        exact hv2 k j dk dj hne
  · intro k hk q hq
    rw [o1] at hk
    by_cases d : k = s 1
    · have e : tkM s' k q = 0 := by
        unfold tkM
        refine cA_all0 _ _ (fun m _ hm => ?_)
        rw [oo 2 (by omega) (by omega)] at hm
        have : s 2 ≤ 12 := by have := rB.1.2.2.1; rw [oo 2 (by omega) (by omega)] at this; exact this
        rw [d, rs _ (by omega), newR_20 (by omega)]
        simp
      rw [e]; exact Nat.zero_le _
    · have dk : k < s 1 := by omega
      have b2 : s 2 ≤ 12 := by have := rB.1.2.2.1; rw [oo 2 (by omega) (by omega)] at this; exact this
      rw [tkM_cg (oo 2 (by omega) (by omega)) (fun m hm => ro k _ dk (by omega)), ro k _ dk (by omega)]
      exact hfk k dk q hq
  · intro m a b
    rw [oo 2 (by omega) (by omega)] at a
    rw [oo _ (by omega) (by omega), oo _ (by omega) (by omega)]
    exact hm0.1 m a b
  · rw [oo 3 (by omega) (by omega), hm0.2]
    exact sA_congr _ _ (fun m _ _ => (oo _ (by omega) (by omega)).symm)
  · intro q hq
    rw [hln, oo 2 (by omega) (by omega)]
    exact hl0 q hq
  · intro m hm
    rw [oo 2 (by omega) (by omega)] at hm
    have b2 : s 2 ≤ 12 := by have := rB.1.2.2.1; rw [oo 2 (by omega) (by omega)] at this; exact this
    rw [hdc m (by omega)]
    have g := hr0 m hm
    exact ⟨g.1, (RAll_s (oo 4 (by omega) (by omega)) (oo 5 (by omega) (by omega)) (oo 6 (by omega) (by omega))).mpr g.2⟩
  · rw [o1]; exact insS_prm hp p1
  · rw [o1]
    refine insS_srt hp p1 hsr (fun k hk => ro k 2 hk (by omega)) (fun i a b => ?_) (fun i a => ?_)
    · have := p2 i a b
      rw [UU_lt b] at this
      rw [rs 2 (by omega)]; exact this
    · have := p3 i a
      rw [UU_lt (by omega)] at this
      rw [rs 2 (by omega)]; exact this
  · intro i hi
    by_cases c : i = 1
    · rw [c, updN_s, o1]
    · rw [updN_n c, oo i c (by omega)]
  · intro r i hr hi
    unfold insU
    by_cases c : r = p
    · rw [if_pos c, UU_lt (by omega)]
      have e : insS σ (s 1) p r = s 1 := if_pos c
      rw [e, rs i (by omega)]
    · rw [if_neg c]
      rcases Nat.lt_or_ge r (s 1 + 1) with d | d
      · have g := (piI_n p1 c d).1
        have e : insS σ (s 1) p r = σ (piI (s 1) p r) := if_neg c
        rw [UU_lt g, UU_lt (by omega), e, ro _ _ (hp.1 _ g) (by omega)]
      · rw [piI_hi p1 d, UU_ge (by omega), UU_ge (by omega)]
