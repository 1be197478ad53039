/-! marks by hour and counts by hour are the same thing -/
theorem sA_add {f g : Nat → Nat} : ∀ (n k : Nat), sA (fun i => f i + g i) k n = sA f k n + sA g k n
  | 0, _ => rfl
  | n + 1, k => by rw [sA_s, sA_s, sA_s, sA_add n (k + 1)]; omega
theorem sA_0' : ∀ (n k : Nat), sA (fun _ => 0) k n = 0
  | 0, _ => rfl
  | n + 1, k => by rw [sA_s, sA_0' n (k + 1)]
theorem sA_z {f : Nat → Nat} (n k : Nat) (h : ∀ i, k ≤ i → i < k + n → f i = 0) : sA f k n = 0 := by
  rw [sA_congr (g := fun _ => 0) n k h, sA_0']
theorem sA_one {t : Nat} : ∀ (n k : Nat), k ≤ t → t < k + n → sA (fun h => (decide (h = t)).toNat) k n = 1
  | 0, _, _, _ => by omega
  | n + 1, k, h1, h2 => by
    rw [sA_s]
    by_cases c : k = t
    · subst c
      rw [decide_eq_true rfl, sA_z n (k + 1) (fun i a b => by rw [decide_eq_false (by omega)]; rfl)]; rfl
    · rw [decide_eq_false c, sA_one n (k + 1) (by omega) (by omega)]; rfl
def plT (C : Nat → Nat) (t : Nat) : Nat → Nat := fun h => C h + (decide (h = t)).toNat
theorem plT_s {C : Nat → Nat} {t : Nat} : plT C t t = C t + 1 := by unfold plT; rw [decide_eq_true rfl]; rfl
theorem plT_n {C : Nat → Nat} {t h : Nat} (q : h ≠ t) : plT C t h = C h := by unfold plT; rw [decide_eq_false q]; rfl
def GoodS (d : dS) (C : Nat → Nat) : Prop := d.2.2.2 = 0 ∧ (∀ h, C h ≤ 1) ∧ (∀ h, d.1 h = 0 ↔ C h = 0) ∧ d.2.1 = sA C 0 1200 ∧ ∀ h, d.2.2.1 ≤ h → C h = 0
def BadS (d : dS) (C : Nat → Nat) : Prop := d.2.2.2 = 1 ∧ ∃ h, 2 ≤ C h
theorem good_mark {d : dS} {C : Nat → Nat} (h : GoodS d C) {t g : Nat} (ht : t < 1168) (hg : g ≠ 0) (h0 : C t = 0) : GoodS (dmark d t g) (plT C t) := by
  obtain ⟨a, b, c, e, f⟩ := h
  have m0 := (c t).mpr h0
  refine ⟨?_, fun q => ?_, fun q => ?_, ?_, fun q hq => ?_⟩
  · show (if d.1 t = 0 then d.2.2.2 else 1) = 0
    rw [if_pos m0]; exact a
  · by_cases k : q = t
    · rw [k, plT_s]; omega
    · rw [plT_n k]; exact b q
  · show updN d.1 t g q = 0 ↔ _
    by_cases k : q = t
    · rw [k, plT_s, updN_s]; omega
    · rw [plT_n k, updN_n k]; exact c q
  · show d.2.1 + 1 = _
    have : sA (plT C t) 0 1200 = sA C 0 1200 + sA (fun h => (decide (h = t)).toNat) 0 1200 := sA_add 1200 0
    rw [this, sA_one 1200 0 (by omega) (by omega), e]
  · have hq : (if t < d.2.2.1 then d.2.2.1 else t + 1) ≤ q := hq
    by_cases k : t < d.2.2.1
    · rw [if_pos k] at hq
      rw [plT_n (by omega)]; exact f q hq
    · rw [if_neg k] at hq
      rw [plT_n (by omega)]; exact f q (by omega)
theorem good_bad {d : dS} {C : Nat → Nat} (h : GoodS d C) {t g : Nat} (h0 : C t ≠ 0) : BadS (dmark d t g) (plT C t) := by
  obtain ⟨a, b, c, e, f⟩ := h
  refine ⟨?_, t, by rw [plT_s]; omega⟩
  show (if d.1 t = 0 then d.2.2.2 else 1) = 1
  rw [if_neg (fun q => h0 ((c t).mp q))]
theorem bad_mark {d : dS} {C : Nat → Nat} (h : BadS d C) {t g : Nat} : BadS (dmark d t g) (plT C t) := by
  obtain ⟨a, q, b⟩ := h
  refine ⟨?_, q, by unfold plT; omega⟩
  show (if d.1 t = 0 then d.2.2.2 else 1) = 1
  rw [a]; split <;> rfl
theorem bad_more {d : dS} {C C' : Nat → Nat} (h : BadS d C) (hc : ∀ q, C q ≤ C' q) : BadS d C' :=
  ⟨h.1, h.2.elim fun q b => ⟨q, by have := hc q; omega⟩⟩
def plI (C : Nat → Nat) (a n : Nat) : Nat → Nat := fun h => C h + (decide (a ≤ h ∧ h < a + n)).toNat
theorem gb_sail {g : Nat} (hg : g ≠ 0) : ∀ (n a : Nat) (d : dS) (C : Nat → Nat), a + n ≤ 1168 → GoodS d C ∨ BadS d C → GoodS (dsail a n g d) (plI C a n) ∨ BadS (dsail a n g d) (plI C a n) := by
  intro n
  induction n with
  | zero =>
    intro a d C _ h
    have e : plI C a 0 = C := by funext q; unfold plI; rw [decide_eq_false (by omega)]; rfl
    rw [e]; exact h
  | succ n ih =>
    intro a d C h1 h
    have e : plI (plT C a) (a + 1) n = plI C a (n + 1) := by
      funext q
      unfold plI plT
      by_cases c1 : q = a
      · rw [decide_eq_true c1, decide_eq_false (by omega), decide_eq_true (by omega)]; rfl
      · by_cases c2 : a + 1 ≤ q ∧ q < a + 1 + n
        · rw [decide_eq_false c1, decide_eq_true c2, decide_eq_true (by omega)]; rfl
        · rw [decide_eq_false c1, decide_eq_false c2, decide_eq_false (by omega)]; rfl
    rw [← e]
    refine ih (a + 1) (dmark d a g) (plT C a) (by omega) ?_
    rcases h with h | h
    · by_cases c : C a = 0
      · exact Or.inl (good_mark h (by omega) hg c)
      · exact Or.inr (good_bad h c)
    · exact Or.inr (bad_mark h)
theorem dsail_1 {g : Nat} : ∀ (n a : Nat) (d : dS) (q : Nat), (dsail a n g d).1 q = if a ≤ q ∧ q < a + n then g else d.1 q
  | 0, a, d, q => by rw [if_neg (by omega)]; rfl
  | n + 1, a, d, q => by
    show (dsail (a + 1) n g (dmark d a g)).1 q = _
    rw [dsail_1 n (a + 1)]
    by_cases c : a + 1 ≤ q ∧ q < a + 1 + n
    · rw [if_pos c, if_pos (by omega)]
    · rw [if_neg c]
      show updN d.1 a g q = _
      by_cases e : q = a
      · rw [e, updN_s, if_pos (by omega)]
      · rw [updN_n e, if_neg (by omega)]
/-- selected sailings: in their ranges, and no ferry sails twice at a time -/
def SelOk (u : Nat → Nat → Nat) (P : Nat → Bool) : Prop := (∀ r, r < 48 → P r = true → u r 1 < 6 ∧ u r 2 < u r 3 ∧ u r 3 ≤ 1000) ∧ ∀ r q, r < 48 → q < 48 → P r = true → P q = true → r ≠ q → u r 1 = u q 1 → u r 3 ≤ u q 2 ∨ u q 3 ≤ u r 2
def coB (u : Nat → Nat → Nat) (P : Nat → Bool) (h r : Nat) : Bool := P r && decide (u r 2 ≤ h ∧ h < u r 3)
def coN (u : Nat → Nat → Nat) (P : Nat → Bool) (k h : Nat) : Nat := cA (coB u P h) 0 k
theorem coN_s {u : Nat → Nat → Nat} {P : Nat → Bool} {k h : Nat} : coN u P (k + 1) h = coN u P k h + (coB u P h k).toNat := by
  unfold coN; rw [cA_last, Nat.zero_add]
theorem cA_pos {p : Nat → Bool} : ∀ {n k i : Nat}, k ≤ i → i < k + n → p i = true → 1 ≤ cA p k n
  | 0, _, _, _, _, _ => by omega
  | n + 1, k, i, h1, h2, h => by
    by_cases c : k = i
    · subst c; rw [cA_t h]; omega
    · have := cA_pos (n := n) (k := k + 1) (i := i) (by omega) (by omega) h
      show 1 ≤ (p k).toNat + cA p (k + 1) n
      omega
theorem cA_ex {p : Nat → Bool} : ∀ {n k : Nat}, 1 ≤ cA p k n → ∃ i, k ≤ i ∧ i < k + n ∧ p i = true
  | 0, _, h => by simp [cA_0] at h
  | n + 1, k, h => by
    cases c : p k
    · rw [cA_f c] at h
      obtain ⟨i, a, b, e⟩ := cA_ex h
      exact ⟨i, by omega, by omega, e⟩
    · exact ⟨k, Nat.le_refl _, by omega, c⟩
theorem cA_mono {p : Nat → Bool} {n m k : Nat} (h : n ≤ m) : cA p k n ≤ cA p k m := by
  obtain ⟨j, rfl⟩ : ∃ j, m = n + j := ⟨m - n, by omega⟩
  induction j with
  | zero => exact Nat.le_refl _
  | succ j ih =>
    have := ih (by omega)
    rw [← Nat.add_assoc, cA_last]
    omega
def Q1 (u : Nat → Nat → Nat) (P : Nat → Bool) (k : Nat) (d : dS) : Prop := (GoodS d (coN u P k) ∨ BadS d (coN u P k)) ∧ (∀ h, d.1 h ≠ 0 → ∃ r, r < k ∧ coB u P h r = true ∧ d.1 h = u r 1 + 1) ∧ ∀ r h, r < k → coB u P h r = true → coN u P k h ≤ 1 → d.1 h = u r 1 + 1
theorem coB_iff {u : Nat → Nat → Nat} {P : Nat → Bool} {h r : Nat} : coB u P h r = true ↔ P r = true ∧ u r 2 ≤ h ∧ h < u r 3 := by
  unfold coB; rw [Bool.and_eq_true, decide_eq_true_iff]
theorem q1_step {u : Nat → Nat → Nat} {P : Nat → Bool} (hP : SelOk u P) {k : Nat} (hk : k < 48) {d : dS} (h : Q1 u P k d) : Q1 u P (k + 1) (match P k with | true => dsail (u k 2) (u k 3 - u k 2) (u k 1 + 1) d | false => d) := by
  obtain ⟨h1, h2, h3⟩ := h
  cases hc : P k with
  | false =>
    have e : coN u P (k + 1) = coN u P k := by funext q; rw [coN_s]; unfold coB; rw [hc]; rfl
    show Q1 u P (k + 1) d
    refine ⟨by rw [e]; exact h1, fun q hq => ?_, fun r q hr hb hle => ?_⟩
    · obtain ⟨r, a, b⟩ := h2 q hq
      exact ⟨r, by omega, b⟩
    · by_cases c : r = k
      · subst c
        rw [coB_iff, hc] at hb
        exact absurd hb.1 (by decide)
      · rw [e] at hle
        exact h3 r q (by omega) hb hle
  | true =>
    obtain ⟨b1, b2, b3⟩ := hP.1 k hk hc
    have e : coN u P (k + 1) = plI (coN u P k) (u k 2) (u k 3 - u k 2) := by
      funext q
      rw [coN_s]
      unfold plI coB
      rw [hc, Bool.true_and]
      by_cases c : u k 2 ≤ q ∧ q < u k 3
      · rw [decide_eq_true c, decide_eq_true (by omega)]
      · rw [decide_eq_false c, decide_eq_false (by omega)]
    show Q1 u P (k + 1) (dsail (u k 2) (u k 3 - u k 2) (u k 1 + 1) d)
    refine ⟨by rw [e]; exact gb_sail (by omega) _ _ _ _ (by omega) h1, fun q hq => ?_, fun r q hr hb hle => ?_⟩
    · rw [dsail_1] at hq ⊢
      by_cases c : u k 2 ≤ q ∧ q < u k 2 + (u k 3 - u k 2)
      · rw [if_pos c]
        exact ⟨k, by omega, coB_iff.mpr ⟨hc, by omega, by omega⟩, rfl⟩
      · rw [if_neg c] at hq ⊢
        obtain ⟨r, a, b⟩ := h2 q hq
        exact ⟨r, by omega, b⟩
    · rw [dsail_1]
      by_cases c : u k 2 ≤ q ∧ q < u k 2 + (u k 3 - u k 2)
      · rw [if_pos c]
        by_cases cr : r = k
        · rw [cr]
        · have hk1 : coB u P q k = true := coB_iff.mpr ⟨hc, by omega, by omega⟩
          have p1 : 1 ≤ coN u P k q := cA_pos (Nat.zero_le r) (by omega) hb
          rw [coN_s, hk1] at hle
          simp at hle
          omega
      · rw [if_neg c]
        by_cases cr : r = k
        · subst cr
          have := (coB_iff.mp hb).2
          omega
        · have hle2 : coN u P k q ≤ 1 := by rw [coN_s] at hle; omega
          exact h3 r q (by omega) hb hle2
theorem q1_all {u : Nat → Nat → Nat} {P : Nat → Bool} (hP : SelOk u P) : ∀ (n k : Nat) (d : dS), k + n = 48 → Q1 u P k d → Q1 u P 48 (dF1 u P k n d) := by
  intro n
  induction n with
  | zero =>
    intro k d h1 h
    obtain rfl : k = 48 := by omega
    exact h
  | succ n ih =>
    intro k d h1 h
    exact ih (k + 1) _ (by omega) (q1_step hP (by omega) h)
theorem q1_0 {u : Nat → Nat → Nat} {P : Nat → Bool} : Q1 u P 0 d0 := by
  refine ⟨Or.inl ⟨rfl, fun h => Nat.zero_le _, fun h => ⟨fun _ => rfl, fun _ => rfl⟩, ?_, fun h _ => rfl⟩, fun h q => absurd rfl q, fun r h hr => by omega⟩
  show 0 = sA (fun h => 0) 0 1200
  rw [sA_0']
/-- the same ferry's duty that ends at the start -/
def liB (u : Nat → Nat → Nat) (P : Nat → Bool) (r : Nat) : Bool := oA (fun q => P q && decide (u q 1 = u r 1 ∧ u q 3 = u r 2)) 0 48
def haB (u : Nat → Nat → Nat) (P : Nat → Bool) (h r : Nat) : Bool := P r && (decide (u r 2 = h + 1) && !liB u P r)
def haN (u : Nat → Nat → Nat) (P : Nat → Bool) (k h : Nat) : Nat := cA (haB u P h) 0 k
theorem haN_s {u : Nat → Nat → Nat} {P : Nat → Bool} {k h : Nat} : haN u P (k + 1) h = haN u P k h + (haB u P h k).toNat := by
  unfold haN; rw [cA_last, Nat.zero_add]
def toN (u : Nat → Nat → Nat) (P : Nat → Bool) (k h : Nat) : Nat := coN u P 48 h + haN u P k h
def Q2 (u : Nat → Nat → Nat) (P : Nat → Bool) (k : Nat) (d : dS) : Prop := BadS d (toN u P k) ∨ (GoodS d (toN u P k) ∧ (∀ r h, r < 48 → coB u P h r = true → d.1 h = u r 1 + 1) ∧ (∀ h, d.1 h ≠ 0 → d.1 h ≠ 7 → ∃ r, r < 48 ∧ coB u P h r = true ∧ d.1 h = u r 1 + 1) ∧ ∀ h, d.1 h = 7 ↔ 1 ≤ haN u P k h)
theorem toN_mono {u : Nat → Nat → Nat} {P : Nat → Bool} {k j h : Nat} (hkj : k ≤ j) : toN u P k h ≤ toN u P j h := Nat.add_le_add_left (cA_mono hkj) _
theorem q2_0 {u : Nat → Nat → Nat} {P : Nat → Bool} (hP : SelOk u P) {d : dS} (h : Q1 u P 48 d) : Q2 u P 0 d := by
  obtain ⟨h1, h2, h3⟩ := h
  have e0 : ∀ q, haN u P 0 q = 0 := fun q => cA_0
  have e : toN u P 0 = coN u P 48 := by funext q; unfold toN; rw [e0, Nat.add_zero]
  rcases h1 with h1 | h1
  · right
    rw [e]
    refine ⟨h1, fun r q hr hb => h3 r q hr hb (h1.2.1 q), fun q hq _ => h2 q hq, fun q => ⟨fun h7 => ?_, fun h => by rw [e0] at h; omega⟩⟩
    obtain ⟨r, a, b, c⟩ := h2 q (by omega)
    have := (hP.1 r a (coB_iff.mp b).1).1
    omega
  · left; rw [e]; exact h1
theorem q2_step {u : Nat → Nat → Nat} {P : Nat → Bool} (hP : SelOk u P) {k : Nat} (hk : k < 48) {d : dS} (h : Q2 u P k d) : Q2 u P (k + 1) (match P k with | true => dhand d (u k 2) (u k 1) | false => d) := by
  cases hc : P k with
  | false =>
    have e1 : haN u P (k + 1) = haN u P k := by funext q; rw [haN_s]; unfold haB; rw [hc]; rfl
    have e : toN u P (k + 1) = toN u P k := by funext q; unfold toN; rw [e1]
    show Q2 u P (k + 1) d
    unfold Q2
    rw [e, e1]; exact h
  | true =>
    obtain ⟨b1, b2, b3⟩ := hP.1 k hk hc
    show Q2 u P (k + 1) (dhand d (u k 2) (u k 1))
    have hbad : ∀ g, BadS d (toN u P k) → BadS (dmark d g 7) (toN u P (k + 1)) := fun g hb => by
      obtain ⟨a, q, b⟩ := hb
      refine ⟨?_, q, by have := toN_mono (u := u) (P := P) (k := k) (j := k + 1) (h := q) (by omega); omega⟩
      show (if d.1 g = 0 then d.2.2.2 else 1) = 1
      rw [a]; split <;> rfl
    cases hs : u k 2 with
    | zero =>
      have e1 : haN u P (k + 1) = haN u P k := by
        funext q; rw [haN_s]; unfold haB; rw [decide_eq_false (by omega), Bool.false_and, Bool.and_false]; rfl
      have e : toN u P (k + 1) = toN u P k := by funext q; unfold toN; rw [e1]
      show Q2 u P (k + 1) d
      unfold Q2
      rw [e, e1]; exact h
    | succ t =>
      show Q2 u P (k + 1) (if d.1 t = u k 1 + 1 then d else dmark d t 7)
      rcases h with h | ⟨hg, h4, h5, h6⟩
      · left
        split
        · exact bad_more h (fun q => toN_mono (by omega))
        · exact hbad t h
      · cases hl : liB u P k with
        | true =>
          have e1 : haN u P (k + 1) = haN u P k := by
            funext q; rw [haN_s]; unfold haB; rw [hl, Bool.not_true, Bool.and_false, Bool.and_false]; rfl
          have e : toN u P (k + 1) = toN u P k := by funext q; unfold toN; rw [e1]
          obtain ⟨q, _, hq, hq2⟩ := oA_iff.mp hl
          rw [Bool.and_eq_true, decide_eq_true_iff] at hq2
          have hq48 : q < 48 := by omega
          have bq := hP.1 q hq48 hq2.1
          have hm := h4 q t hq48 (coB_iff.mpr ⟨hq2.1, by omega, by omega⟩)
          rw [hq2.2.1] at hm
          rw [if_pos hm]
          right
          rw [e, e1]
          exact ⟨hg, h4, h5, h6⟩
        | false =>
          have e1 : haN u P (k + 1) = plT (haN u P k) t := by
            funext q; rw [haN_s]; unfold haB plT; rw [hl, hc, Bool.not_false, Bool.and_true, Bool.true_and]
            by_cases c : q = t
            · rw [decide_eq_true (show u k 2 = q + 1 by omega), decide_eq_true c]
            · rw [decide_eq_false (show ¬ u k 2 = q + 1 by omega), decide_eq_false c]
          have e : toN u P (k + 1) = plT (toN u P k) t := by
            funext q; unfold toN; rw [e1]; unfold plT; rw [Nat.add_assoc]
          have hne : ¬ d.1 t = u k 1 + 1 := fun hm => by
            obtain ⟨r, r1, r2, r3⟩ := h5 t (by omega) (by omega)
            have r2' := coB_iff.mp r2
            have br := hP.1 r r1 r2'.1
            have hrk : r ≠ k := fun w => by rw [w] at r2'; omega
            have hov := hP.2 r k r1 hk r2'.1 hc hrk (by omega)
            have hl2 : liB u P k = true := oA_iff.mpr ⟨r, Nat.zero_le _, by omega, by
              rw [Bool.and_eq_true, decide_eq_true_iff]
              exact ⟨r2'.1, by omega, by omega⟩⟩
            rw [hl] at hl2
            exact absurd hl2 (by decide)
          rw [if_neg hne, Q2, e]
          by_cases c0 : toN u P k t = 0
          · right
            have m0 := (hg.2.2.1 t).mpr c0
            refine ⟨good_mark hg (by omega) (by omega) c0, fun r q hr hb => ?_, fun q q1 q2 => ?_, fun q => ?_⟩
            · show updN d.1 t 7 q = _
              by_cases c : q = t
              · subst c
                have := h4 r q hr hb
                omega
              · rw [updN_n c]; exact h4 r q hr hb
            · have q1 : updN d.1 t 7 q ≠ 0 := q1
              have q2 : updN d.1 t 7 q ≠ 7 := q2
              show ∃ r, r < 48 ∧ coB u P q r = true ∧ updN d.1 t 7 q = u r 1 + 1
              by_cases c : q = t
              · rw [c, updN_s] at q2; omega
              · rw [updN_n c] at q1 q2 ⊢; exact h5 q q1 q2
            · show updN d.1 t 7 q = 7 ↔ _
              rw [e1]
              by_cases c : q = t
              · rw [c, updN_s, plT_s]; omega
              · rw [updN_n c, plT_n c]; exact h6 q
          · left; exact good_bad hg c0
theorem q2_all {u : Nat → Nat → Nat} {P : Nat → Bool} (hP : SelOk u P) : ∀ (n k : Nat) (d : dS), k + n = 48 → Q2 u P k d → Q2 u P 48 (dF2 u P k n d) := by
  intro n
  induction n with
  | zero =>
    intro k d h1 h
    obtain rfl : k = 48 := by omega
    exact h
  | succ n ih =>
    intro k d h1 h
    exact ih (k + 1) _ (by omega) (q2_step hP (by omega) h)
/-- the hour at which a duty begins, by rank -/
def bgR (u : Nat → Nat → Nat) (hv : Nat) (P : Nat → Bool) (r : Nat) : Nat := if hv = 0 ∨ u r 2 = 0 ∨ liB u P r = true then u r 2 else u r 2 - 1
def dcR (u : Nat → Nat → Nat) (hv : Nat) (P : Nat → Bool) (h r : Nat) : Bool := P r && decide (bgR u hv P r ≤ h ∧ h < u r 3)
def dRN (u : Nat → Nat → Nat) (hv : Nat) (P : Nat → Bool) (h : Nat) : Nat := cA (dcR u hv P h) 0 48
theorem cA_split2 {p1 p2 q : Nat → Bool} : ∀ (n k : Nat), (∀ i, k ≤ i → i < k + n → (q i).toNat = (p1 i).toNat + (p2 i).toNat) → cA q k n = cA p1 k n + cA p2 k n
  | 0, _, _ => rfl
  | n + 1, k, h => by
    have h1 := cA_split2 n (k + 1) (fun i a b => h i (by omega) (by omega))
    have h2 := h k (by omega) (by omega)
    show (q k).toNat + cA q (k + 1) n = ((p1 k).toNat + cA p1 (k + 1) n) + ((p2 k).toNat + cA p2 (k + 1) n)
    omega
theorem dRN_1 {u : Nat → Nat → Nat} {P : Nat → Bool} (hP : SelOk u P) (h : Nat) : dRN u 1 P h = toN u P 48 h := by
  unfold dRN toN coN haN
  refine cA_split2 48 0 (fun r _ hr => ?_)
  unfold dcR coB haB
  cases hc : P r with
  | false => rfl
  | true =>
    have b := hP.1 r (by omega) hc
    rw [Bool.true_and, Bool.true_and, Bool.true_and]
    unfold bgR
    cases hl : liB u P r with
    | true =>
      rw [if_pos (Or.inr (Or.inr rfl)), Bool.not_true, Bool.and_false]; rfl
    | false =>
      rw [Bool.not_false, Bool.and_true]
      by_cases c0 : u r 2 = 0
      · rw [if_pos (Or.inr (Or.inl c0)), decide_eq_false (show ¬ u r 2 = h + 1 by omega)]; rfl
      · rw [if_neg (by simp [c0])]
        by_cases c1 : u r 2 = h + 1
        · rw [decide_eq_true c1, decide_eq_true (show u r 2 - 1 ≤ h ∧ h < u r 3 by omega), decide_eq_false (show ¬ (u r 2 ≤ h ∧ h < u r 3) by omega)]; rfl
        · rw [decide_eq_false c1]
          by_cases c2 : u r 2 ≤ h ∧ h < u r 3
          · rw [decide_eq_true c2, decide_eq_true (by omega)]; rfl
          · rw [decide_eq_false c2, decide_eq_false (by omega)]; rfl
theorem dRN_0 {u : Nat → Nat → Nat} {P : Nat → Bool} (h : Nat) : dRN u 0 P h = coN u P 48 h := by
  unfold dRN coN
  refine cA_congr 48 0 (fun r _ hr => ?_)
  unfold dcR coB bgR
  rw [if_pos (Or.inl rfl)]
/-- the class's duties against the counts -/
theorem duty_math {u : Nat → Nat → Nat} {P : Nat → Bool} (hP : SelOk u P) {hv : Nat} (hhv : hv ≤ 1) : BadS (dAll u hv P) (dRN u hv P) ∨ (GoodS (dAll u hv P) (dRN u hv P) ∧ ∀ h, (dAll u hv P).1 h = 7 ↔ hv = 1 ∧ 1 ≤ haN u P 48 h) := by
  have q1 := q1_all hP 48 0 d0 rfl q1_0
  by_cases c : hv = 1
  · subst c
    have e : dRN u 1 P = toN u P 48 := funext fun h => dRN_1 hP h
    have q2 := q2_all hP 48 0 _ rfl (q2_0 hP q1)
    have ed : dAll u 1 P = dF2 u P 0 48 (dF1 u P 0 48 d0) := if_pos rfl
    rw [e, ed]
    rcases q2 with h | ⟨h1, h2, h3, h4⟩
    · exact Or.inl h
    · exact Or.inr ⟨h1, fun h => ⟨fun w => ⟨rfl, (h4 h).mp w⟩, fun w => (h4 h).mpr w.2⟩⟩
  · obtain rfl : hv = 0 := by omega
    have e : dRN u 0 P = coN u P 48 := funext fun h => dRN_0 h
    have ed : dAll u 0 P = dF1 u P 0 48 d0 := if_neg (by omega)
    rw [e, ed]
    obtain ⟨h1, h2, h3⟩ := q1
    rcases h1 with h1 | h1
    · refine Or.inr ⟨h1, fun h => ⟨fun w => ?_, fun w => by omega⟩⟩
      obtain ⟨r, a, b, d⟩ := h2 h (by omega)
      have := (hP.1 r a (coB_iff.mp b).1).1
      omega
    · exact Or.inl h1
