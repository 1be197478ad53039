/-! rests: rows of hours, in the class and in the reference -/
/-- len hours without duty one after the other from p on -/
def frP (f : Nat → Bool) (len p : Nat) : Prop := ∀ i, p ≤ i → i < p + len → f i = true
def hasR (f : Nat → Bool) (len t : Nat) : Prop := ∃ p, t ≤ p ∧ p + len ≤ t + 24 ∧ frP f len p
/-- how long the run is that ends ahead of k, of hours from a on -/
def RunOk (f : Nat → Bool) (a k run : Nat) : Prop := run ≤ k - a ∧ a ≤ k ∧ (∀ i, k - run ≤ i → i < k → f i = true) ∧ (run = k - a ∨ f (k - run - 1) = false)
theorem run_t {f : Nat → Bool} {a k run : Nat} (h : RunOk f a k run) (hf : f k = true) : RunOk f a (k + 1) (run + 1) := by
  obtain ⟨h1, h2, h3, h4⟩ := h
  refine ⟨by omega, by omega, fun i a1 b1 => ?_, ?_⟩
  · by_cases c : i = k
    · rw [c]; exact hf
    · exact h3 i (by omega) (by omega)
  · rcases h4 with h4 | h4
    · left; omega
    · right; rw [show k + 1 - (run + 1) - 1 = k - run - 1 by omega]; exact h4
theorem run_f {f : Nat → Bool} {a k run : Nat} (h : RunOk f a k run) (hf : f k = false) : RunOk f a (k + 1) 0 := by
  obtain ⟨h1, h2, h3, h4⟩ := h
  exact ⟨by omega, by omega, fun i a1 b1 => by omega, Or.inr (by rw [show k + 1 - 0 - 1 = k by omega]; exact hf)⟩
/-- the latest start of a rest of len hours that ends by k -/
def LatOk (f : Nat → Bool) (len a k : Nat) (o : Option Nat) : Prop := match o with
  | none => ∀ p, a ≤ p → p + len ≤ k → ¬ frP f len p
  | some p => a ≤ p ∧ p + len ≤ k ∧ frP f len p ∧ ∀ q, p < q → q + len ≤ k → ¬ frP f len q
theorem lat_step {f : Nat → Bool} {len a k run : Nat} {o : Option Nat} (hl : 0 < len) (hr : RunOk f a (k + 1) run) (ho : LatOk f len a k o) : LatOk f len a (k + 1) (if run < len then o else some (k + 1 - len)) := by
  obtain ⟨h1, h2, h3, h4⟩ := hr
  by_cases c : run < len
  · rw [if_pos c]
    have key : a ≤ k + 1 - len → len ≤ k + 1 → ¬ frP f len (k + 1 - len) := fun q1 q2 hf => by
      rcases h4 with h4 | h4
      · omega
      · have := hf (k + 1 - run - 1) (by omega) (by omega)
        rw [h4] at this
        exact absurd this (by decide)
    cases o with
    | none =>
      intro p q1 q2 hf
      by_cases e : p + len ≤ k
      · exact ho p q1 e hf
      · rw [show p = k + 1 - len by omega] at hf q1
        exact key q1 (by omega) hf
    | some p =>
      refine ⟨ho.1, by have := ho.2.1; omega, ho.2.2.1, fun q q1 q2 hf => ?_⟩
      by_cases e : q + len ≤ k
      · exact ho.2.2.2 q q1 e hf
      · have := ho.1
        rw [show q = k + 1 - len by omega] at hf q1
        exact key (by omega) (by omega) hf
  · rw [if_neg c]
    exact ⟨by omega, by omega, fun i q1 q2 => h3 i (by omega) (by omega), fun q q1 q2 hf => by omega⟩
theorem lat_has {f : Nat → Bool} {len a k t : Nat} {o : Option Nat} (ho : LatOk f len a k o) (ht : a ≤ t) (hk : k = t + 24) : (∃ p, o = some p ∧ t ≤ p) ↔ hasR f len t := by
  constructor
  · rintro ⟨p, rfl, hp⟩
    exact ⟨p, hp, by have := ho.2.1; omega, ho.2.2.1⟩
  · rintro ⟨p, q1, q2, q3⟩
    cases o with
    | none => exact absurd q3 (ho p (by omega) (by omega))
    | some p' =>
      refine ⟨p', rfl, ?_⟩
      rcases Nat.lt_or_ge p' p with d | d
      · exact absurd q3 (ho.2.2.2 p d (by omega))
      · omega
def latN (o : Option Nat) : Nat := match o with
  | none => 0
  | some p => p + 1
theorem dayL_iff {f : Nat → Bool} {len a : Nat} (hl : 0 < len) : ∀ (n k run : Nat) (o : Option Nat), RunOk f a k run → LatOk f len a k o → (dayL f len a k n run (latN o) = true ↔ ∀ t, a ≤ t → k ≤ t + 23 → t + 23 < k + n → hasR f len t) := by
  intro n
  induction n with
  | zero =>
    intro k run o _ _
    exact ⟨fun _ t q1 q2 q3 => by omega, fun _ => rfl⟩
  | succ n ih =>
    intro k run o hr ho
    obtain ⟨run', hrun'⟩ : ∃ r, r = (match f k with | true => run + 1 | false => 0) := ⟨_, rfl⟩
    have hr' : RunOk f a (k + 1) run' := by
      rw [hrun']
      cases hf : f k
      · exact run_f hr hf
      · exact run_t hr hf
    have ho' := lat_step hl hr' ho
    have e : (if run' < len then latN o else k + 2 - len) = latN (if run' < len then o else some (k + 1 - len)) := by
      by_cases c : run' < len
      · rw [if_pos c, if_pos c]
      · rw [if_neg c, if_neg c]
        have := hr'.1
        show k + 2 - len = k + 1 - len + 1
        omega
    have hstep : dayL f len a k (n + 1) run (latN o) = if a + 23 ≤ k ∧ latN (if run' < len then o else some (k + 1 - len)) < k - 22 then false else dayL f len a (k + 1) n run' (latN (if run' < len then o else some (k + 1 - len))) := by
      rw [← e, hrun']; rfl
    rw [hstep]
    generalize (if run' < len then o else some (k + 1 - len)) = o' at *
    have i1 := ih (k + 1) run' o' hr' ho'
    by_cases c : a + 23 ≤ k
    · have hh := lat_has ho' (t := k - 23) (by omega) (by omega)
      by_cases c2 : latN o' < k - 22
      · rw [if_pos ⟨c, c2⟩]
        refine ⟨fun w => (by cases w), fun w => ?_⟩
        obtain ⟨p, hp1, hp2⟩ := hh.mpr (w (k - 23) (by omega) (by omega) (by omega))
        rw [hp1] at c2
        have c2 : p + 1 < k - 22 := c2
        omega
      · rw [if_neg (fun w => c2 w.2), i1]
        have h0 : hasR f len (k - 23) := hh.mp (by
          cases o' with
          | none => exact absurd (show (0 : Nat) < k - 22 by omega) c2
          | some p => exact ⟨p, rfl, by have : ¬ p + 1 < k - 22 := c2; omega⟩)
        constructor
        · intro w t q1 q2 q3
          by_cases e1 : t + 23 = k
          · rw [show t = k - 23 by omega]; exact h0
          · exact w t q1 (by omega) (by omega)
        · intro w t q1 q2 q3
          exact w t q1 (by omega) (by omega)
    · rw [if_neg (fun w => c w.1), i1]
      constructor
      · intro w t q1 q2 q3
        exact w t q1 (by omega) (by omega)
      · intro w t q1 q2 q3
        exact w t q1 (by omega) (by omega)
theorem dayL_0 {f : Nat → Bool} {a : Nat} : ∀ (n k run lat : Nat), dayL f 0 a k n run lat = true
  | 0, _, _, _ => rfl
  | n + 1, k, run, lat => by
    show (if a + 23 ≤ k ∧ (if (match f k with | true => run + 1 | false => 0) < 0 then lat else k + 2 - 0) < k - 22 then false else dayL f 0 a (k + 1) n (match f k with | true => run + 1 | false => 0) (if (match f k with | true => run + 1 | false => 0) < 0 then lat else k + 2 - 0)) = true
    rw [if_neg (Nat.not_lt_zero _), if_neg (fun w => by omega)]
    exact dayL_0 n (k + 1) _ _
theorem dayB_iff {f : Nat → Bool} {len a T : Nat} : dayB f len a T = true ↔ ∀ t, a ≤ t → t < T → hasR f len t := by
  unfold dayB
  by_cases hl : len = 0
  · subst hl
    rw [dayL_0]
    exact ⟨fun _ t _ _ => ⟨t, Nat.le_refl _, by omega, fun i a b => by omega⟩, fun _ => rfl⟩
  · have h := dayL_iff (f := f) (len := len) (a := a) (by omega) (T + 23 - a) a 0 none ⟨by omega, Nat.le_refl _, fun i a b => by omega, Or.inl (by omega)⟩ (fun p q1 q2 => by omega)
    have e : latN none = 0 := rfl
    rw [e] at h
    rw [h]
    constructor
    · intro w t q1 q2
      exact w t q1 (by omega) (by omega)
    · intro w t q1 q2 q3
      exact w t q1 (by omega)
def latM (len : Nat) (o : Option Nat) : Nat := match o with
  | none => 0
  | some p => p + len
theorem drL_iff {f : Nat → Bool} {len : Nat} (hl : 0 < len) : ∀ (n k run : Nat) (o : Option Nat), RunOk f 0 k run → LatOk f len 0 k o → (drL f len k n run (latM len o) = true ↔ ∀ t, k ≤ t + 23 → t + 23 < k + n → hasR f len t) := by
  intro n
  induction n with
  | zero =>
    intro k run o _ _
    exact ⟨fun _ t q2 q3 => by omega, fun _ => rfl⟩
  | succ n ih =>
    intro k run o hr ho
    obtain ⟨run', hrun'⟩ : ∃ r, r = (match f k with | true => run + 1 | false => 0) := ⟨_, rfl⟩
    have hr' : RunOk f 0 (k + 1) run' := by
      rw [hrun']
      cases hf : f k
      · exact run_f hr hf
      · exact run_t hr hf
    have ho' := lat_step hl hr' ho
    have e : (if run' < len then latM len o else k + 1) = latM len (if run' < len then o else some (k + 1 - len)) := by
      by_cases c : run' < len
      · rw [if_pos c, if_pos c]
      · rw [if_neg c, if_neg c]
        have := hr'.1
        show k + 1 = k + 1 - len + len
        omega
    have hstep : drL f len k (n + 1) run (latM len o) = if 23 ≤ k ∧ latM len (if run' < len then o else some (k + 1 - len)) < k + len - 23 then false else drL f len (k + 1) n run' (latM len (if run' < len then o else some (k + 1 - len))) := by
      rw [← e, hrun']; rfl
    rw [hstep]
    generalize (if run' < len then o else some (k + 1 - len)) = o' at *
    have i1 := ih (k + 1) run' o' hr' ho'
    by_cases c : 23 ≤ k
    · have hh := lat_has ho' (t := k - 23) (by omega) (by omega)
      by_cases c2 : latM len o' < k + len - 23
      · rw [if_pos ⟨c, c2⟩]
        refine ⟨fun w => (by cases w), fun w => ?_⟩
        obtain ⟨p, hp1, hp2⟩ := hh.mpr (w (k - 23) (by omega) (by omega))
        rw [hp1] at c2
        have c2 : p + len < k + len - 23 := c2
        omega
      · rw [if_neg (fun w => c2 w.2), i1]
        have h0 : hasR f len (k - 23) := hh.mp (by
          cases o' with
          | none => exact absurd (show (0 : Nat) < k + len - 23 by omega) c2
          | some p => exact ⟨p, rfl, by have : ¬ p + len < k + len - 23 := c2; omega⟩)
        constructor
        · intro w t q2 q3
          by_cases e1 : t + 23 = k
          · rw [show t = k - 23 by omega]; exact h0
          · exact w t (by omega) (by omega)
        · intro w t q2 q3
          exact w t (by omega) (by omega)
    · rw [if_neg (fun w => c w.1), i1]
      constructor
      · intro w t q2 q3
        exact w t (by omega) (by omega)
      · intro w t q2 q3
        exact w t (by omega) (by omega)
theorem drL_0 {f : Nat → Bool} {len : Nat} (hl : 0 < len) : drL f len 0 1200 0 0 = true ↔ ∀ t, t < 1177 → hasR f len t := by
  have h := drL_iff (f := f) hl 1200 0 0 none ⟨by omega, Nat.le_refl _, fun i a b => by omega, Or.inl (by omega)⟩ (fun p q1 q2 => by omega)
  have e : latM len none = 0 := rfl
  rw [e] at h
  rw [h]
  constructor
  · intro w t q
    exact w t (by omega) (by omega)
  · intro w t q2 q3
    exact w t (by omega)
/-- all rests hold, in every row -/
def RAll (s : Nat → Nat) (f : Nat → Bool) : Prop := (∀ t, s 4 ≤ cA f t 24) ∧ (∀ t, hasR f (s 5) t) ∧ ∀ t, s 6 ≤ cA f t 168
theorem cA_full {f : Nat → Bool} : ∀ (n k : Nat), (∀ i, k ≤ i → i < k + n → f i = true) → cA f k n = n
  | 0, _, _ => rfl
  | n + 1, k, h => by rw [cA_t (h k (by omega) (by omega)), cA_full n (k + 1) (fun i a b => h i (by omega) (by omega))]; omega
/-- the rows that are looked at are enough -/
theorem rows_all {least len a T : Nat} {f : Nat → Bool} (h : ∀ t, t < a ∨ T ≤ t → least ≤ cA f t len) : rowB f least len a T = true ↔ ∀ t, least ≤ cA f t len := by
  unfold rowB
  rw [decide_eq_true_iff]
  constructor
  · intro w t
    by_cases c : t < T ∧ a ≤ t
    · exact w t c.1 c.2
    · exact h t (by omega)
  · intro w t _ _; exact w t
theorem days_all {len a T : Nat} {f : Nat → Bool} (h : ∀ t, t < a ∨ T ≤ t → hasR f len t) : dayB f len a T = true ↔ ∀ t, hasR f len t := by
  rw [dayB_iff]
  constructor
  · intro w t
    by_cases c : t < T ∧ a ≤ t
    · exact w t c.2 c.1
    · exact h t (by omega)
  · intro w t _ _; exact w t
theorem hasR_free {f : Nat → Bool} {len t : Nat} (hl : len ≤ 24) (h : ∀ i, t ≤ i → i < t + 24 → f i = true) : hasR f len t := ⟨t, Nat.le_refl _, by omega, fun i a b => h i a (by omega)⟩
/-- the reference's check -/
theorem rsM_iff {s : Nat → Nat} (hG : SG s) {D : Nat → Nat} (hO : DyOk D) : rsM s D = true ↔ (∀ h, D h ≤ 1) ∧ RAll s (fD D) := by
  have g := hG.2.2.2.1
  have fr : ∀ i, 1000 ≤ i → fD D i = true := fun i hi => decide_eq_true (hO.2 i hi)
  have r1 : rowB (fD D) (s 4) 24 0 1001 = true ↔ ∀ t, s 4 ≤ cA (fD D) t 24 := rows_all (fun t ht => by
    rw [cA_full 24 t (fun i a b => fr i (by omega))]; omega)
  have r3 : rowB (fD D) (s 6) 168 0 1001 = true ↔ ∀ t, s 6 ≤ cA (fD D) t 168 := rows_all (fun t ht => by
    rw [cA_full 168 t (fun i a b => fr i (by omega))]; omega)
  have r2 : (decide (s 5 = 0) || drL (fD D) (s 5) 0 1200 0 0) = true ↔ ∀ t, hasR (fD D) (s 5) t := by
    by_cases c : s 5 = 0
    · rw [decide_eq_true c, Bool.true_or, c]
      exact ⟨fun _ t => ⟨t, Nat.le_refl _, by omega, fun i a b => by omega⟩, fun _ => rfl⟩
    · rw [decide_eq_false c, Bool.false_or, drL_0 (by omega)]
      constructor
      · intro w t
        by_cases c2 : t < 1177
        · exact w t c2
        · exact hasR_free (by omega) (fun i a b => fr i (by omega))
      · intro w t _; exact w t
  have r0 : aA (fun h => decide (D h ≤ 1)) 0 1200 = true ↔ ∀ h, D h ≤ 1 := by
    rw [aA_iff]
    constructor
    · intro w h
      by_cases c : h < 1200
      · exact of_decide_eq_true (w h (by omega) (by omega))
      · rw [hO.2 h (by omega)]; omega
    · intro w h _ _; exact decide_eq_true (w h)
  unfold rsM RAll
  rw [Bool.and_eq_true, Bool.and_eq_true, Bool.and_eq_true, r0, r1, r2, r3]
/-- the class's check, of rows from p - 24 (p - 168) on, ahead of T -/
theorem rstB_iff {s : Nat → Nat} {d : dS} {C : Nat → Nat} (hg : GoodS d C) {p T : Nat} (h1 : ∀ t, t < p - 24 ∨ T ≤ t → s 4 ≤ cA (fD C) t 24) (h2 : ∀ t, t < p - 24 ∨ T ≤ t → hasR (fD C) (s 5) t) (h3 : ∀ t, t < p - 168 ∨ T ≤ t → s 6 ≤ cA (fD C) t 168) : rstB d s p T = true ↔ RAll s (fD C) := by
  have ef : fB d = fD C := by
    funext t
    unfold fB fD
    exact decide_eq_decide.mpr (hg.2.2.1 t)
  unfold rstB
  rw [ef, decide_eq_true hg.1, Bool.true_and, Bool.and_eq_true, Bool.and_eq_true, rows_all h1, days_all h2, rows_all h3]
  rfl
theorem rstB_bad {s : Nat → Nat} {d : dS} {C : Nat → Nat} (hg : BadS d C) {p T : Nat} : rstB d s p T = false := by
  unfold rstB
  rw [decide_eq_false (by rw [hg.1]; omega), Bool.false_and]
