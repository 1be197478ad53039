/-! sailings by rank and by number -/
theorem sA_swap {F : Nat → Nat → Nat} (m : Nat) : ∀ (n k : Nat), sA (fun i => sA (fun j => F i j) 0 m) k n = sA (fun j => sA (fun i => F i j) k n) 0 m
  | 0, k => by rw [sA_0]; exact (sA_0' m 0).symm
  | n + 1, k => by
    rw [sA_s, sA_swap m n (k + 1), ← sA_add]
    rfl
theorem cA_sA {p : Nat → Bool} : ∀ (n k : Nat), cA p k n = sA (fun i => (p i).toNat) k n
  | 0, _ => rfl
  | n + 1, k => by
    show (p k).toNat + cA p (k + 1) n = _
    rw [cA_sA n (k + 1), sA_s]
theorem cA_le1 {p : Nat → Bool} : ∀ (n k : Nat), (∀ i j, k ≤ i → i < k + n → k ≤ j → j < k + n → p i = true → p j = true → i = j) → cA p k n ≤ 1
  | 0, _, _ => Nat.zero_le _
  | n + 1, k, h => by
    cases c : p k
    · rw [cA_f c]
      exact cA_le1 n (k + 1) (fun i j a b a' b' => h i j (by omega) (by omega) (by omega) (by omega))
    · rw [cA_t c, cA_all0 n (k + 1) (fun i a b => by
        cases d : p i
        · rfl
        · have := h i k (by omega) (by omega) (by omega) (by omega) d c
          omega)]
      omega
theorem sA_all1 {c : Nat → Nat} : ∀ (n k : Nat), (∀ i, k ≤ i → i < k + n → c i ≤ 1) → sA c k n ≤ n ∧ (sA c k n = n → ∀ i, k ≤ i → i < k + n → c i = 1)
  | 0, k, _ => ⟨Nat.le_refl _, fun _ i a b => by omega⟩
  | n + 1, k, h => by
    obtain ⟨h1, h2⟩ := sA_all1 (c := c) n (k + 1) (fun i a b => h i (by omega) (by omega))
    have h3 := h k (by omega) (by omega)
    rw [sA_s]
    refine ⟨by omega, fun e i a b => ?_⟩
    by_cases q : i = k
    · subst q; omega
    · exact h2 (by omega) i (by omega) (by omega)
/-- σ is a permutation of the numbers below n -/
def Prm (σ : Nat → Nat) (n : Nat) : Prop := (∀ r, r < n → σ r < n) ∧ ∀ r q, r < n → q < n → σ r = σ q → r = q
theorem sA_const {c : Nat} : ∀ (n k : Nat), sA (fun _ => c) k n = c * n
  | 0, _ => rfl
  | n + 1, k => by rw [sA_s, sA_const n (k + 1), Nat.mul_add]; omega
theorem prm_one {σ : Nat → Nat} {n : Nat} (h : Prm σ n) : ∀ k, k < n → cA (fun r => decide (σ r = k)) 0 n = 1 := by
  have h1 : ∀ i, 0 ≤ i → i < 0 + n → cA (fun r => decide (σ r = i)) 0 n ≤ 1 := fun i _ _ => cA_le1 n 0 (fun a b _ ha _ hb e1 e2 => h.2 a b (by omega) (by omega) ((of_decide_eq_true e1).trans (of_decide_eq_true e2).symm))
  have h2 : sA (fun k => cA (fun r => decide (σ r = k)) 0 n) 0 n = n := by
    have e1 : (fun k => cA (fun r => decide (σ r = k)) 0 n) = fun k => sA (fun r => (decide (σ r = k)).toNat) 0 n := funext fun k => cA_sA n 0
    rw [e1, sA_swap n n 0]
    rw [sA_congr (g := fun _ => 1) n 0 (fun r _ hr => by
      have e : sA (fun k => (decide (σ r = k)).toNat) 0 n = sA (fun k => (decide (k = σ r)).toNat) 0 n := sA_congr n 0 (fun k _ _ => by
        by_cases c : σ r = k
        · rw [decide_eq_true c, decide_eq_true c.symm]
        · rw [decide_eq_false c, decide_eq_false (fun w => c w.symm)])
      rw [e, sA_one n 0 (by omega) (by have := h.1 r (by omega); omega)]), sA_const]
    omega
  intro k hk
  exact (sA_all1 n 0 h1).2 h2 k (by omega) (by omega)
theorem prm_ex {σ : Nat → Nat} {n k : Nat} (h : Prm σ n) (hk : k < n) : ∃ r, r < n ∧ σ r = k := by
  obtain ⟨r, _, a, b⟩ := cA_ex (Nat.le_of_eq (prm_one h k hk).symm)
  exact ⟨r, by omega, of_decide_eq_true b⟩
theorem sA_pick {f : Nat → Nat} {t n : Nat} (ht : t < n) : sA (fun k => (decide (t = k)).toNat * f k) 0 n = f t := by
  have key : ∀ (m k : Nat), k ≤ t → t < k + m → sA (fun i => (decide (t = i)).toNat * f i) k m = f t := by
    intro m
    induction m with
    | zero => intro k _ _; omega
    | succ m ih =>
      intro k h1 h2
      rw [sA_s]
      by_cases c : t = k
      · subst c
        rw [sA_z m (t + 1) (fun i a b => by rw [decide_eq_false (by omega)]; exact Nat.zero_mul _), decide_eq_true rfl]
        show 1 * f t + 0 = f t
        omega
      · rw [ih (k + 1) (by omega) (by omega), decide_eq_false c]
        show 0 * f k + f t = f t
        omega
  exact key n 0 (by omega) (by omega)
theorem sA_mulr {c : Nat} {f : Nat → Nat} : ∀ (n k : Nat), sA (fun i => f i * c) k n = sA f k n * c
  | 0, _ => by rw [sA_0, sA_0, Nat.zero_mul]
  | n + 1, k => by rw [sA_s, sA_s, sA_mulr n (k + 1), Nat.add_mul]
theorem sA_perm {σ : Nat → Nat} {n : Nat} (h : Prm σ n) (f : Nat → Nat) : sA (fun r => f (σ r)) 0 n = sA f 0 n := by
  rw [sA_congr (g := fun r => sA (fun k => (decide (σ r = k)).toNat * f k) 0 n) n 0 (fun r _ hr => (sA_pick (h.1 r (by omega))).symm)]
  rw [sA_swap n n 0]
  refine sA_congr n 0 (fun k _ hk => ?_)
  rw [sA_mulr, ← cA_sA, prm_one h k (by omega), Nat.one_mul]
theorem sA_part {f : Nat → Nat} {n m : Nat} (hn : n ≤ m) (h : ∀ r, n ≤ r → r < m → f r = 0) : sA f 0 m = sA f 0 n := by
  obtain ⟨j, rfl⟩ : ∃ j, m = n + j := ⟨m - n, by omega⟩
  induction j with
  | zero => rfl
  | succ j ih =>
    rw [← Nat.add_assoc, sA_last, ih (by omega) (fun r a b => h r a (by omega)), Nat.zero_add, h _ (by omega) (by omega)]
    omega
theorem sA_num {σ : Nat → Nat} {n : Nat} (hn : n ≤ 48) (h : Prm σ n) {p q : Nat → Nat} (h1 : ∀ r, r < n → p r = q (σ r)) (h2 : ∀ r, n ≤ r → r < 48 → p r = 0) : sA p 0 48 = sA q 0 n := by
  rw [sA_part hn h2, sA_congr (g := fun r => q (σ r)) n 0 (fun r _ hr => h1 r (by omega)), sA_perm h]
theorem cA_num {σ : Nat → Nat} {n : Nat} (hn : n ≤ 48) (h : Prm σ n) {p q : Nat → Bool} (h1 : ∀ r, r < n → p r = q (σ r)) (h2 : ∀ r, n ≤ r → r < 48 → p r = false) : cA p 0 48 = cA q 0 n := by
  rw [cA_sA, cA_sA]
  exact sA_num hn h (fun r hr => by rw [h1 r hr]) (fun r a b => by rw [h2 r a b]; rfl)
theorem oA_num {σ : Nat → Nat} {n : Nat} (hn : n ≤ 48) (h : Prm σ n) {p q : Nat → Bool} (h1 : ∀ r, r < n → p r = q (σ r)) (h2 : ∀ r, n ≤ r → r < 48 → p r = false) : oA p 0 48 = oA q 0 n := by
  rw [Bool.eq_iff_iff, oA_iff, oA_iff]
  constructor
  · rintro ⟨r, _, a, b⟩
    by_cases c : r < n
    · exact ⟨σ r, Nat.zero_le _, by have := h.1 r c; omega, by rw [← h1 r c]; exact b⟩
    · rw [h2 r (by omega) (by omega)] at b; exact absurd b (by decide)
  · rintro ⟨k, _, a, b⟩
    obtain ⟨r, hr, e⟩ := prm_ex h (show k < n by omega)
    exact ⟨r, Nat.zero_le _, by omega, by rw [h1 r hr, e]; exact b⟩
/-- sorted by start, of several by number -/
def Srt (st : Nat → Nat) (σ : Nat → Nat) (n : Nat) : Prop := ∀ r q, r < q → q < n → st (σ r) < st (σ q) ∨ (st (σ r) = st (σ q) ∧ σ r < σ q)
/-- what the loop over numbers holds: the best so far -/
def BstOk (st : Nat → Nat) (q : Nat → Bool) (k : Nat) (o : Option Nat) : Prop := match o with
  | none => ∀ i, i < k → q i = false
  | some j => j < k ∧ q j = true ∧ ∀ i, i < k → q i = true → st j < st i ∨ (st j = st i ∧ j ≤ i)
theorem bsF_ok {st : Nat → Nat} {q : Nat → Bool} : ∀ (n k : Nat) (o : Option Nat), BstOk st q k o → BstOk st q (k + n) (bsF st q k n o) := by
  intro n
  induction n with
  | zero => intro k o h; exact h
  | succ n ih =>
    intro k o h
    rw [show k + (n + 1) = k + 1 + n by omega]
    cases c : q k with
    | false =>
      rw [bsF_f c]
      refine ih (k + 1) o ?_
      cases o with
      | none =>
        intro i hi
        by_cases e : i = k
        · rw [e]; exact c
        · exact h i (by omega)
      | some j =>
        refine ⟨by have := h.1; omega, h.2.1, fun i hi hq => ?_⟩
        by_cases e : i = k
        · rw [e, c] at hq; exact absurd hq (by decide)
        · exact h.2.2 i (by omega) hq
    | true =>
      cases o with
      | none =>
        rw [bsF_n c]
        refine ih (k + 1) (some k) ⟨by omega, c, fun i hi hq => ?_⟩
        by_cases e : i = k
        · right; rw [e]; exact ⟨rfl, Nat.le_refl _⟩
        · rw [h i (by omega)] at hq; exact absurd hq (by decide)
      | some j =>
        rw [bsF_s c]
        by_cases d : st k < st j
        · rw [if_pos d]
          refine ih (k + 1) (some k) ⟨by omega, c, fun i hi hq => ?_⟩
          by_cases e : i = k
          · right; rw [e]; exact ⟨rfl, Nat.le_refl _⟩
          · rcases h.2.2 i (by omega) hq with w | w
            · left; omega
            · left; omega
        · rw [if_neg d]
          have hj := h.1
          refine ih (k + 1) (some j) ⟨by omega, h.2.1, fun i hi hq => ?_⟩
          by_cases e : i = k
          · subst e
            by_cases g : st j < st i
            · exact Or.inl g
            · right; omega
          · exact h.2.2 i (by omega) hq
theorem nA_first {p : Nat → Bool} : ∀ (n k : Nat), (nA p k n 0 = none ∧ ∀ i, k ≤ i → i < k + n → p i = false) ∨ ∃ r, nA p k n 0 = some r ∧ k ≤ r ∧ r < k + n ∧ p r = true ∧ ∀ i, k ≤ i → i < r → p i = false
  | 0, k => Or.inl ⟨rfl, fun i a b => by omega⟩
  | n + 1, k => by
    cases c : p k with
    | true => exact Or.inr ⟨k, nA_t0 c, Nat.le_refl _, by omega, c, fun i a b => by omega⟩
    | false =>
      rw [nA_f c]
      rcases nA_first (p := p) n (k + 1) with ⟨h1, h2⟩ | ⟨r, h1, h2, h3, h4, h5⟩
      · left
        refine ⟨h1, fun i a b => ?_⟩
        by_cases e : i = k
        · rw [e]; exact c
        · exact h2 i (by omega) (by omega)
      · right
        refine ⟨r, h1, by omega, by omega, h4, fun i a b => ?_⟩
        by_cases e : i = k
        · rw [e]; exact c
        · exact h5 i (by omega) b
/-- the first by rank is the best by number -/
theorem first_num {σ : Nat → Nat} {n : Nat} (hn : n ≤ 48) (h : Prm σ n) {st : Nat → Nat} (hs : Srt st σ n) {p q : Nat → Bool} (h1 : ∀ r, r < n → p r = q (σ r)) (h2 : ∀ r, n ≤ r → r < 48 → p r = false) : (nA p 0 48 0).map σ = bsF st q 0 n none := by
  have hb := bsF_ok (st := st) (q := q) n 0 none (fun i hi => by omega)
  rw [Nat.zero_add] at hb
  rcases nA_first (p := p) 48 0 with ⟨e1, e2⟩ | ⟨r, e1, _, e2, e3, e4⟩
  · rw [e1]
    cases ho : bsF st q 0 n none with
    | none => rfl
    | some j =>
      rw [ho] at hb
      obtain ⟨r, hr, e⟩ := prm_ex h hb.1
      have := e2 r (by omega) (by omega)
      rw [h1 r hr, e, hb.2.1] at this
      exact absurd this (by decide)
  · rw [e1]
    have hr : r < n := by
      rcases Nat.lt_or_ge r n with g | g
      · exact g
      · rw [h2 r g (by omega)] at e3; exact absurd e3 (by decide)
    have hq : q (σ r) = true := by rw [← h1 r hr]; exact e3
    cases ho : bsF st q 0 n none with
    | none =>
      rw [ho] at hb
      rw [hb (σ r) (h.1 r hr)] at hq
      exact absurd hq (by decide)
    | some j =>
      rw [ho] at hb
      obtain ⟨r', hr', e⟩ := prm_ex h hb.1
      have hp' : p r' = true := by rw [h1 r' hr', e]; exact hb.2.1
      have hle : r ≤ r' := by
        rcases Nat.lt_or_ge r' r with g | g
        · rw [e4 r' (by omega) g] at hp'; exact absurd hp' (by decide)
        · exact g
      show some (σ r) = some j
      rcases Nat.lt_or_ge r r' with g | g
      · have s1 := hs r r' g hr'
        rw [e] at s1
        have s2 := hb.2.2 (σ r) (h.1 r hr) hq
        have : σ r = j := by omega
        rw [this]
      · rw [show r = r' by omega, e]
