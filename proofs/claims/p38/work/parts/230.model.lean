/-! the reference: its row, its numbers -/
/-- what the numbers of a row may be -/
def RB (s : Nat → Nat) : Prop := SG s ∧ (∀ k, k < 48 → s (9 + 8 * k + 0) ≤ 2 ∧ s (9 + 8 * k + 1) < 6 ∧ s (9 + 8 * k + 2) ≤ 900 ∧ s (9 + 8 * k + 3) ≤ 12 ∧ s (9 + 8 * k + 4) ≤ 3 ∧ s (9 + 8 * k + 5) ≤ 3 ∧ s (9 + 8 * k + 6) ≤ 3 ∧ s (9 + 8 * k + 7) ≤ 3) ∧ (∀ k, k < 48 → ∀ m, m < 12 → s (393 + 12 * k + m) ≤ 4) ∧ ∀ q, q < 4 → s (1041 + q) ≤ 12 ∧ ∀ i, i < 12 → s (1045 + 12 * q + i) < 12
/-- a sailing's record, by its number -/
def recS (s : Nat → Nat) (k : Nat) : Nat → Nat
  | 0 => k
  | 1 => s (9 + 8 * k + 1)
  | 2 => s (9 + 8 * k + 2)
  | 3 => s (9 + 8 * k + 2) + s (9 + 8 * k + 3)
  | 4 => 1000 * s (9 + 8 * k + 4) + 100 * s (9 + 8 * k + 5) + 10 * s (9 + 8 * k + 6) + s (9 + 8 * k + 7)
  | 5 => s (9 + 8 * k + 0)
  | 10 => s (9 + 8 * k + 4)
  | 11 => s (9 + 8 * k + 5)
  | 12 => s (9 + 8 * k + 6)
  | 13 => s (9 + 8 * k + 7)
  | i => if 20 ≤ i ∧ i < 32 then s (393 + 12 * k + (i - 20)) else 0
theorem recS_20 {s : Nat → Nat} {k m : Nat} (hm : m < 12) : recS s k (20 + m) = s (393 + 12 * k + m) := by
  obtain ⟨i, hi⟩ : ∃ i, i = 20 + m := ⟨_, rfl⟩
  rw [← hi]
  have : recS s k i = if 20 ≤ i ∧ i < 32 then s (393 + 12 * k + (i - 20)) else 0 := by
    obtain ⟨j, rfl⟩ : ∃ j, i = j + 14 := ⟨i - 14, by omega⟩
    rfl
  rw [this, if_pos (by omega), show i - 20 = m by omega]
theorem recS_10 {s : Nat → Nat} {k q : Nat} (hq : q < 4) : recS s k (10 + q) = s (9 + 8 * k + (4 + q)) := by
  rcases (show q = 0 ∨ q = 1 ∨ q = 2 ∨ q = 3 by omega) with rfl | rfl | rfl | rfl <;> rfl
theorem le_rl {x : Int32} {p : Nat} (hp : p < 100000) : (x ≤ rl p) = (x < nI p) := by
  have t := rl_toInt hp
  have t2 := nI_toInt (n := p) (by omega)
  refine propext ⟨fun q => Int32.lt_iff_toInt_lt.mpr ?_, fun q => Int32.le_iff_toInt_le.mpr ?_⟩
  · have q := Int32.le_iff_toInt_le.mp q
    omega
  · have q := Int32.lt_iff_toInt_lt.mp q
    omega
theorem le_3 {x : Int32} : (x ≤ nI 3) = (x < nI 4) := le_rl (p := 4) (by omega)
/-- how many have a place of a role -/
def tkM (s : Nat → Nat) (k q : Nat) : Nat := cA (fun m => decide (recS s k (20 + m) = q + 1)) 0 (s 2)
def tkO (s : Nat → Nat) (k : Nat) : Nat := tkM s k 0 + tkM s k 1 + tkM s k 2 + tkM s k 3
/-- whether a sailing counts for the duties of a member -/
def hdB (s : Nat → Nat) (m k : Nat) : Bool := decide (recS s k (20 + m) ≠ 0 ∧ recS s k 5 ≠ 2)
/-- the same ferry's duty that ends at a start -/
def lkB (s : Nat → Nat) (m k k' : Nat) : Bool := hdB s m k' && decide (recS s k' 1 = recS s k 1 ∧ recS s k' 3 = recS s k 2)
def bgN (s : Nat → Nat) (m k : Nat) : Nat := if s 7 = 0 ∨ recS s k 2 = 0 ∨ oA (lkB s m k) 0 (s 1) = true then recS s k 2 else recS s k 2 - 1
