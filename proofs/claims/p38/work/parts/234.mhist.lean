/-! the reference: digits, what hinders, copies of rows, its history, ladders -/
def dvN : Nat → Nat → Nat
  | 0, v => v
  | n + 1, v => dvN n (v / 10)
theorem dgt_dv {v q : Nat} (hq : q < 4) : dvN (3 - q) v % 10 = dgt v q := by
  rcases (show q = 0 ∨ q = 1 ∨ q = 2 ∨ q = 3 by omega) with rfl | rfl | rfl | rfl <;> rfl
theorem dgt_lt (v q : Nat) : dgt v q < 10 := by
  match q with
  | 0 => show v / 10 / 10 / 10 % 10 < 10; omega
  | 1 => show v / 10 / 10 % 10 < 10; omega
  | 2 => show v / 10 % 10 < 10; omega
  | k + 3 => show v % 10 < 10; omega
def ohB (s : Nat → Nat) (f a b : Int32) (k : Nat) : Bool := decide (recS s k 5 ≠ 2 ∧ nI (recS s k 1) = f ∧ nI (recS s k 2) < b ∧ a < nI (recS s k 3))
def refM (s : Nat → Nat) (f st h v : Int32) : Int32 :=
  if ¬ (nI 0 ≤ f ∧ f ≤ nI 5) then -nI 1 else if ¬ ((nI (s 0) ≤ st ∧ st ≤ nI 900) ∧ (nI 1 ≤ h ∧ h ≤ nI 12) ∧ setB v = true) then -nI 2 else if oA (ohB s f st (st + h)) 0 (s 1) = true then -nI 4 else if s 1 = 48 then -nI 3 else nI 0
/-- the row after a sailing came -/
def newM (s : Nat → Nat) (f st h v : Nat) : Nat → Nat :=
  updN (updN (updN (updN (updN (updN (updN (updN (updN s 1 (s 1 + 1)) (9 + 8 * s 1 + 0) 0) (9 + 8 * s 1 + 1) f) (9 + 8 * s 1 + 2) st) (9 + 8 * s 1 + 3) h) (9 + 8 * s 1 + (4 + 0)) (dgt v 0)) (9 + 8 * s 1 + (4 + 1)) (dgt v 1)) (9 + 8 * s 1 + (4 + 2)) (dgt v 2)) (9 + 8 * s 1 + (4 + 3)) (dgt v 3)
def dgF (s : Nat → Nat) (k v : Nat) : Nat → Nat → Nat → Nat
  | _, 0 => s
  | q, n + 1 => dgF (updN s (9 + 8 * k + (4 + q)) (dgt v q)) k v (q + 1) n
theorem RB.new {s : Nat → Nat} (hB : RB s) {f st h v : Nat} (hn : s 1 < 48) (hf : f < 6) (hst : st ≤ 900) (hh : h ≤ 12) (hv : ∀ q, q < 4 → dgt v q ≤ 3) : RB (newM s f st h v) := by
  obtain ⟨⟨a, b, c, ⟨d1, d2, d3, d4, d5⟩, e⟩, f', g, i⟩ := hB
  have v0 := hv 0 (by omega)
  have v1 := hv 1 (by omega)
  have v2 := hv 2 (by omega)
  have v3 := hv 3 (by omega)
  have lo : ∀ i, i ≠ 1 → (i < 9 ∨ 9 + 8 * s 1 + 8 ≤ i ∨ i < 9 + 8 * s 1) → newM s f st h v i = s i := fun i h1 h2 => by
    unfold newM
    rw [updN_n (by omega), updN_n (by omega), updN_n (by omega), updN_n (by omega), updN_n (by omega), updN_n (by omega), updN_n (by omega), updN_n (by omega), updN_n (by omega)]
  refine ⟨⟨?_, ?_, ?_, ⟨?_, ?_, ?_, ?_, ?_⟩, fun m' hm' q' hq' => ?_⟩, fun k' hk' => ?_, fun k' hk' m' hm' => ?_, fun q hq => ⟨?_, fun j hj => ?_⟩⟩
  · rw [lo 0 (by omega) (by omega)]; exact a
  · have : newM s f st h v 1 = s 1 + 1 := by
      unfold newM
      rw [updN_n (by omega), updN_n (by omega), updN_n (by omega), updN_n (by omega), updN_n (by omega), updN_n (by omega), updN_n (by omega), updN_n (by omega), updN_s]
    omega
  · rw [lo 2 (by omega) (by omega)]; exact c
  · rw [lo 4 (by omega) (by omega)]; exact d1
  · rw [lo 5 (by omega) (by omega)]; exact d2
  · rw [lo 6 (by omega) (by omega)]; exact d3
  · rw [lo 7 (by omega) (by omega)]; exact d4
  · rw [lo 8 (by omega) (by omega)]; exact d5
  · rw [lo _ (by omega) (by omega)]; exact e m' hm' q' hq'
  · by_cases ck : k' = s 1
    · subst ck
      unfold newM
      simp (disch := first | assumption | omega) only [updN_s, updN_n]
      refine ⟨by omega, hf, hst, hh, v0, v1, v2, v3⟩
    · have := f' k' hk'
      rw [lo _ (by omega) (by omega), lo _ (by omega) (by omega), lo _ (by omega) (by omega), lo _ (by omega) (by omega), lo _ (by omega) (by omega), lo _ (by omega) (by omega), lo _ (by omega) (by omega), lo _ (by omega) (by omega)]; exact this
  · rw [lo _ (by omega) (by omega)]; exact g k' hk' m' hm'
  · rw [lo _ (by omega) (by omega)]; exact (i q hq).1
  · rw [lo _ (by omega) (by omega)]; exact (i q hq).2 j hj
def recM (L : List (Nat → Nat)) (s : Nat → Nat) : List (Nat → Nat) := if L.length = 4 then L.tail ++ [s] else L ++ [s]
