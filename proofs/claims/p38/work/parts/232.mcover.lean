/-! the reference: why not, covering -/
def KpM (V V' : pV) : Prop := ∀ o, o ≠ 1279 → o ≠ 1285 → V' o = V o
theorem KpM.tr {V V1 V2 : pV} (h : KpM V V1) (g : KpM V1 V2) : KpM V V2 := fun o a b => (g o a b).trans (h o a b)
theorem KpM.rf {V : pV} : KpM V V := fun _ _ _ => rfl
theorem KpY.M {V V' : pV} (h : KpY V V') : KpM V V' := fun o _ b => h o b
theorem KpM.up {V : pV} {f : Nat → Int32} : KpM V (sV V 1279 f) := fun _ a _ => sV_n a
theorem RB.pl {s : Nat → Nat} (h : RB s) {k m v : Nat} (hk : k < 48) (hm : m < 12) (hv : v ≤ 4) : RB (updN s (393 + 12 * k + m) v) := by
  obtain ⟨⟨a, b, c, ⟨d1, d2, d3, d4, d5⟩, e⟩, f, g, i⟩ := h
  refine ⟨⟨?_, ?_, ?_, ⟨?_, ?_, ?_, ?_, ?_⟩, fun m' hm' q hq => ?_⟩, fun k' hk' => ?_, fun k' hk' m' hm' => ?_, fun q hq => ⟨?_, fun j hj => ?_⟩⟩
  · rw [updN_n (by omega)]; exact a
  · rw [updN_n (by omega)]; exact b
  · rw [updN_n (by omega)]; exact c
  · rw [updN_n (by omega)]; exact d1
  · rw [updN_n (by omega)]; exact d2
  · rw [updN_n (by omega)]; exact d3
  · rw [updN_n (by omega)]; exact d4
  · rw [updN_n (by omega)]; exact d5
  · rw [updN_n (by omega)]; exact e m' hm' q hq
  · have := f k' hk'
    rw [updN_n (by omega), updN_n (by omega), updN_n (by omega), updN_n (by omega), updN_n (by omega), updN_n (by omega), updN_n (by omega), updN_n (by omega)]; exact this
  · by_cases c1 : 393 + 12 * k' + m' = 393 + 12 * k + m
    · rw [c1, updN_s]; exact hv
    · rw [updN_n c1]; exact g k' hk' m' hm'
  · rw [updN_n (by omega)]; exact (i q hq).1
  · rw [updN_n (by omega)]; exact (i q hq).2 j hj
/-- a number that has no bound changes -/
theorem RB.cv {s : Nat → Nat} (h : RB s) {j v : Nat} (hj : j = 3 ∨ ∃ m, m < 12 ∧ j = 969 + 6 * m + 5) : RB (updN s j v) := by
  obtain ⟨⟨a, b, c, ⟨d1, d2, d3, d4, d5⟩, e⟩, f, g, i⟩ := h
  have hj2 : j = 3 ∨ (969 ≤ j ∧ j < 1041 ∧ j % 6 = 2) := by
    rcases hj with q | ⟨m, hm, q⟩
    · exact Or.inl q
    · right; omega
  refine ⟨⟨?_, ?_, ?_, ⟨?_, ?_, ?_, ?_, ?_⟩, fun m' hm' q hq => ?_⟩, fun k' hk' => ?_, fun k' hk' m' hm' => ?_, fun q hq => ⟨?_, fun j hj => ?_⟩⟩
  · rw [updN_n (by omega)]; exact a
  · rw [updN_n (by omega)]; exact b
  · rw [updN_n (by omega)]; exact c
  · rw [updN_n (by omega)]; exact d1
  · rw [updN_n (by omega)]; exact d2
  · rw [updN_n (by omega)]; exact d3
  · rw [updN_n (by omega)]; exact d4
  · rw [updN_n (by omega)]; exact d5
  · rw [updN_n (by omega)]; exact e m' hm' q hq
  · have := f k' hk'
    rw [updN_n (by omega), updN_n (by omega), updN_n (by omega), updN_n (by omega), updN_n (by omega), updN_n (by omega), updN_n (by omega), updN_n (by omega)]; exact this
  · rw [updN_n (by omega)]; exact g k' hk' m' hm'
  · rw [updN_n (by omega)]; exact (i q hq).1
  · rw [updN_n (by omega)]; exact (i q hq).2 j hj
/-- a sailing's state changes -/
theorem RB.stt {s : Nat → Nat} (h : RB s) {k v : Nat} (hk : k < 48) (hv : v ≤ 2) : RB (updN s (9 + 8 * k + 0) v) := by
  obtain ⟨⟨a, b, c, ⟨d1, d2, d3, d4, d5⟩, e⟩, f, g, i⟩ := h
  refine ⟨⟨?_, ?_, ?_, ⟨?_, ?_, ?_, ?_, ?_⟩, fun m' hm' q hq => ?_⟩, fun k' hk' => ?_, fun k' hk' m' hm' => ?_, fun q hq => ⟨?_, fun j hj => ?_⟩⟩
  · rw [updN_n (by omega)]; exact a
  · rw [updN_n (by omega)]; exact b
  · rw [updN_n (by omega)]; exact c
  · rw [updN_n (by omega)]; exact d1
  · rw [updN_n (by omega)]; exact d2
  · rw [updN_n (by omega)]; exact d3
  · rw [updN_n (by omega)]; exact d4
  · rw [updN_n (by omega)]; exact d5
  · rw [updN_n (by omega)]; exact e m' hm' q hq
  · have := f k' hk'
    rw [updN_n (j := 9 + 8 * k' + 1) (by omega), updN_n (j := 9 + 8 * k' + 2) (by omega), updN_n (j := 9 + 8 * k' + 3) (by omega), updN_n (j := 9 + 8 * k' + 4) (by omega), updN_n (j := 9 + 8 * k' + 5) (by omega), updN_n (j := 9 + 8 * k' + 6) (by omega), updN_n (j := 9 + 8 * k' + 7) (by omega)]
    refine ⟨?_, this.2⟩
    by_cases c1 : k' = k
    · rw [c1, updN_s]; exact hv
    · rw [updN_n (by omega)]; exact this.1
  · rw [updN_n (by omega)]; exact g k' hk' m' hm'
  · rw [updN_n (by omega)]; exact (i q hq).1
  · rw [updN_n (by omega)]; exact (i q hq).2 j hj
def rsnM (s : Nat → Nat) (m k q : Nat) : Nat :=
  if recS s k 5 ≠ 0 ∨ recS s k 2 < s 0 then 1 else if recS s k (10 + q) ≤ tkM s k q then 2 else if s (969 + 6 * m + q) < recS s k 3 then 3 else if s 0 < s (969 + 6 * m + 4) ∧ recS s k 2 < s (969 + 6 * m + 4) then 4 else if recS s k (20 + m) ≠ 0 then 5 else if rsM (updN s (393 + 12 * k + m) (q + 1)) (dcN (updN s (393 + 12 * k + m) (q + 1)) m) = true then 0 else 6
theorem tkM_le {s : Nat → Nat} (hB : RB s) (k q : Nat) : tkM s k q ≤ 12 := by
  have := cA_le (fun m => decide (recS s k (20 + m) = q + 1)) (s 2) 0
  have := hB.1.2.2.1
  unfold tkM; omega
/-- a ladder of the row -/
def lsF (s : Nat → Nat) (q : Nat) : Nat → Nat → List Nat
  | _, 0 => []
  | i, n + 1 => s (1045 + 12 * q + i) :: lsF s q (i + 1) n
def lsS (s : Nat → Nat) (q : Nat) : List Nat := lsF s q 0 (s (1041 + q))
def covM (s : Nat → Nat) (ll : List Nat) (k q : Nat) : Option Nat := ll.find? (fun m => decide (rsnM s m k q = 0))
def cvR (s : Nat → Nat) (k q : Nat) (o : Option Nat) : Nat → Nat := match o with
  | none => s
  | some m => updN (updN (updN s (393 + 12 * k + m) (q + 1)) (969 + 6 * m + 5) (s (969 + 6 * m + 5) + 1)) 3 (s 3 + 1)
theorem RB.cvR {s : Nat → Nat} (h : RB s) {m k q : Nat} (hm : m < 12) (hk : k < 48) (hq : q < 4) : RB (cvR s k q (some m)) :=
  ((h.pl hk hm (by omega)).cv (Or.inr ⟨m, hm, rfl⟩)).cv (Or.inl rfl)
theorem rsnM_le (s : Nat → Nat) (m k q : Nat) : rsnM s m k q ≤ 6 := by
  unfold rsnM
  repeat' (first | omega | split)
