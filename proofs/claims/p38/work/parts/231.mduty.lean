/-! the reference counts duties hour by hour -/
def DyOk (D : Nat → Nat) : Prop := (∀ h, D h ≤ 48) ∧ ∀ h, 1000 ≤ h → D h = 0
def KpY (V V' : pV) : Prop := ∀ o, o ≠ 1285 → V' o = V o
theorem KpY.tr {V V1 V2 : pV} (h : KpY V V1) (g : KpY V1 V2) : KpY V V2 := fun o a => (g o a).trans (h o a)
theorem KpY.rf {V : pV} : KpY V V := fun _ _ => rfl
def dcB (s : Nat → Nat) (m h k : Nat) : Bool := hdB s m k && decide (bgN s m k ≤ h ∧ h < recS s k 3)
def dcN (s : Nat → Nat) (m h : Nat) : Nat := cA (dcB s m h) 0 (s 1)
theorem bgN_le {s : Nat → Nat} {m k : Nat} : bgN s m k ≤ recS s k 2 := by
  unfold bgN; split <;> omega
theorem dcN_ok {s : Nat → Nat} (hB : RB s) (m : Nat) : DyOk (dcN s m) := by
  have b1 := hB.1.2.1
  refine ⟨fun h => ?_, fun h hh => ?_⟩
  · have := cA_le (dcB s m h) (s 1) 0
    unfold dcN; omega
  · refine cA_all0 _ _ (fun i _ hi => ?_)
    have bk := hB.2.1 i (by omega)
    have e3 : recS s i 3 = s (9 + 8 * i + 2) + s (9 + 8 * i + 3) := rfl
    unfold dcB
    rw [decide_eq_false (by omega), Bool.and_false]
def fD (D : Nat → Nat) (h : Nat) : Bool := decide (D h = 0)
/-- the reference's way to tell that each day has a long rest -/
def drL (f : Nat → Bool) (len : Nat) : Nat → Nat → Nat → Nat → Bool
  | _, 0, _, _ => true
  | k, n + 1, run, lat =>
    let run' := match f k with | true => run + 1 | false => 0
    let lat' := if run' < len then lat else k + 1
    if 23 ≤ k ∧ lat' < k + len - 23 then false else drL f len (k + 1) n run' lat'
/-- whether all rests hold, as the reference tells it -/
def rsM (s : Nat → Nat) (D : Nat → Nat) : Bool := aA (fun h => decide (D h ≤ 1)) 0 1200 && (rowB (fD D) (s 4) 24 0 1001 && ((decide (s 5 = 0) || drL (fD D) (s 5) 0 1200 0 0) && rowB (fD D) (s 6) 168 0 1001))
/-- the longest rest of a row of a day -/
def lgL (f : Nat → Bool) : Nat → Nat → Nat → Nat → Nat
  | _, 0, most, _ => most
  | k, n + 1, most, run =>
    let run' := match f k with | true => run + 1 | false => 0
    lgL f (k + 1) n (if run' ≤ most then most else run') run'
