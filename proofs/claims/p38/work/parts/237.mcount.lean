/-! the reference: count -/
def cnt (s : Nat → Nat) (sick over free taken kept len : Nat) (w : Int32) : Int32 :=
  if w = nI 0 then nI (s 0) else if w = nI 1 then nI (s 1) else if w = nI 2 then -nI 2 else if w = nI 3 then -nI 2 else if w = nI 4 then -nI 2 else if w = nI 5 then nI (s 2) else if w = nI 6 then nI sick else if w = nI 7 then nI free else if w = nI 8 then nI taken else if w = nI 9 then nI (s 3) else if w = nI 10 then nI over else if w = nI 11 then nI kept else if w = nI 12 then nI len else -nI 2
theorem lt11 : (11 : Int32) = nI 11 := by decide
/-- hours beyond of a member in all weeks -/
def hbM (s : Nat → Nat) (m k : Nat) : Nat := 168 - cA (fD (dcN s m)) (168 * k) 168 - s 8
