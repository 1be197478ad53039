theorem whole_pure (L : Nat) (xs : Nat → Int32) (hL : L ≤ 2560) (sz : Nat) : ∃ o, f_L L xs (sz, fun _ => none) = some (1, o) := sorry
