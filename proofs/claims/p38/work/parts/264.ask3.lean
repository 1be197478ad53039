/-! what is told of a member, and how many -/
theorem wi_n {a b x : Nat} (ha : a ≤ x) (hb : x ≤ b) (h : b < 2 ^ 31) : nI a ≤ nI x ∧ nI x ≤ nI b := ⟨nI_le ha (by omega), nI_le hb h⟩
theorem wi_x {a b x : Nat} (h : x < a ∨ b < x) (ha : a < 2 ^ 31) (hb : b < 2 ^ 31) (hx : x < 2 ^ 31) : ¬ (nI a ≤ nI x ∧ nI x ≤ nI b) := fun q => by
  have h1 := (nI_leI ha hx).mp q.1
  have h2 := (nI_leI hx hb).mp q.2
  omega
