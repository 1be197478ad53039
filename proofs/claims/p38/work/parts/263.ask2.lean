/-! more questions -/
theorem Bc.kt {X : pX} {V' : pV} {p : sS} {H : List sS} {K : Option sS} {T : List Int32} (h : Bc X p H K T) (hk : KpT X.1 V') (hd : DuE V') : Bc (V', X.2) p H K T := by
  obtain ⟨a, b, c, d, e, f, g⟩ := h
  refine ⟨a.kt hk, hd, c, d, e.mv rfl (fun _ _ => rfl) (fun o o1 o2 => hk o (by omega) (by omega) (by omega)), f.mv (hk 0 (by omega) (by omega) (by omega)) rfl (fun o o1 o2 => hk o (by omega) (by omega) (by omega)), g.mv (congrFun (hk 1272 (by omega) (by omega) (by omega)) 1) (hk 1273 (by omega) (by omega) (by omega))⟩
theorem nA_prop {p : Nat → Bool} : ∀ (n k L : Nat), nA p k n L = none ∨ ∃ i, nA p k n L = some i ∧ i < k + n ∧ p i = true
  | 0, _, _ => Or.inl rfl
  | n + 1, k, L => by
    cases c : p k with
    | false =>
      rw [nA_f c]
      rcases nA_prop n (k + 1) L with h | ⟨i, a, b, d⟩
      · exact Or.inl h
      · exact Or.inr ⟨i, a, by omega, d⟩
    | true =>
      cases L with
      | zero => rw [nA_t0 c]; exact Or.inr ⟨k, rfl, by omega, c⟩
      | succ L =>
        rw [nA_ts c]
        rcases nA_prop n (k + 1) L with h | ⟨i, a, b, d⟩
        · exact Or.inl h
        · exact Or.inr ⟨i, a, by omega, d⟩
