/-! small steps at the top -/
theorem e_wi_t {x a b : Int32} {h : zHp} (c : a ≤ x ∧ x ≤ b) : f_X7_isWithin x a b h = some (nI 1, h) := by rw [e_isWithin, bI_t (decide_eq_true c)]
theorem e_wi_f {x a b : Int32} {h : zHp} (c : ¬ (a ≤ x ∧ x ≤ b)) : f_X7_isWithin x a b h = some (nI 0, h) := by rw [e_isWithin, bI_f (decide_eq_false c)]
theorem e_ro_t {x : Int32} {h : zHp} (c : nI 0 ≤ x ∧ x < nI 4) : f_X7_isRole x h = some (nI 1, h) := by rw [e_isRole, bI_t (decide_eq_true c)]
theorem e_ro_f {x : Int32} {h : zHp} (c : ¬ (nI 0 ≤ x ∧ x < nI 4)) : f_X7_isRole x h = some (nI 0, h) := by rw [e_isRole, bI_f (decide_eq_false c)]
theorem wi_ex {x : Int32} {a b : Nat} (h : nI a ≤ x ∧ x ≤ nI b) (hab : a ≤ b) (hb : b < 2 ^ 31) : ∃ m, a ≤ m ∧ m ≤ b ∧ x = nI m := by
  have h0 : nI 0 ≤ x := Int32.le_trans (nI_le (Nat.zero_le a) (by omega)) h.1
  obtain ⟨m, hm, rfl⟩ := nI_of (x := x) (Int32.not_lt.mpr h0)
  exact ⟨m, (nI_leI (by omega) hm).mp h.1, (nI_leI hm hb).mp h.2, rfl⟩
/-- the sailing of a number, of the class -/
theorem e_sa_n {z : Nat} {X : pX} {B : Nat} (hb : isB B) {s σ : Nat → Nat} (hR : Rc X B s σ) (hP : PS s σ) {k r : Nat} (h : nA (fun r => decide (UU s σ r 5 ≠ 3 ∧ nI (UU s σ r 0) = nI k)) 0 48 0 = some r) : f_X5_sailingAt (z + B) (nI k) (hp z X) = some (some (z + (B + (5 + 3 * X.2.1 B r))), hp z X) := by
  rw [e_sailAt hb hR, h]
  rfl
theorem e_sa_x {z : Nat} {X : pX} {B : Nat} (hb : isB B) {s σ : Nat → Nat} (hR : Rc X B s σ) (hP : PS s σ) {x : Int32} (hx : ¬ (nI 0 ≤ x ∧ x < nI (s 1))) : f_X5_sailingAt (z + B) x (hp z X) = some (none, hp z X) := by
  rw [e_sailAt hb hR, at_x hP hx]
  rfl
theorem sac {X : pX} {B : Nat} {s σ : Nat → Nat} (hR : Rc X B s σ) {r : Nat} (hr : r < s 1) (hn : s 1 ≤ 48) : X.2.1 B r < 48 ∧ SaC X.1 B (X.2.1 B r) (recS s (σ r)) := by
  have h := hR.2.1.2.1 r (by omega)
  rw [UU_lt hr] at h
  exact ⟨hR.1.1 r (by omega), h⟩
theorem neg_ne {a b : Nat} (ha : 0 < a) (h1 : a < 2 ^ 31) (hb : b < 2 ^ 31) : nI b ≠ -nI a := fun h => by
  have := congrArg Int32.toInt h
  rw [Int32.toInt_neg, nI_toInt hb, nI_toInt h1] at this
  have e : Int.bmod (-(a : Int)) (2 ^ 32) = -(a : Int) := by apply Int.bmod_eq_of_le <;> omega
  rw [e] at this
  omega
theorem not_in {n x : Nat} {y : Int32} (h : ¬ (nI 0 ≤ y ∧ y < nI n)) (hx : x < n) (hn : n < 2 ^ 31) : y ≠ nI x := fun e => h (e ▸ in_nI hx hn)
