/-! loops at the top of the class -/
theorem Rc.kd {X : pX} {V' : pV} {s σ : Nat → Nat} (h : Rc X 3 s σ) (hk : KpD X.1 V') : Rc (V', X.2) 3 s σ := h.mv rfl (fun o a b => hk o (by omega) (by omega))
theorem no_m1 {v : Nat} (h : v < 2 ^ 31) : ¬ nI v ≤ -nI 1 := fun q => by
  have a : nI 0 ≤ nI v := nI_le (Nat.zero_le v) h
  exact absurd (Int32.le_trans a q) (by decide)
theorem e7_hours {z : Nat} {X : pX} {s σ : Nat → Nat} (hP : PS s σ) {m : Nat} (hm : m < s 2) (hS : Rc X 3 s σ) (hd : DuE X.1) : ∃ V', f_X5_dutiesOf (z + 3) (nI m) none (hp z X) = some (some (z + 1), hp z (V', X.2)) ∧ KpD X.1 V' ∧ DuE V' ∧ V' 1 1 = nI (sA (dcN s m) 0 1200) := by
  obtain ⟨V1, g1, g2, g3, g4⟩ := e_duties0 (z := z) isB_3 hS (m := m) (by have := hP.W.m12; omega) hd
  refine ⟨V1, g1, g2, ⟨_, g3, g4⟩, ?_⟩
  rw [g3.2.1, (dut1 hP hm).1.2.2.2.1]
/-- only the trial and the duties' rows changed -/
def KpT (V V' : pV) : Prop := ∀ o, o ≠ 1 → o ≠ 2 → (o < 365 ∨ 546 ≤ o) → V' o = V o
theorem KpT.tr {V V1 V2 : pV} (h : KpT V V1) (g : KpT V1 V2) : KpT V V2 := fun o a b c => (g o a b c).trans (h o a b c)
theorem KpT.rf {V : pV} : KpT V V := fun _ _ _ _ => rfl
theorem Rc.kt {X : pX} {V' : pV} {s σ : Nat → Nat} (h : Rc X 3 s σ) (hk : KpT X.1 V') : Rc (V', X.2) 3 s σ := h.mv rfl (fun o a b => hk o (by omega) (by omega) (by omega))
/-- what it would mean if somebody was sick -/
theorem e7_ifSick {z : Nat} {X : pX} {s σ : Nat → Nat} (hP : PS s σ) {m h : Nat} (hm : m < s 2) (hh : h < 1000) (hS : Rc X 3 s σ) (hw : Ord (X.2.1 365)) (hd : DuE X.1) : ∃ V1 V2, f_X5_copyFrom (z + 365) (z + 3) (hp z X) = some (hp z (V1, X.2)) ∧ f_X5_fallSick (z + 365) (nI m) (nI h) (hp z (V1, X.2)) = some (nI (sickM s m h).2, hp z (V2, X.2)) ∧ KpT X.1 V2 ∧ DuE V2 := by
  obtain ⟨V1, g1, g2, g3⟩ := e_copy (z := z) isB_365 isB_3 (by omega) hS hw
  obtain ⟨V2, k1, k2, k3, _⟩ := e_fallSick (z := z) (X := (V1, X.2)) isB_365 g3 hm hh (hd.kept (g2 1 (by omega)) (g2 2 (by omega)))
  rw [(sick_eq hP hm hh).2.1] at k1
  exact ⟨V1, V2, g1, k1, fun o a b c => (k2 o a b (by omega)).trans (g2 o (by omega)), k3⟩
theorem fhL_le {f : Nat → Bool} : ∀ (n k l b N : Nat), b ≤ N → k + n ≤ N → fhL f k n l b ≤ N
  | 0, _, _, _, _, h, _ => h
  | n + 1, k, l, b, N, h, h2 => by
    unfold fhL
    split
    · exact fhL_le n (k + 1) _ _ N (by omega) (by omega)
    · exact fhL_le n (k + 1) _ _ N h (by omega)
