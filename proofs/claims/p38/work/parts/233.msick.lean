/-! the reference: calling off, falling sick, hours pass -/
def clrM (s : Nat → Nat) (k n : Nat) : Nat → Nat := fun i => if 393 + 12 * k + (12 - n) ≤ i ∧ i < 393 + 12 * k + 12 then 0 else s i
theorem clrM_0 {s : Nat → Nat} {k : Nat} : clrM s k 0 = s := by funext i; unfold clrM; rw [if_neg (by omega)]
theorem clrM_s {s : Nat → Nat} {k n : Nat} (hn : n < 12) : clrM (updN s (393 + 12 * k + (12 - (n + 1))) 0) k n = clrM s k (n + 1) := by
  funext i; unfold clrM updN
  by_cases h : 393 + 12 * k + (12 - n) ≤ i ∧ i < 393 + 12 * k + 12
  · rw [if_pos h, if_pos (by omega)]
  · rw [if_neg h]
    by_cases c : i = 393 + 12 * k + (12 - (n + 1))
    · rw [if_pos c, if_pos (by omega)]
    · rw [if_neg c, if_neg (by omega)]
theorem RB.clr {s : Nat → Nat} (h : RB s) {k : Nat} (hk : k < 48) : ∀ n, n ≤ 12 → RB (clrM s k n)
  | 0, _ => by rw [clrM_0]; exact h
  | n + 1, hn => by
    rw [← clrM_s (by omega)]
    exact RB.clr (h.pl hk (m := 12 - (n + 1)) (by omega) (Nat.zero_le _)) hk n (by omega)
/-- a sailing's hour comes -/
def depM (s : Nat → Nat) (k : Nat) : Nat → Nat := if ned (recS s k) = tkO s k then updN s (9 + 8 * k + 0) 1 else clrM (updN s (9 + 8 * k + 0) 2) k 12
def phB (s : Nat → Nat) (k : Nat) : Bool := decide (recS s k 5 = 0 ∧ recS s k 2 = s 0)
def phL : Nat → Nat → (Nat → Nat) → Nat → Nat
  | _, 0, s => s
  | k, n + 1, s => phL (k + 1) n (match phB s k with | true => depM s k | false => s)
theorem RB.dep {s : Nat → Nat} (h : RB s) {k : Nat} (hk : k < 48) : RB (depM s k) := by
  unfold depM
  split
  · exact h.stt hk (by omega)
  · exact (h.stt hk (by omega)).clr hk 12 (Nat.le_refl _)
theorem depM_1 {s : Nat → Nat} {k i : Nat} (hi : i < 9 ∨ 969 ≤ i) (hk : k < 48) : depM s k i = s i := by
  unfold depM
  split
  · rw [updN_n (by omega)]
  · unfold clrM; rw [if_neg (by omega), updN_n (by omega)]
def passH (s : Nat → Nat) : Nat → Nat := updN (phL 0 (s 1) s) 0 (s 0 + 1)
theorem RB.now {s : Nat → Nat} (h : RB s) {v : Nat} (hv : v ≤ 1000) : RB (updN s 0 v) := by
  obtain ⟨⟨a, b, c, ⟨d1, d2, d3, d4, d5⟩, e⟩, f, g, i⟩ := h
  refine ⟨⟨?_, ?_, ?_, ⟨?_, ?_, ?_, ?_, ?_⟩, fun m' hm' q hq => ?_⟩, fun k' hk' => ?_, fun k' hk' m' hm' => ?_, fun q hq => ⟨?_, fun j hj => ?_⟩⟩
  · rw [updN_s]; exact hv
  · rw [updN_n (by omega)]; exact b
  · rw [updN_n (by omega)]; exact c
  · rw [updN_n (by omega)]; exact d1
  · rw [updN_n (by omega)]; exact d2
  · rw [updN_n (by omega)]; exact d3
  · rw [updN_n (by omega)]; exact d4
  · rw [updN_n (by omega)]; exact d5
  · rw [updN_n (by omega)]; exact e m' hm' q hq
  · have := f k' hk'
    rw [updN_n (by omega), updN_n (by omega), updN_n (by omega), updN_n (by omega), updN_n (by omega), updN_n (by omega), updN_n (by omega), updN_n (by omega)]; exact this
  · rw [updN_n (by omega)]; exact g k' hk' m' hm'
  · rw [updN_n (by omega)]; exact (i q hq).1
  · rw [updN_n (by omega)]; exact (i q hq).2 j hj
/-- what a member gives up -/
def gmB (s : Nat → Nat) (m U k : Nat) : Bool := decide (recS s k 5 = 0 ∧ s 0 ≤ recS s k 2 ∧ recS s k 2 < U ∧ recS s k (20 + m) ≠ 0)
def gmN (s : Nat → Nat) (m U k : Nat) : Nat := match gmB s m U k with
  | true => recS s k (20 + m)
  | false => 0
def gmR (s : Nat → Nat) (m U : Nat) : Nat → Nat → Nat
  | 0 => s
  | k + 1 => match gmB s m U k with
    | true => updN (gmR s m U k) (393 + 12 * k + m) 0
    | false => gmR s m U k
theorem gmR_n {s : Nat → Nat} {m U i : Nat} : ∀ k, (∀ k', k' < k → i ≠ 393 + 12 * k' + m) → gmR s m U k i = s i
  | 0, _ => rfl
  | k + 1, h => by
    have ih := gmR_n (s := s) (m := m) (U := U) (i := i) k (fun k' hk' => h k' (by omega))
    show (match gmB s m U k with | true => updN (gmR s m U k) (393 + 12 * k + m) 0 | false => gmR s m U k) i = s i
    cases gmB s m U k
    · exact ih
    · show updN (gmR s m U k) (393 + 12 * k + m) 0 i = s i
      rw [updN_n (h k (by omega)), ih]
theorem RB.gm {s : Nat → Nat} (h : RB s) {m U : Nat} (hm : m < 12) : ∀ k, k ≤ 48 → RB (gmR s m U k)
  | 0, _ => h
  | k + 1, hk => by
    have ih := RB.gm (U := U) h hm k (by omega)
    show RB (match gmB s m U k with | true => updN (gmR s m U k) (393 + 12 * k + m) 0 | false => gmR s m U k)
    cases gmB s m U k
    · exact ih
    · exact ih.pl (by omega) hm (Nat.zero_le _)
/-- the places given up are covered: those of an hour, by number; hour by hour -/
def skI (gv : Nat → Nat) (H : Nat) : Nat → Nat → (Nat → Nat) × Nat → (Nat → Nat) × Nat
  | _, 0, a => a
  | k, n + 1, a => if recS a.1 k 2 = H then (match gv k with
      | 0 => skI gv H (k + 1) n a
      | q + 1 => skI gv H (k + 1) n (cvR a.1 k q (covM a.1 (lsS a.1 q) k q), a.2 + (!(covM a.1 (lsS a.1 q) k q).isSome).toNat)) else skI gv H (k + 1) n a
def skO (gv : Nat → Nat) : Nat → Nat → (Nat → Nat) × Nat → (Nat → Nat) × Nat
  | _, 0, a => a
  | H, n + 1, a => skO gv (H + 1) n (skI gv H 0 (a.1 1) a)
theorem skI_le {gv : Nat → Nat} {H : Nat} : ∀ (n k : Nat) (a : (Nat → Nat) × Nat), (skI gv H k n a).2 ≤ a.2 + n
  | 0, _, _ => Nat.le_refl _
  | n + 1, k, a => by
    show (if recS a.1 k 2 = H then (match gv k with | 0 => skI gv H (k + 1) n a | q + 1 => skI gv H (k + 1) n (cvR a.1 k q (covM a.1 (lsS a.1 q) k q), a.2 + (!(covM a.1 (lsS a.1 q) k q).isSome).toNat)) else skI gv H (k + 1) n a).2 ≤ _
    have h1 := skI_le (gv := gv) (H := H) n (k + 1) a
    split
    · cases gv k with
      | zero => dsimp only; omega
      | succ q =>
        have h2 := skI_le (gv := gv) (H := H) n (k + 1) (cvR a.1 k q (covM a.1 (lsS a.1 q) k q), a.2 + (!(covM a.1 (lsS a.1 q) k q).isSome).toNat)
        have h3 : (!(covM a.1 (lsS a.1 q) k q).isSome).toNat ≤ 1 := by cases (covM a.1 (lsS a.1 q) k q).isSome <;> decide
        dsimp only at h2 ⊢
        omega
    · omega
theorem cvR_lo {s : Nat → Nat} {k q i : Nat} {o : Option Nat} (hk : k < 48) (hm : ∀ m, o = some m → m < 12) (hi : i < 3 ∨ (3 < i ∧ i < 393) ∨ 1041 ≤ i) : cvR s k q o i = s i := by
  cases o with
  | none => rfl
  | some m =>
    have := hm m rfl
    show updN (updN (updN s (393 + 12 * k + m) (q + 1)) (969 + 6 * m + 5) (s (969 + 6 * m + 5) + 1)) 3 (s 3 + 1) i = s i
    rw [updN_n (by omega), updN_n (by omega), updN_n (by omega)]
theorem covM_lt {s : Nat → Nat} (hB : RB s) {k q m : Nat} (hq : q < 4) (h : covM s (lsS s q) k q = some m) : m < 12 := by
  have h1 := List.mem_of_find?_eq_some h
  have bl := hB.2.2.2 q hq
  have : ∀ n i, i + n ≤ 12 → m ∈ lsF s q i n → m < 12 := by
    intro n
    induction n with
    | zero => intro i _ h; cases h
    | succ n ih =>
      intro i hi h
      rcases List.mem_cons.mp h with e | e
      · rw [e]; exact bl.2 i (by omega)
      · exact ih (i + 1) (by omega) e
  exact this _ 0 (by omega) h1
def KpS (V V' : pV) : Prop := ∀ o, o ≠ 1279 → o ≠ 1285 → o ≠ 1286 → V' o = V o
theorem KpS.tr {V V1 V2 : pV} (h : KpS V V1) (g : KpS V1 V2) : KpS V V2 := fun o a b c => (g o a b c).trans (h o a b c)
theorem KpM.S {V V' : pV} (h : KpM V V') : KpS V V' := fun o a b _ => h o a b
theorem gmR_rec {s : Nat → Nat} {m U k i : Nat} (hm : m < 12) (hi : i < 9 + 8 * 48 ∨ i = 393 + 12 * k + m) : gmR s m U k i = s i := gmR_n k (fun k' hk' => by omega)
def sickM (s : Nat → Nat) (m h : Nat) : (Nat → Nat) × Nat := skO (gmN (updN s (969 + 6 * m + 4) (s 0 + h)) m (s 0 + h)) (s 0) h (gmR (updN s (969 + 6 * m + 4) (s 0 + h)) m (s 0 + h) (s 1), 0)
theorem RB.mem {s : Nat → Nat} (h : RB s) {m q v : Nat} (hm : m < 12) (hq : q < 5) (hv : v < 100000) : RB (updN s (969 + 6 * m + q) v) := by
  obtain ⟨⟨a, b, c, ⟨d1, d2, d3, d4, d5⟩, e⟩, f, g, i⟩ := h
  refine ⟨⟨?_, ?_, ?_, ⟨?_, ?_, ?_, ?_, ?_⟩, fun m' hm' q' hq' => ?_⟩, fun k' hk' => ?_, fun k' hk' m' hm' => ?_, fun q hq => ⟨?_, fun j hj => ?_⟩⟩
  · rw [updN_n (by omega)]; exact a
  · rw [updN_n (by omega)]; exact b
  · rw [updN_n (by omega)]; exact c
  · rw [updN_n (by omega)]; exact d1
  · rw [updN_n (by omega)]; exact d2
  · rw [updN_n (by omega)]; exact d3
  · rw [updN_n (by omega)]; exact d4
  · rw [updN_n (by omega)]; exact d5
  · by_cases c1 : 969 + 6 * m' + q' = 969 + 6 * m + q
    · rw [c1, updN_s]; exact hv
    · rw [updN_n c1]; exact e m' hm' q' hq'
  · have := f k' hk'
    rw [updN_n (by omega), updN_n (by omega), updN_n (by omega), updN_n (by omega), updN_n (by omega), updN_n (by omega), updN_n (by omega), updN_n (by omega)]; exact this
  · rw [updN_n (by omega)]; exact g k' hk' m' hm'
  · rw [updN_n (by omega)]; exact (i q hq).1
  · rw [updN_n (by omega)]; exact (i q hq).2 j hj
