/-! the reference: what it tells, loops over sailings -/
theorem nI_ne5 {j : Nat} (h : j < 2 ^ 31) : (nI j = -nI 5) = False := by
  refine eq_false (fun q => ?_)
  have h1 := nI_toInt h
  rw [q] at h1
  have h2 : (-nI 5 : Int32).toInt = -5 := by decide
  omega
theorem m5_e : (-nI 5 = -nI 5) = True := eq_true rfl
def FO (s : Nat → Nat) : Prop := ∀ k, k < s 1 → tkO s k ≤ ned (recS s k)
def fo (s : Nat → Nat) (k : Nat) : Nat := ned (recS s k) - tkO s k
theorem ned_le {s : Nat → Nat} (hB : RB s) {k : Nat} (hk : k < 48) : ned (recS s k) ≤ 12 := by
  have bk := hB.2.1 k hk
  show s (9 + 8 * k + 4) + s (9 + 8 * k + 5) + s (9 + 8 * k + 6) + s (9 + 8 * k + 7) ≤ 12
  omega
theorem tkO_le {s : Nat → Nat} (hB : RB s) (k : Nat) : tkO s k ≤ 48 := by
  have a0 := tkM_le hB k 0
  have a1 := tkM_le hB k 1
  have a2 := tkM_le hB k 2
  have a3 := tkM_le hB k 3
  unfold tkO; omega
theorem fo_le {s : Nat → Nat} (hB : RB s) {k : Nat} (hk : k < 48) : fo s k ≤ 12 := by
  have := ned_le hB hk
  unfold fo; omega
/-- the first by start, of several by number -/
def bsF (st : Nat → Nat) (P : Nat → Bool) : Nat → Nat → Option Nat → Option Nat
  | _, 0, b => b
  | k, n + 1, b => bsF st P (k + 1) n (match P k with
      | false => b
      | true => match b with
        | none => some k
        | some j => if st k < st j then some k else some j)
theorem bsF_f {st : Nat → Nat} {P : Nat → Bool} {k n : Nat} {b : Option Nat} (h : P k = false) : bsF st P k (n + 1) b = bsF st P (k + 1) n b := by
  show bsF st P (k + 1) n (match P k with | false => b | true => _) = _; rw [h]
theorem bsF_n {st : Nat → Nat} {P : Nat → Bool} {k n : Nat} (h : P k = true) : bsF st P k (n + 1) none = bsF st P (k + 1) n (some k) := by
  show bsF st P (k + 1) n (match P k with | false => _ | true => _) = _; rw [h]
theorem bsF_s {st : Nat → Nat} {P : Nat → Bool} {k n j : Nat} (h : P k = true) : bsF st P k (n + 1) (some j) = bsF st P (k + 1) n (if st k < st j then some k else some j) := by
  show bsF st P (k + 1) n (match P k with | false => _ | true => _) = _; rw [h]
/-- a set of members, as bits -/
def abI (p : Nat → Bool) : Nat → Nat → Int32 → Int32
  | _, 0, c => c
  | k, n + 1, c => abI p (k + 1) n (match p k with
      | true => c ||| (nI 1 <<< (nI k &&& nI 31))
      | false => c)
theorem abI_t {p : Nat → Bool} {k n : Nat} {c : Int32} (h : p k = true) : abI p k (n + 1) c = abI p (k + 1) n (c ||| (nI 1 <<< (nI k &&& nI 31))) := by
  show abI p (k + 1) n (match p k with | true => _ | false => _) = _; rw [h]
theorem abI_f {p : Nat → Bool} {k n : Nat} {c : Int32} (h : p k = false) : abI p k (n + 1) c = abI p (k + 1) n c := by
  show abI p (k + 1) n (match p k with | true => _ | false => _) = _; rw [h]
theorem abI_congr {p q : Nat → Bool} : ∀ (n k : Nat) (c : Int32), (∀ i, k ≤ i → i < k + n → p i = q i) → abI p k n c = abI q k n c
  | 0, _, _, _ => rfl
  | n + 1, k, c, h => by
    have h2 := h k (by omega) (by omega)
    cases e : p k
    · rw [abI_f e, abI_f (h2 ▸ e), abI_congr n (k + 1) c (fun i a b => h i (by omega) (by omega))]
    · rw [abI_t e, abI_t (h2 ▸ e), abI_congr n (k + 1) _ (fun i a b => h i (by omega) (by omega))]
theorem lt31 : (31 : Int32) = nI 31 := by decide
/-- the first whose value is better than those before -/
def bF (val : Nat → Nat) (rel : Nat → Nat → Bool) : Nat → Nat → Option Nat → Nat → Option Nat
  | _, 0, b, _ => b
  | k, n + 1, b, v => match b.isNone || rel (val k) v with
    | true => bF val rel (k + 1) n (some k) (val k)
    | false => bF val rel (k + 1) n b v
theorem bF_t {val : Nat → Nat} {rel : Nat → Nat → Bool} {k n v : Nat} {b : Option Nat} (h : (b.isNone || rel (val k) v) = true) : bF val rel k (n + 1) b v = bF val rel (k + 1) n (some k) (val k) := by
  show (match b.isNone || rel (val k) v with | true => _ | false => _) = _; rw [h]
theorem bF_f {val : Nat → Nat} {rel : Nat → Nat → Bool} {k n v : Nat} {b : Option Nat} (h : (b.isNone || rel (val k) v) = false) : bF val rel k (n + 1) b v = bF val rel (k + 1) n b v := by
  show (match b.isNone || rel (val k) v with | true => _ | false => _) = _; rw [h]
theorem bF_congr {val val' : Nat → Nat} {rel : Nat → Nat → Bool} : ∀ (n k : Nat) (b : Option Nat) (v : Nat), (∀ i, k ≤ i → i < k + n → val i = val' i) → bF val rel k n b v = bF val' rel k n b v
  | 0, _, _, _, _ => rfl
  | n + 1, k, b, v, h => by
    have h2 := h k (by omega) (by omega)
    cases e : (b.isNone || rel (val k) v)
    · rw [bF_f e, bF_f (h2 ▸ e), bF_congr n (k + 1) b v (fun i a b => h i (by omega) (by omega))]
    · rw [bF_t e, bF_t (h2 ▸ e), bF_congr n (k + 1) _ _ (fun i a b => h i (by omega) (by omega)), h2]
theorem dh_lt {s : Nat → Nat} (hB : RB s) (m : Nat) : sA (dcN s m) 0 1200 < 100000 := by
  have h := (dcN_ok hB m).1
  have : ∀ n k, sA (dcN s m) k n ≤ 48 * n := by
    intro n
    induction n with
    | zero => intro k; exact Nat.le_refl _
    | succ n ih =>
      intro k
      have := ih (k + 1)
      have := h k
      rw [sA_s]
      omega
  have := this 1200 0
  omega
