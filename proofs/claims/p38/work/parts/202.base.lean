/-! numbers, and what the short words do -/
theorem lit_0 : (0 : Int32) = nI 0 := by decide
theorem lit_1 : (1 : Int32) = nI 1 := by decide
theorem lit_2 : (2 : Int32) = nI 2 := by decide
theorem lit_3 : (3 : Int32) = nI 3 := by decide
theorem lit_4 : (4 : Int32) = nI 4 := by decide
theorem lit_5 : (5 : Int32) = nI 5 := by decide
theorem lit_6 : (6 : Int32) = nI 6 := by decide
theorem lit_7 : (7 : Int32) = nI 7 := by decide
theorem lit_8 : (8 : Int32) = nI 8 := by decide
theorem lit_9 : (9 : Int32) = nI 9 := by decide
theorem lit_10 : (10 : Int32) = nI 10 := by decide
theorem lit_11 : (11 : Int32) = nI 11 := by decide
theorem lit_12 : (12 : Int32) = nI 12 := by decide
theorem lit_13 : (13 : Int32) = nI 13 := by decide
theorem lit_14 : (14 : Int32) = nI 14 := by decide
theorem lit_15 : (15 : Int32) = nI 15 := by decide
theorem lit_16 : (16 : Int32) = nI 16 := by decide
theorem lit_17 : (17 : Int32) = nI 17 := by decide
theorem lit_18 : (18 : Int32) = nI 18 := by decide
theorem lit_20 : (20 : Int32) = nI 20 := by decide
theorem lit_24 : (24 : Int32) = nI 24 := by decide
theorem lit_26 : (26 : Int32) = nI 26 := by decide
theorem lit_30 : (30 : Int32) = nI 30 := by decide
theorem lit_40 : (40 : Int32) = nI 40 := by decide
theorem lit_45 : (45 : Int32) = nI 45 := by decide
theorem lit_46 : (46 : Int32) = nI 46 := by decide
theorem lit_47 : (47 : Int32) = nI 47 := by decide
theorem lit_48 : (48 : Int32) = nI 48 := by decide
theorem lit_60 : (60 : Int32) = nI 60 := by decide
theorem lit_63 : (63 : Int32) = nI 63 := by decide
theorem lit_64 : (64 : Int32) = nI 64 := by decide
theorem lit_77 : (77 : Int32) = nI 77 := by decide
theorem lit_100 : (100 : Int32) = nI 100 := by decide
theorem lit_140 : (140 : Int32) = nI 140 := by decide
theorem lit_168 : (168 : Int32) = nI 168 := by decide
theorem lit_200 : (200 : Int32) = nI 200 := by decide
theorem lit_300 : (300 : Int32) = nI 300 := by decide
theorem lit_400 : (400 : Int32) = nI 400 := by decide
theorem lit_900 : (900 : Int32) = nI 900 := by decide
theorem lit_1000 : (1000 : Int32) = nI 1000 := by decide
theorem lit_1168 : (1168 : Int32) = nI 1168 := by decide
theorem lit_1997 : (1997 : Int32) = nI 1997 := by decide
theorem lit_3333 : (3333 : Int32) = nI 3333 := by decide
theorem lit_9999 : (9999 : Int32) = nI 9999 := by decide
theorem lit_10000 : (10000 : Int32) = nI 10000 := by decide
theorem zb2_s {α β : Type} {r : α} {h : zHp} {F : α → zHp → Option β} : zb2 (some (r, h)) F = F r h := rfl
theorem zif_t {α : Type} {o : Option α} : zif true o = o := rfl
theorem zopt_n {α : Type} {n : α} {F : Nat → α} : zopt none n F = n := rfl
theorem zopt_s {α : Type} {a : Nat} {n : α} {F : Nat → α} : zopt (some a) n F = F a := rfl
theorem b_s {α β : Type} {a : α} {F : α → Option β} : (some a).bind F = F a := rfl
theorem znm_e {α β : Type} {a : α} {F : α → β} : znm a F = F a := rfl
theorem nI_mul (a b : Nat) : nI a * nI b = nI (a * b) := pk_mul a b
theorem nI_pred' (n : Nat) : nI (n + 1) - nI 1 = nI n := nI_pred n
theorem nI_sub {a b : Nat} (h : b ≤ a) : nI a - nI b = nI (a - b) := pk_sub h
theorem isB_3 : isB 3 := Or.inl rfl
theorem isB_184 : isB 184 := Or.inr (Or.inl rfl)
theorem isB_365 : isB 365 := Or.inr (Or.inr (Or.inl rfl))
/-- a truth as an int -/
def bI (b : Bool) : Int32 := match b with
  | true => nI 1
  | false => nI 0
theorem bI_t {b : Bool} (h : b = true) : bI b = nI 1 := by rw [h]; rfl
theorem bI_f {b : Bool} (h : b = false) : bI b = nI 0 := by rw [h]; rfl
theorem bI_0 {b : Bool} : (bI b = nI 0) = (b = false) := by
  cases b
  · exact propext ⟨fun _ => rfl, fun _ => rfl⟩
  · exact propext ⟨fun h => absurd h (by decide), fun h => by cases h⟩
theorem bI_1 {b : Bool} : (bI b = nI 1) = (b = true) := by
  cases b
  · exact propext ⟨fun h => absurd h (by decide), fun h => by cases h⟩
  · exact propext ⟨fun _ => rfl, fun _ => rfl⟩
theorem zbool_0 {h : zHp} : zbool (nI 0) h = some (nI 0, h) := rfl
theorem zbool_1 {h : zHp} : zbool (nI 1) h = some (nI 1, h) := rfl
theorem zbool_b {b : Bool} {h : zHp} : zbool (bI b) h = some (bI b, h) := by cases b <;> rfl
/-- an if that answers truths -/
theorem ite_b {p : Prop} {d : Decidable p} {h : zHp} : (@ite _ p d (some (nI 1, h)) (some (nI 0, h))) = some (bI (@decide p d), h) := by
  by_cases q : p
  · rw [if_pos q, bI_t (decide_eq_true q)]
  · rw [if_neg q, bI_f (decide_eq_false q)]
theorem ite_n {p : Prop} {d : Decidable p} {h : zHp} : (@ite _ p d (some (nI 0, h)) (some (nI 1, h))) = some (bI (!(@decide p d)), h) := by
  by_cases q : p
  · rw [if_pos q, bI_f (by rw [decide_eq_true q]; rfl)]
  · rw [if_neg q, bI_t (by rw [decide_eq_false q]; rfl)]
/-- a place as the class keeps it: one less -/
def rl (p : Nat) : Int32 := nI p - nI 1
theorem rl_0 : rl 0 = -nI 1 := rfl
theorem rl_s (r : Nat) : rl (r + 1) = nI r := nI_pred r
theorem rl_n {p : Nat} (h : p < 2 ^ 31) : (rl p = -nI 1) ↔ p = 0 := by
  refine ⟨fun q => ?_, fun q => by rw [q]; rfl⟩
  cases p with
  | zero => rfl
  | succ r =>
    rw [rl_s] at q
    have h1 : (nI r).toInt = (r : Int) := nI_toInt (by omega)
    rw [q] at h1
    have h2 : (-nI 1 : Int32).toInt = -1 := by decide
    omega
theorem rl_r {p r : Nat} (h : p < 2 ^ 31) (hr : r < 2 ^ 31) : (rl p = nI r) ↔ p = r + 1 := by
  refine ⟨fun q => ?_, fun q => by rw [q, rl_s]⟩
  cases p with
  | zero =>
    have h1 : (nI r).toInt = (r : Int) := nI_toInt hr
    rw [← q] at h1
    have h2 : (rl 0 : Int32).toInt = -1 := by decide
    omega
  | succ k =>
    rw [rl_s] at q
    have := (nI_eq (show k < 2 ^ 31 by omega) hr).mp q
    omega
theorem nI_ltE {a b : Nat} (ha : a < 2 ^ 31) (hb : b < 2 ^ 31) : (nI a < nI b) = (a < b) := propext (nI_ltI ha hb)
theorem nI_leE {a b : Nat} (ha : a < 2 ^ 31) (hb : b < 2 ^ 31) : (nI a ≤ nI b) = (a ≤ b) := propext (nI_leI ha hb)
theorem nI_eqE {a b : Nat} (ha : a < 2 ^ 31) (hb : b < 2 ^ 31) : (nI a = nI b) = (a = b) := propext (nI_eq ha hb)
/-- how many of the n from k on are so -/
def cA (p : Nat → Bool) : Nat → Nat → Nat
  | _, 0 => 0
  | k, n + 1 => (p k).toNat + cA p (k + 1) n
/-- the n from k on together -/
def sA (f : Nat → Nat) : Nat → Nat → Nat
  | _, 0 => 0
  | k, n + 1 => f k + sA f (k + 1) n
theorem cA_0 {p : Nat → Bool} {k : Nat} : cA p k 0 = 0 := rfl
theorem cA_t {p : Nat → Bool} {k n : Nat} (h : p k = true) : cA p k (n + 1) = 1 + cA p (k + 1) n := by show (p k).toNat + _ = _; rw [h]; rfl
theorem cA_f {p : Nat → Bool} {k n : Nat} (h : p k = false) : cA p k (n + 1) = cA p (k + 1) n := by show (p k).toNat + _ = _; rw [h]; exact Nat.zero_add _
theorem sA_0 {f : Nat → Nat} {k : Nat} : sA f k 0 = 0 := rfl
theorem sA_s {f : Nat → Nat} {k n : Nat} : sA f k (n + 1) = f k + sA f (k + 1) n := rfl
theorem cA_le (p : Nat → Bool) : ∀ (n k : Nat), cA p k n ≤ n
  | 0, _ => Nat.le_refl 0
  | n + 1, k => by
    have := cA_le p n (k + 1)
    cases h : p k
    · rw [cA_f h]; omega
    · rw [cA_t h]; omega
theorem cA_congr {p q : Nat → Bool} : ∀ (n k : Nat), (∀ i, k ≤ i → i < k + n → p i = q i) → cA p k n = cA q k n
  | 0, _, _ => rfl
  | n + 1, k, h => by
    have h1 := cA_congr n (k + 1) (fun i a b => h i (by omega) (by omega))
    have h2 := h k (by omega) (by omega)
    cases c : p k
    · rw [cA_f c, cA_f (h2 ▸ c), h1]
    · rw [cA_t c, cA_t (h2 ▸ c), h1]
theorem sA_congr {f g : Nat → Nat} : ∀ (n k : Nat), (∀ i, k ≤ i → i < k + n → f i = g i) → sA f k n = sA g k n
  | 0, _, _ => rfl
  | n + 1, k, h => by
    rw [sA_s, sA_s, sA_congr n (k + 1) (fun i a b => h i (by omega) (by omega)), h k (by omega) (by omega)]
theorem cA_last {p : Nat → Bool} : ∀ {n k : Nat}, cA p k (n + 1) = cA p k n + (p (k + n)).toNat
  | 0, k => by show (p k).toNat + 0 = 0 + _; rw [Nat.add_zero, Nat.zero_add]; rfl
  | n + 1, k => by
    show (p k).toNat + cA p (k + 1) (n + 1) = ((p k).toNat + cA p (k + 1) n) + _
    rw [cA_last (n := n) (k := k + 1), show k + 1 + n = k + (n + 1) by omega, Nat.add_assoc]
theorem cA_lt {p : Nat → Bool} {n : Nat} (h : p n = true) : cA p 0 (n + 1) = cA p 0 n + 1 := by rw [cA_last, Nat.zero_add, h]; rfl
theorem cA_lf {p : Nat → Bool} {n : Nat} (h : p n = false) : cA p 0 (n + 1) = cA p 0 n := by rw [cA_last, Nat.zero_add, h]; rfl
theorem sA_last {f : Nat → Nat} : ∀ {n k : Nat}, sA f k (n + 1) = sA f k n + f (k + n)
  | 0, k => by show f k + 0 = 0 + _; rw [Nat.add_zero, Nat.zero_add]; rfl
  | n + 1, k => by
    show f k + sA f (k + 1) (n + 1) = (f k + sA f (k + 1) n) + _
    rw [sA_last (n := n) (k := k + 1), show k + 1 + n = k + (n + 1) by omega, Nat.add_assoc]
theorem sub_sub1 {a b : Int32} : a - (b + nI 1) = a - b + -nI 1 := by
  rw [Int32.sub_eq_add_neg a (b + nI 1), Int32.neg_add, Int32.sub_eq_add_neg (-b), ← Int32.add_assoc, ← Int32.sub_eq_add_neg a b]
theorem sub_s {c a : Nat} : nI c - nI (a + 1) = nI c - nI a + -nI 1 := by rw [← nI_add, sub_sub1]
theorem zN_lt {n : Nat} (h : n < 1000000) : n < zN := by rw [zN_eq]; exact h
theorem sV_id {V : pV} {o : Nat} : sV V o (V o) = V := by
  funext q; unfold sV; split
  · rename_i h; rw [h]
  · rfl
/-! a sailing of the class -/
def SaC (V : pV) (B j : Nat) (u : Nat → Nat) : Prop := (∀ i, i < 6 → V (B + (5 + 3 * j)) i = nI (u i)) ∧ (∀ q, q < 4 → V (B + (6 + 3 * j)) q = nI (u (10 + q))) ∧ (∀ m, m < 12 → V (B + (7 + 3 * j)) m = rl (u (20 + m)))
/-- numbers that are small -/
def Sm (u : Nat → Nat) : Prop := ∀ i, u i < 100000
def tkU (u : Nat → Nat) : Nat := cA (fun m => !decide (u (20 + m) = 0)) 0 12
def tkR (u : Nat → Nat) (r : Nat) : Nat := cA (fun m => decide (u (20 + m) = r + 1)) 0 12
def ned (u : Nat → Nat) : Nat := u 10 + u 11 + u 12 + u 13
theorem tkU_le (u : Nat → Nat) : tkU u ≤ 12 := cA_le _ _ _
theorem tkR_le (u : Nat → Nat) (r : Nat) : tkR u r ≤ 12 := cA_le _ _ _
/-- a sailing's record is in order -/
def SaK (u : Nat → Nat) : Prop := Sm u ∧ (∀ m, m < 12 → u (20 + m) ≤ 4) ∧ ∀ q, q < 4 → tkR u q ≤ u (10 + q)
/-- the first place from k on, of n, that is so when `left` of them were passed by -/
def nA (p : Nat → Bool) : Nat → Nat → Nat → Option Nat
  | _, 0, _ => none
  | k, n + 1, left => match p k with
    | false => nA p (k + 1) n left
    | true => match left with
      | 0 => some k
      | left + 1 => nA p (k + 1) n left
theorem nA_0 {p : Nat → Bool} {k l : Nat} : nA p k 0 l = none := rfl
theorem nA_f {p : Nat → Bool} {k n l : Nat} (h : p k = false) : nA p k (n + 1) l = nA p (k + 1) n l := by show (match p k with | false => _ | true => _) = _; rw [h]
theorem nA_t0 {p : Nat → Bool} {k n : Nat} (h : p k = true) : nA p k (n + 1) 0 = some k := by show (match p k with | false => _ | true => _) = _; rw [h]
theorem nA_ts {p : Nat → Bool} {k n l : Nat} (h : p k = true) : nA p k (n + 1) (l + 1) = nA p (k + 1) n l := by show (match p k with | false => _ | true => _) = _; rw [h]
def oI (o : Option Nat) : Int32 := match o with
  | none => -nI 5
  | some k => nI k
