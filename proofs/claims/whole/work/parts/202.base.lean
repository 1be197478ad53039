/-! numbers, and what the short words do -/
theorem lit_0 : (0 : Int32) = nI 0 := by decide
theorem lit_1 : (1 : Int32) = nI 1 := by decide
theorem lit_2 : (2 : Int32) = nI 2 := by decide
theorem lit_3 : (3 : Int32) = nI 3 := by decide
theorem lit_4 : (4 : Int32) = nI 4 := by decide
theorem lit_5 : (5 : Int32) = nI 5 := by decide
theorem lit_6 : (6 : Int32) = nI 6 := by decide
theorem lit_7 : (7 : Int32) = nI 7 := by decide
theorem lit_8 : (8 : Int32) = nI 8 := by decide
theorem lit_9 : (9 : Int32) = nI 9 := by decide
theorem lit_10 : (10 : Int32) = nI 10 := by decide
theorem lit_12 : (12 : Int32) = nI 12 := by decide
theorem lit_13 : (13 : Int32) = nI 13 := by decide
theorem lit_17 : (17 : Int32) = nI 17 := by decide
theorem lit_20 : (20 : Int32) = nI 20 := by decide
theorem lit_23 : (23 : Int32) = nI 23 := by decide
theorem lit_24 : (24 : Int32) = nI 24 := by decide
theorem lit_43 : (43 : Int32) = nI 43 := by decide
theorem lit_48 : (48 : Int32) = nI 48 := by decide
theorem lit_51 : (51 : Int32) = nI 51 := by decide
theorem lit_57 : (57 : Int32) = nI 57 := by decide
theorem lit_58 : (58 : Int32) = nI 58 := by decide
theorem lit_59 : (59 : Int32) = nI 59 := by decide
theorem lit_60 : (60 : Int32) = nI 60 := by decide
theorem lit_61 : (61 : Int32) = nI 61 := by decide
theorem lit_63 : (63 : Int32) = nI 63 := by decide
theorem lit_77 : (77 : Int32) = nI 77 := by decide
theorem lit_100 : (100 : Int32) = nI 100 := by decide
theorem lit_140 : (140 : Int32) = nI 140 := by decide
theorem lit_168 : (168 : Int32) = nI 168 := by decide
theorem lit_200 : (200 : Int32) = nI 200 := by decide
theorem lit_393 : (393 : Int32) = nI 393 := by decide
theorem lit_400 : (400 : Int32) = nI 400 := by decide
theorem lit_900 : (900 : Int32) = nI 900 := by decide
theorem lit_969 : (969 : Int32) = nI 969 := by decide
theorem lit_1000 : (1000 : Int32) = nI 1000 := by decide
theorem lit_1041 : (1041 : Int32) = nI 1041 := by decide
theorem lit_1045 : (1045 : Int32) = nI 1045 := by decide
theorem lit_1093 : (1093 : Int32) = nI 1093 := by decide
theorem lit_1168 : (1168 : Int32) = nI 1168 := by decide
theorem lit_1200 : (1200 : Int32) = nI 1200 := by decide
theorem lit_3279 : (3279 : Int32) = nI 3279 := by decide
theorem lit_3333 : (3333 : Int32) = nI 3333 := by decide
theorem lit_4372 : (4372 : Int32) = nI 4372 := by decide
theorem lit_9999 : (9999 : Int32) = nI 9999 := by decide
theorem zb2_s {α β : Type} {r : α} {h : zHp} {F : α → zHp → Option β} : zb2 (some (r, h)) F = F r h := rfl
theorem zif_t {α : Type} {o : Option α} : zif true o = o := rfl
theorem zopt_n {α : Type} {n : α} {F : Nat → α} : zopt none n F = n := rfl
theorem zopt_s {α : Type} {a : Nat} {n : α} {F : Nat → α} : zopt (some a) n F = F a := rfl
theorem b_s {α β : Type} {a : α} {F : α → Option β} : (some a).bind F = F a := rfl
theorem znm_e {α β : Type} {a : α} {F : α → β} : znm a F = F a := rfl
theorem nI_mul (a b : Nat) : nI a * nI b = nI (a * b) := pk_mul a b
theorem nI_sub {a b : Nat} (h : b ≤ a) : nI a - nI b = nI (a - b) := pk_sub h
theorem isB_3 : isB 3 := Or.inl rfl
theorem isB_184 : isB 184 := Or.inr (Or.inl rfl)
theorem isB_365 : isB 365 := Or.inr (Or.inr (Or.inl rfl))
/-- a truth as an int -/
def bI (b : Bool) : Int32 := match b with
  | true => nI 1
  | false => nI 0
theorem bI_t {b : Bool} (h : b = true) : bI b = nI 1 := by rw [h]; rfl
theorem bI_f {b : Bool} (h : b = false) : bI b = nI 0 := by rw [h]; rfl
theorem bI_0 {b : Bool} : (bI b = nI 0) = (b = false) := by
  cases b
  · exact propext ⟨fun _ => rfl, fun _ => rfl⟩
  · exact propext ⟨fun h => absurd h (by decide), fun h => by cases h⟩
theorem bI_1 {b : Bool} : (bI b = nI 1) = (b = true) := by
  cases b
  · exact propext ⟨fun h => absurd h (by decide), fun h => by cases h⟩
  · exact propext ⟨fun _ => rfl, fun _ => rfl⟩
theorem zbool_0 {h : zHp} : zbool (nI 0) h = some (nI 0, h) := rfl
theorem zbool_1 {h : zHp} : zbool (nI 1) h = some (nI 1, h) := rfl
theorem zbool_b {b : Bool} {h : zHp} : zbool (bI b) h = some (bI b, h) := by cases b <;> rfl
/-- an if that answers truths -/
theorem ite_b {p : Prop} {d : Decidable p} {h : zHp} : (@ite _ p d (some (nI 1, h)) (some (nI 0, h))) = some (bI (@decide p d), h) := by
  by_cases q : p
  · rw [if_pos q, bI_t (decide_eq_true q)]
  · rw [if_neg q, bI_f (decide_eq_false q)]
theorem ite_n {p : Prop} {d : Decidable p} {h : zHp} : (@ite _ p d (some (nI 0, h)) (some (nI 1, h))) = some (bI (!(@decide p d)), h) := by
  by_cases q : p
  · rw [if_pos q, bI_f (by rw [decide_eq_true q]; rfl)]
  · rw [if_neg q, bI_t (by rw [decide_eq_false q]; rfl)]
/-- a place as the class keeps it: one less -/
def rl (p : Nat) : Int32 := nI p - nI 1
theorem rl_0 : rl 0 = -nI 1 := rfl
theorem rl_s (r : Nat) : rl (r + 1) = nI r := nI_pred r
theorem rl_n {p : Nat} (h : p < 2 ^ 31) : (rl p = -nI 1) ↔ p = 0 := by
  refine ⟨fun q => ?_, fun q => by rw [q]; rfl⟩
  cases p with
  | zero => rfl
  | succ r =>
    rw [rl_s] at q
    have h1 : (nI r).toInt = (r : Int) := nI_toInt (by omega)
    rw [q] at h1
    have h2 : (-nI 1 : Int32).toInt = -1 := by decide
    omega
theorem rl_r {p r : Nat} (h : p < 2 ^ 31) (hr : r < 2 ^ 31) : (rl p = nI r) ↔ p = r + 1 := by
  refine ⟨fun q => ?_, fun q => by rw [q, rl_s]⟩
  cases p with
  | zero =>
    have h1 : (nI r).toInt = (r : Int) := nI_toInt hr
    rw [← q] at h1
    have h2 : (rl 0 : Int32).toInt = -1 := by decide
    omega
  | succ k =>
    rw [rl_s] at q
    have := (nI_eq (show k < 2 ^ 31 by omega) hr).mp q
    omega
theorem nI_ltE {a b : Nat} (ha : a < 2 ^ 31) (hb : b < 2 ^ 31) : (nI a < nI b) = (a < b) := propext (nI_ltI ha hb)
theorem nI_leE {a b : Nat} (ha : a < 2 ^ 31) (hb : b < 2 ^ 31) : (nI a ≤ nI b) = (a ≤ b) := propext (nI_leI ha hb)
theorem nI_eqE {a b : Nat} (ha : a < 2 ^ 31) (hb : b < 2 ^ 31) : (nI a = nI b) = (a = b) := propext (nI_eq ha hb)
/-- how many of the first n are so -/
def cnt (p : Nat → Bool) : Nat → Nat
  | 0 => 0
  | n + 1 => cnt p n + (if p n = true then 1 else 0)
/-- the first n together -/
def sm (f : Nat → Nat) : Nat → Nat
  | 0 => 0
  | n + 1 => sm f n + f n
theorem cnt_le (p : Nat → Bool) (n : Nat) : cnt p n ≤ n := by
  induction n with
  | zero => exact Nat.le_refl 0
  | succ n ih => unfold cnt; split <;> omega
theorem cnt_congr {p q : Nat → Bool} : ∀ (n : Nat), (∀ i, i < n → p i = q i) → cnt p n = cnt q n
  | 0, _ => rfl
  | n + 1, h => by unfold cnt; rw [cnt_congr n (fun i hi => h i (by omega)), h n (by omega)]
theorem sm_congr {f g : Nat → Nat} : ∀ (n : Nat), (∀ i, i < n → f i = g i) → sm f n = sm g n
  | 0, _ => rfl
  | n + 1, h => by unfold sm; rw [sm_congr n (fun i hi => h i (by omega)), h n (by omega)]
/-! a sailing of the class -/
def SaC (V : pV) (B j : Nat) (u : Nat → Nat) : Prop := (∀ i, i < 6 → V (B + (5 + 3 * j)) i = nI (u i)) ∧ (∀ q, q < 4 → V (B + (6 + 3 * j)) q = nI (u (10 + q))) ∧ (∀ m, m < 12 → V (B + (7 + 3 * j)) m = rl (u (20 + m)))
/-- numbers that are small -/
def Sm (u : Nat → Nat) : Prop := ∀ i, u i < 100000
