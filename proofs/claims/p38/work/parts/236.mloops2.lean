/-! the reference: what would be; more loops -/
/-- but for the row now, the row beside, the hours counted and what was given up -/
def KpA (V V' : pV) : Prop := ∀ o, o ≠ 1279 → o ≠ 1281 → o ≠ 1285 → o ≠ 1286 → V' o = V o
theorem KpA.tr {V V1 V2 : pV} (h : KpA V V1) (g : KpA V1 V2) : KpA V V2 := fun o a b c d => (g o a b c d).trans (h o a b c d)
theorem KpA.rf {V : pV} : KpA V V := fun _ _ _ _ _ => rfl
theorem KpS.A {V V' : pV} (h : KpS V V') : KpA V V' := fun o a _ c d => h o a c d
theorem KpM.A {V V' : pV} (h : KpM V V') : KpA V V' := fun o a _ c _ => h o a c
theorem KpY.A {V V' : pV} (h : KpY V V') : KpA V V' := fun o _ _ c _ => h o c
/-- the least rests -/
def lrL (f : Nat → Bool) : Nat → Nat → Nat → Nat
  | _, 0, l => l
  | k, n + 1, l => lrL f (k + 1) n (if l ≤ cA f k 24 then l else cA f k 24)
def lrB (f : Nat → Bool) : Nat → Nat → Nat → Nat → Nat
  | _, 0, _, b => b
  | k, n + 1, l, b => lrB f (k + 1) n (if l ≤ cA f k 24 then l else cA f k 24) (if l ≤ cA f k 24 then b else k)
def lrG (f : Nat → Bool) : Nat → Nat → Nat → Nat
  | _, 0, g => g
  | k, n + 1, g => lrG f (k + 1) n (if g ≤ lgL f k 24 0 0 then g else lgL f k 24 0 0)
theorem lgL_le (f : Nat → Bool) : ∀ (n k most run N : Nat), most ≤ N → run + n ≤ N → lgL f k n most run ≤ N
  | 0, _, _, _, _, h, _ => h
  | n + 1, k, most, run, N, h, h2 => by
    show lgL f (k + 1) n (if (match f k with | true => run + 1 | false => 0) ≤ most then most else (match f k with | true => run + 1 | false => 0)) (match f k with | true => run + 1 | false => 0) ≤ N
    cases f k
    · dsimp only
      exact lgL_le f n (k + 1) _ 0 N (by split <;> omega) (by omega)
    · dsimp only
      exact lgL_le f n (k + 1) _ (run + 1) N (by split <;> omega) (by omega)
/-- covering all places, in the reference -/
def cM1 (k q : Nat) (s : Nat → Nat) : Nat → Nat := cvR s k q (covM s (lsS s q) k q)
def cMN (k q : Nat) : Nat → (Nat → Nat) → Nat → Nat
  | 0, s => s
  | n + 1, s => cMN k q n (cM1 k q s)
def cMA (k : Nat) : Nat → Nat → (Nat → Nat) → Nat → Nat
  | _, 0, s => s
  | q, n + 1, s => cMA k (q + 1) n (cMN k q (recS s k (10 + q) - tkM s k q) s)
def FK (s : Nat → Nat) (k : Nat) : Prop := ∀ q, q < 4 → tkM s k q ≤ recS s k (10 + q)
theorem rsnM_0 {s : Nat → Nat} {m k q : Nat} (h : rsnM s m k q = 0) : recS s k 5 = 0 ∧ s 0 ≤ recS s k 2 ∧ tkM s k q < recS s k (10 + q) ∧ recS s k 3 ≤ s (969 + 6 * m + q) ∧ ¬ (s 0 < s (969 + 6 * m + 4) ∧ recS s k 2 < s (969 + 6 * m + 4)) ∧ recS s k (20 + m) = 0 ∧ rsM (updN s (393 + 12 * k + m) (q + 1)) (dcN (updN s (393 + 12 * k + m) (q + 1)) m) = true := by
  unfold rsnM at h
  split at h
  · omega
  · split at h
    · omega
    · split at h
      · omega
      · split at h
        · omega
        · split at h
          · omega
          · split at h
            · rename_i a b c d e f
              exact ⟨by omega, by omega, by omega, by omega, d, by omega, f⟩
            · omega
theorem cvR_rec {s : Nat → Nat} {k q m k' i : Nat} (hk : k < 48) (hk' : k' < 48) (hm : m < 12) (hi : i < 20) : recS (cvR s k q (some m)) k' i = recS s k' i := by
  have e : ∀ j, 9 ≤ j → j < 393 → cvR s k q (some m) j = s j := fun j h1 h2 => cvR_lo hk (fun m' h => by cases h; exact hm) (by omega)
  have e0 := e (9 + 8 * k' + 0) (by omega) (by omega)
  have e0' : cvR s k q (some m) (9 + 8 * k') = s (9 + 8 * k') := e0
  have e1 := e (9 + 8 * k' + 1) (by omega) (by omega)
  have e2 := e (9 + 8 * k' + 2) (by omega) (by omega)
  have e3 := e (9 + 8 * k' + 3) (by omega) (by omega)
  have e4 := e (9 + 8 * k' + 4) (by omega) (by omega)
  have e5 := e (9 + 8 * k' + 5) (by omega) (by omega)
  have e6 := e (9 + 8 * k' + 6) (by omega) (by omega)
  have e7 := e (9 + 8 * k' + 7) (by omega) (by omega)
  rcases (show i = 0 ∨ i = 1 ∨ i = 2 ∨ i = 3 ∨ i = 4 ∨ i = 5 ∨ i = 6 ∨ i = 7 ∨ i = 8 ∨ i = 9 ∨ i = 10 ∨ i = 11 ∨ i = 12 ∨ i = 13 ∨ i = 14 ∨ i = 15 ∨ i = 16 ∨ i = 17 ∨ i = 18 ∨ i = 19 by omega) with h | h | h | h | h | h | h | h | h | h | h | h | h | h | h | h | h | h | h | h <;> subst h <;> simp [recS, e0', e1, e2, e3, e4, e5, e6, e7]
theorem cvR_pl {s : Nat → Nat} {k q m k' i : Nat} (hk : k < 48) (hk' : k' < 48) (hm : m < 12) (hi : i < 12) : recS (cvR s k q (some m)) k' (20 + i) = if k' = k ∧ i = m then q + 1 else recS s k' (20 + i) := by
  rw [recS_20 hi, recS_20 hi]
  show updN (updN (updN s (393 + 12 * k + m) (q + 1)) (969 + 6 * m + 5) (s (969 + 6 * m + 5) + 1)) 3 (s 3 + 1) (393 + 12 * k' + i) = _
  rw [updN_n (by omega), updN_n (by omega)]
  by_cases c : k' = k ∧ i = m
  · rw [if_pos c, c.1, c.2, updN_s]
  · rw [if_neg c, updN_n (by omega)]
theorem cA_chg2 {p q : Nat → Bool} : ∀ {n k i : Nat}, k ≤ i → i < k + n → (∀ j, k ≤ j → j < k + n → j ≠ i → p j = q j) → cA p k n + (q i).toNat = cA q k n + (p i).toNat
  | 0, _, _, _, _, _ => by omega
  | n + 1, k, i, h1, h2, h => by
    show ((p k).toNat + cA p (k + 1) n) + _ = ((q k).toNat + cA q (k + 1) n) + _
    by_cases c : k = i
    · subst c
      have := cA_congr (p := p) (q := q) n (k + 1) (fun j a b => h j (by omega) (by omega) (by omega))
      omega
    · have := cA_chg2 (n := n) (k := k + 1) (i := i) (by omega) (by omega) (fun j a b c => h j (by omega) (by omega) c)
      rw [h k (by omega) (by omega) c]
      omega
theorem tkM_cv {s : Nat → Nat} (hB : RB s) {k q m p : Nat} (hk : k < 48) (hm : m < 12) (h0 : recS s k (20 + m) = 0) : tkM (cvR s k q (some m)) k p ≤ tkM s k p + (decide (q = p)).toNat := by
  have hb2 := hB.1.2.2.1
  have e2 : cvR s k q (some m) 2 = s 2 := cvR_lo hk (fun m' h => by cases h; exact hm) (by omega)
  unfold tkM
  rw [e2]
  by_cases hms : m < s 2
  · have hch := cA_chg2 (p := fun i => decide (recS (cvR s k q (some m)) k (20 + i) = p + 1)) (q := fun i => decide (recS s k (20 + i) = p + 1)) (n := s 2) (k := 0) (i := m) (Nat.zero_le _) (by omega) (fun j _ hj hne => by
      rw [cvR_pl hk hk hm (by omega), if_neg (fun w => hne w.2)])
    simp only [cvR_pl hk hk hm hm, h0, if_true, and_self] at hch
    by_cases c : q = p
    · subst c
      simp at hch ⊢
      omega
    · have e1 : decide (q + 1 = p + 1) = false := decide_eq_false (by omega)
      have e3 : decide (0 = p + 1) = false := decide_eq_false (by omega)
      rw [e1, e3] at hch
      simp at hch
      omega
  · rw [cA_congr (q := fun i => decide (recS s k (20 + i) = p + 1)) (s 2) 0 (fun j _ hj => by
      rw [cvR_pl hk hk hm (by omega), if_neg (fun w => by omega)])]
    omega
theorem FK_cov {s : Nat → Nat} (hB : RB s) {k q : Nat} (hk : k < 48) (hq : q < 4) (h : FK s k) : FK (cM1 k q s) k := by
  unfold cM1
  cases hc : covM s (lsS s q) k q with
  | none => exact h
  | some m =>
    have hm := covM_lt hB hq hc
    have hc' : (lsS s q).find? (fun m => decide (rsnM s m k q = 0)) = some m := hc
    have h00 : decide (rsnM s m k q = 0) = true := by
      have := List.find?_some hc'
      exact this
    have h0 := rsnM_0 (of_decide_eq_true h00)
    intro p hp
    rw [cvR_rec hk hk hm (by omega)]
    have h1 := tkM_cv (q := q) (p := p) hB hk hm h0.2.2.2.2.2.1
    have h2 := h p hp
    by_cases c : q = p
    · subst c
      have h3 := h0.2.2.1
      simp at h1
      omega
    · rw [decide_eq_false c] at h1
      simp at h1
      omega
theorem recS_10le {s : Nat → Nat} (hB : RB s) {k q : Nat} (hk : k < 48) (hq : q < 4) : recS s k (10 + q) ≤ 3 := by
  have bk := hB.2.1 k hk
  rw [recS_10 hq]
  rcases (show q = 0 ∨ q = 1 ∨ q = 2 ∨ q = 3 by omega) with rfl | rfl | rfl | rfl
  · exact bk.2.2.2.2.1
  · exact bk.2.2.2.2.2.1
  · exact bk.2.2.2.2.2.2.1
  · exact bk.2.2.2.2.2.2.2
theorem FK.o {s : Nat → Nat} {k : Nat} (h : FK s k) : tkO s k ≤ ned (recS s k) := by
  have h0 := h 0 (by omega)
  have h1 := h 1 (by omega)
  have h2 := h 2 (by omega)
  have h3 := h 3 (by omega)
  show tkM s k 0 + tkM s k 1 + tkM s k 2 + tkM s k 3 ≤ recS s k (10 + 0) + recS s k (10 + 1) + recS s k (10 + 2) + recS s k (10 + 3)
  omega
/-- hours pass -/
def passN : Nat → (Nat → Nat) → Nat → Nat
  | 0, s => s
  | n + 1, s => passN n (passH s)
theorem phL_0 {i : Nat} (hi : i < 9 ∨ 969 ≤ i) : ∀ (n k : Nat) (s : Nat → Nat), k + n ≤ 48 → phL k n s i = s i
  | 0, _, _, _ => rfl
  | n + 1, k, s, hk => by
    show phL (k + 1) n (match phB s k with | true => depM s k | false => s) i = s i
    rw [phL_0 hi n (k + 1) _ (by omega)]
    cases phB s k
    · rfl
    · exact depM_1 hi (by omega)
theorem passH_0 {s : Nat → Nat} : passH s 0 = s 0 + 1 := updN_s
/-- who has a place -/
def crM (s : Nat → Nat) (k : Nat) (w : Int32) (o : Option Nat) : Int32 := match o with
  | none => -nI 5
  | some i => if w = nI 0 then nI (i % 12) else if w = nI 1 then nI (i / 12) else nI (bgN s (i % 12) k)
def offL (q : Nat) : Nat → Nat → (Nat → Nat) → Nat → Nat
  | _, 0, s => s
  | i, n + 1, s => offL q (i + 1) n (updN s (1045 + 12 * q + i) (s (1045 + 12 * q + i + 1)))
def offM (s : Nat → Nat) (q i : Nat) : Nat → Nat := offL q i (s (1041 + q) - 1 - i) (updN s (1041 + q) (s (1041 + q) - 1))
