/-! settings, sailings, undo, keep, restore, the text's characters -/
def mxN : Nat → Nat
  | 0 => 20
  | 1 => 12
  | 2 => 140
  | 3 => 1
  | _ => 100
theorem mxN_l {i : Nat} : mxN i ≤ 140 := by
  match i with
  | 0 => show 20 ≤ 140; omega
  | 1 => show 12 ≤ 140; omega
  | 2 => show 140 ≤ 140; omega
  | 3 => show 1 ≤ 140; omega
  | k + 4 => show 100 ≤ 140; omega
theorem e_tab {i : Nat} (hi : i < 5) : ztab 5 zT2 (nI i) = some (nI (mxN i)) := by
  unfold ztab
  rw [if_neg (nI_in hi (by omega)), nI_clamp (by omega)]
  rcases (show i = 0 ∨ i = 1 ∨ i = 2 ∨ i = 3 ∨ i = 4 by omega) with rfl | rfl | rfl | rfl | rfl
  · exact congrArg some lit_20
  · exact congrArg some lit_12
  · exact congrArg some lit_140
  · exact congrArg some lit_1
  · exact congrArg some lit_100
theorem RB.set {s : Nat → Nat} (hB : RB s) {i v : Nat} (hi : i < 5) (hv : v ≤ mxN i) : RB (updN s (4 + i) v) := by
  refine RB_of hB ?_ (fun j a b => updN_n (by omega)) (fun q hq => ?_)
  · obtain ⟨a, b, c, ⟨d1, d2, d3, d4, d5⟩, e⟩ := hB.1
    refine ⟨?_, ?_, ?_, ?_, fun k hk q hq => ?_⟩
    · rw [updN_n (by omega)]; exact a
    · rw [updN_n (by omega)]; exact b
    · rw [updN_n (by omega)]; exact c
    · rcases (show i = 0 ∨ i = 1 ∨ i = 2 ∨ i = 3 ∨ i = 4 by omega) with rfl | rfl | rfl | rfl | rfl
      · exact ⟨by rw [updN_s]; exact hv, by rw [updN_n (by omega)]; exact d2, by rw [updN_n (by omega)]; exact d3, by rw [updN_n (by omega)]; exact d4, by rw [updN_n (by omega)]; exact d5⟩
      · exact ⟨by rw [updN_n (by omega)]; exact d1, by rw [updN_s]; exact hv, by rw [updN_n (by omega)]; exact d3, by rw [updN_n (by omega)]; exact d4, by rw [updN_n (by omega)]; exact d5⟩
      · exact ⟨by rw [updN_n (by omega)]; exact d1, by rw [updN_n (by omega)]; exact d2, by rw [updN_s]; exact hv, by rw [updN_n (by omega)]; exact d4, by rw [updN_n (by omega)]; exact d5⟩
      · exact ⟨by rw [updN_n (by omega)]; exact d1, by rw [updN_n (by omega)]; exact d2, by rw [updN_n (by omega)]; exact d3, by rw [updN_s]; exact hv, by rw [updN_n (by omega)]; exact d5⟩
      · exact ⟨by rw [updN_n (by omega)]; exact d1, by rw [updN_n (by omega)]; exact d2, by rw [updN_n (by omega)]; exact d3, by rw [updN_n (by omega)]; exact d4, by rw [updN_s]; exact hv⟩
    · rw [updN_n (by omega)]; exact e k hk q hq
  · rw [updN_n (by omega)]
    exact ⟨(hB.2.2.2 q hq).1, fun j hj => by rw [updN_n (by omega)]; exact (hB.2.2.2 q hq).2 j hj⟩
theorem recS_same {s s' : Nat → Nat} (h : ∀ i, 9 ≤ i → i < 969 → s' i = s i) {k : Nat} (hk : k < 48) : recS s' k = recS s k := by
  funext i
  rcases (show i < 20 ∨ (20 ≤ i ∧ i < 32) ∨ 32 ≤ i by omega) with c | c | c
  · exact rec_hi h hk (Or.inl c)
  · exact rec_hi h hk (Or.inr c)
  · obtain ⟨j, rfl⟩ : ∃ j, i = j + 14 := ⟨i - 14, by omega⟩
    show (if 20 ≤ j + 14 ∧ j + 14 < 32 then _ else 0) = (if 20 ≤ j + 14 ∧ j + 14 < 32 then _ else 0)
    rw [if_neg (by omega), if_neg (by omega)]
theorem UU_same {s s' σ : Nat → Nat} (hP : PS s σ) (e1 : s' 1 = s 1) (h : ∀ i, 9 ≤ i → i < 969 → s' i = s i) : UU s' σ = UU s σ := by
  have b1 := hP.W.n48
  funext r
  unfold UU
  rw [e1]
  by_cases c : r < s 1
  · rw [if_pos c, if_pos c, recS_same h (by have := hP.2.1.1 r c; omega)]
  · rw [if_neg c, if_neg c]
theorem aA_cg2 {p q : Nat → Bool} : ∀ (n k : Nat), (∀ i, k ≤ i → i < k + n → p i = q i) → aA p k n = aA q k n
  | 0, _, _ => rfl
  | n + 1, k, h => by
    show (p k && aA p (k + 1) n) = (q k && aA q (k + 1) n)
    rw [h k (by omega) (by omega), aA_cg2 n (k + 1) (fun i a b => h i (by omega) (by omega))]
theorem aA_all {p : Nat → Bool} : ∀ (n k : Nat), aA p k n = true → ∀ i, k ≤ i → i < k + n → p i = true
  | 0, _, _, i, a, b => by omega
  | n + 1, k, h, i, a, b => by
    have h : (p k && aA p (k + 1) n) = true := h
    rw [Bool.and_eq_true] at h
    by_cases c : i = k
    · rw [c]; exact h.1
    · exact aA_all n (k + 1) h.2 i (by omega) (by omega)
/-- a refusal -/
theorem ref_ok {s : Nat → Nat} (hB : RB s) {f st h v : Int32} (e : refM s f st h v = nI 0) : ∃ f' st' h' v' : Nat, f = nI f' ∧ st = nI st' ∧ h = nI h' ∧ v = nI v' ∧ s 1 < 48 ∧ f' < 6 ∧ s 0 ≤ st' ∧ st' ≤ 900 ∧ 1 ≤ h' ∧ h' ≤ 12 ∧ v' < 10000 ∧ (∀ q, q < 4 → dgt v' q ≤ 3) ∧ ∀ k, k < s 1 → recS s k 5 ≠ 2 → recS s k 1 = f' → st' + h' ≤ recS s k 2 ∨ recS s k 3 ≤ st' := by
  have b1 := hB.1.2.1
  have b0 := hB.1.1
  unfold refM at e
  by_cases c1 : nI 0 ≤ f ∧ f ≤ nI 5
  · rw [if_neg (fun q => q c1)] at e
    by_cases c2 : (nI (s 0) ≤ st ∧ st ≤ nI 900) ∧ (nI 1 ≤ h ∧ h ≤ nI 12) ∧ setB v = true
    · rw [if_neg (fun q => q c2)] at e
      by_cases c3 : oA (ohB s f st (st + h)) 0 (s 1) = true
      · rw [if_pos c3] at e; exact absurd e (by decide)
      · rw [if_neg c3] at e
        by_cases c4 : s 1 = 48
        · rw [if_pos c4] at e; exact absurd e (by decide)
        · obtain ⟨f', _, f9, rfl⟩ := wi_ex c1 (by omega) (by omega)
          obtain ⟨⟨d1, d2⟩, d3, d4⟩ := c2
          have h0 : nI 0 ≤ st := Int32.le_trans (nI_le (Nat.zero_le _) (by omega)) d1
          obtain ⟨st', hst, rfl⟩ := nI_of (x := st) (Int32.not_lt.mpr h0)
          have d1 := (nI_leI (by omega) hst).mp d1
          have d2 := (nI_leI hst (by omega)).mp d2
          obtain ⟨h', h1, h9, rfl⟩ := wi_ex d3 (by omega) (by omega)
          unfold setB at d4
          rw [Bool.and_eq_true, decide_eq_true_iff, decide_eq_true_iff] at d4
          obtain ⟨d4, d5⟩ := d4
          obtain ⟨v', v1, v9, rfl⟩ := wi_ex d4 (by omega) (by omega)
          rw [nI_clamp (by omega)] at d5
          refine ⟨f', st', h', v', rfl, rfl, rfl, rfl, by omega, by omega, d1, d2, h1, h9, by omega, fun q hq => ?_, fun k hk k5 k1 => ?_⟩
          · rcases (show q = 0 ∨ q = 1 ∨ q = 2 ∨ q = 3 by omega) with rfl | rfl | rfl | rfl
            · show v' / 10 / 10 / 10 % 10 ≤ 3; omega
            · show v' / 10 / 10 % 10 ≤ 3; omega
            · show v' / 10 % 10 ≤ 3; omega
            · show v' % 10 ≤ 3; omega
          · rcases Nat.lt_or_ge (recS s k 2) (st' + h') with x | x
            · rcases Nat.lt_or_ge st' (recS s k 3) with y | y
              · exfalso
                refine c3 (oA_iff.mpr ⟨k, Nat.zero_le _, by omega, ?_⟩)
                have bk := hB.2.1 k (by omega)
                have e3 : recS s k 3 = s (9 + 8 * k + 2) + s (9 + 8 * k + 3) := rfl
                unfold ohB
                rw [nI_add]
                exact decide_eq_true ⟨k5, by rw [k1], nI_lt x (by omega), nI_lt y (by omega)⟩
              · exact Or.inr y
            · exact Or.inl x
    · rw [if_pos c2] at e; exact absurd e (by decide)
  · rw [if_pos c1] at e; exact absurd e (by decide)
theorem ref_neg {s : Nat → Nat} {f st h v : Int32} (e : refM s f st h v ≠ nI 0) : (nI 0 ≤ refM s f st h v) = False := by
  unfold refM at e ⊢
  split
  · exact eq_false (by decide)
  · rename_i c1
    rw [if_neg c1] at e
    split
    · exact eq_false (by decide)
    · rename_i c2
      rw [if_neg c2] at e
      split
      · exact eq_false (by decide)
      · rename_i c3
        rw [if_neg c3] at e
        split
        · exact eq_false (by decide)
        · rename_i c4
          rw [if_neg c4] at e
          exact absurd rfl e
