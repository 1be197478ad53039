/-! p38: undo; sailings tells the truth -/
theorem e_undo {z : Nat} {X : pX} {p q : sS} {L : List sS} {K : Option sS} {T : List Int32} (hb : Bc X p (L ++ [q]) K T) : ∃ X1, f_X7_undo z (hp z X) = some (nI L.length, hp z X1) ∧ (∀ o, 1278 ≤ o → X1.1 o = X.1 o) ∧ Bc X1 q L K T := by
  obtain ⟨a, b, c, d, e, f, g⟩ := hb
  have l4 : L.length < 4 := by have := e.2.2.1; simp at this; omega
  have e1 : HiC X (L.map toA ++ [toA q]) := by rw [List.map_append] at e; exact e
  have n1 : X.1 546 1 = nI (L.length + 1) := by rw [e.2.1]; simp
  have nz := ne_eqF (show L.length + 1 ≠ 0 by omega) (by omega) (by omega)
  obtain ⟨V1, k1, k2, k3, k4⟩ := e_back (z := z) a.1 e1
  have n2 : V1 546 1 = nI L.length := by
    have := k3.2.1
    rw [List.length_map] at this
    exact this
  refine ⟨(V1, X.2), ?_, fun o ho => k2 o (by omega), ⟨k4, b.kept (k2 1 (by omega)) (k2 2 (by omega)), c, d, k3, f.mv (k2 0 (by omega)) rfl (fun o o1 o2 => k2 o (by omega)), g.mv (congrFun (k2 1272 (by omega)) 1) (k2 1273 (by omega))⟩⟩
  simp (disch := first | assumption | omega) only [f_X7_undo, m_rx0, m_rx1, m_rx2, m_rx3, m_rx4, m_ix, m_iO isB_3, m_iO isB_184, m_iO isB_365, m_iH, m_iX, m_iD, e_wi_t, e_wi_f, e_ro_t, e_ro_f, zbool_0, zbool_1, zb2_s, zif_t, zopt_n, zopt_s, b_s, znm_e, lit_0, lit_1, lit_2, lit_3, lit_4, lit_5, lit_6, lit_7, lit_8, lit_9, lit_10, lit_11, lit_12, lit_13, lit_14, lit_15, lit_16, lit_17, lit_18, lit_20, lit_24, lit_26, lit_30, lit_40, lit_45, lit_46, lit_47, lit_48, lit_60, lit_63, lit_64, lit_77, lit_100, lit_140, lit_168, lit_200, lit_300, lit_400, lit_900, lit_1000, lit_1168, lit_1997, lit_3333, lit_9999, lit_10000, nI_10, if_false, if_true, m_gH1, n1, nz, k1, n2]
/-! ranks -/
theorem nA_ge {p : Nat → Bool} : ∀ (n k L j : Nat), nA p k n L = some j → k ≤ j ∧ j < k + n ∧ p j = true
  | 0, _, _, _, h => by cases h
  | n + 1, k, L, j, h => by
    cases c : p k with
    | false =>
      rw [nA_f c] at h
      have := nA_ge n (k + 1) L j h
      exact ⟨by omega, by omega, this.2.2⟩
    | true =>
      cases L with
      | zero =>
        rw [nA_t0 c] at h
        cases h
        exact ⟨Nat.le_refl _, by omega, c⟩
      | succ L =>
        rw [nA_ts c] at h
        have := nA_ge n (k + 1) L j h
        exact ⟨by omega, by omega, this.2.2⟩
theorem nA_nx {p : Nat → Bool} : ∀ (n k L i j : Nat), nA p k n L = some i → nA p k n (L + 1) = some j → i < j
  | 0, _, _, _, _, h, _ => by cases h
  | n + 1, k, L, i, j, h, g => by
    cases c : p k with
    | false =>
      rw [nA_f c] at h g
      exact nA_nx n (k + 1) L i j h g
    | true =>
      rw [nA_ts c] at g
      cases L with
      | zero =>
        rw [nA_t0 c] at h
        cases h
        have := nA_ge n (k + 1) 0 j g
        omega
      | succ L =>
        rw [nA_ts c] at h
        exact nA_nx n (k + 1) L i j h g
theorem nA_cnt {p : Nat → Bool} : ∀ (n k L : Nat), (L < cA p k n → ∃ i, nA p k n L = some i) ∧ (cA p k n ≤ L → nA p k n L = none)
  | 0, _, _ => ⟨fun h => by rw [cA_0] at h; omega, fun _ => rfl⟩
  | n + 1, k, L => by
    cases c : p k with
    | false =>
      rw [nA_f c, cA_f c]
      exact nA_cnt n (k + 1) L
    | true =>
      rw [cA_t c]
      cases L with
      | zero => exact ⟨fun _ => ⟨k, nA_t0 c⟩, fun h => by omega⟩
      | succ L =>
        rw [nA_ts c]
        have := nA_cnt (p := p) n (k + 1) L
        exact ⟨fun h => this.1 (by omega), fun h => this.2 (by omega)⟩
theorem cA_app {p : Nat → Bool} : ∀ (n m k : Nat), cA p k (n + m) = cA p k n + cA p (k + n) m
  | 0, m, k => by rw [Nat.zero_add, cA_0, Nat.zero_add, Nat.add_zero]
  | n + 1, m, k => by
    rw [show n + 1 + m = (n + m) + 1 by omega]
    show (p k).toNat + cA p (k + 1) (n + m) = (p k).toNat + cA p (k + 1) n + _
    rw [cA_app n m (k + 1), show k + 1 + n = k + (n + 1) by omega, Nat.add_assoc]
theorem cA_sh {p q : Nat → Bool} : ∀ (n k j : Nat), (∀ i, i < n → p (k + i) = q (j + i)) → cA p k n = cA q j n
  | 0, _, _, _ => rfl
  | n + 1, k, j, h => by
    show (p k).toNat + cA p (k + 1) n = (q j).toNat + cA q (j + 1) n
    have h0 : p k = q j := h 0 (by omega)
    rw [h0, cA_sh n (k + 1) (j + 1) (fun i hi => by have := h (i + 1) (by omega); rw [show k + 1 + i = k + (i + 1) by omega, show j + 1 + i = j + (i + 1) by omega]; exact this)]
theorem mr_cnt {u : Nat → Nat} (h : ∀ m, m < 12 → u (20 + m) ≤ 4) : cA (mrP u) 0 48 = tkU u := by
  have e : ∀ q, cA (mrP u) (12 * q) 12 = tkR u q := fun q => cA_sh 12 (12 * q) 0 (fun i hi => by
    unfold mrP
    rw [show (12 * q + i) % 12 = i by omega, show (12 * q + i) / 12 = q by omega, Nat.zero_add])
  rw [tkU_R h, ← e 0, ← e 1, ← e 2, ← e 3, show (48 : Nat) = 12 + (12 + (12 + 12)) from rfl, cA_app, cA_app, cA_app]
  show cA (mrP u) 0 12 + (cA (mrP u) 12 12 + (cA (mrP u) 24 12 + cA (mrP u) 36 12)) = cA (mrP u) 0 12 + cA (mrP u) 12 12 + cA (mrP u) 24 12 + cA (mrP u) 36 12
  omega
theorem cr_some {s : Nat → Nat} (hB : RB s) {k R : Nat} (hk : k < 48) (h : R < tkU (recS s k)) : ∃ i, crN s k R = some i := by
  rw [← mr_cnt (fun m hm => rec_le4 hB hk hm)] at h
  exact (nA_cnt 48 0 R).1 h
theorem cr_none {s : Nat → Nat} (hB : RB s) {k R : Nat} (hk : k < 48) (h : tkU (recS s k) ≤ R) : crN s k R = none := by
  rw [← mr_cnt (fun m hm => rec_le4 hB hk hm)] at h
  exact (nA_cnt 48 0 R).2 h
/-- a question step by step -/
def En (o : Option (Int32 × zHp)) (z : Nat) (X : pX) (out : Int32) : Prop := ∃ V', o = some (out, hp z (V', X.2)) ∧ KpD X.1 V' ∧ DuE V'
theorem En.st {F : zHp → Option (Int32 × zHp)} {Kf : Int32 → zHp → Option (Int32 × zHp)} {z : Nat} {X : pX} {r out : Int32} {p : sS} {H : List sS} {K : Option sS} {T : List Int32} (hb : Bc X p H K T) (hF : An F z X r) (hK : ∀ V1, Bc (V1, X.2) p H K T → En (Kf r (hp z (V1, X.2))) z (V1, X.2) out) : En (zb2 (zif (zis (hp z X) z 7) (F (hp z X))) Kf) z X out := by
  obtain ⟨V1, a, b, c⟩ := hF
  obtain ⟨V2, d, e, f⟩ := hK V1 (hb.kd b c)
  exact ⟨V2, by rw [m_ix, zif_t, a, zb2_s]; exact d, b.tr e, f⟩
theorem En.fin {z : Nat} {X : pX} {p : sS} {H : List sS} {K : Option sS} {T : List Int32} (hb : Bc X p H K T) : En (zbool (nI 1) (hp z X)) z X (nI 1) := ⟨X.1, zbool_1, KpD.rf, hb.2.1⟩
theorem En.cg {o o' : Option (Int32 × zHp)} {z : Nat} {X : pX} {out : Int32} (h : En o z X out) (e : o' = o) : En o' z X out := by rw [e]; exact h
/-- free and taken places of the open ones among the first -/
def frK (s : Nat → Nat) (k : Nat) : Nat := sA (fun k => if recS s k 5 = 0 then fo s k else 0) 0 k
def tkK (s : Nat → Nat) (k : Nat) : Nat := sA (fun k => if recS s k 5 = 0 then tkO s k else 0) 0 k
theorem frK_s {s : Nat → Nat} {k : Nat} : frK s (k + 1) = frK s k + if recS s k 5 = 0 then fo s k else 0 := by
  unfold frK
  rw [sA_last, Nat.zero_add]
theorem tkK_s {s : Nat → Nat} {k : Nat} : tkK s (k + 1) = tkK s k + if recS s k 5 = 0 then tkO s k else 0 := by
  unfold tkK
  rw [sA_last, Nat.zero_add]
theorem frK_le {s : Nat → Nat} (hB : RB s) : ∀ k, k ≤ 48 → frK s k ≤ 12 * k
  | 0, _ => Nat.le_refl _
  | k + 1, h => by
    have := frK_le hB k (by omega)
    have := ned_le hB (k := k) (by omega)
    rw [frK_s]
    unfold fo
    split <;> omega
theorem tkK_le {s : Nat → Nat} (hB : RB s) : ∀ k, k ≤ 48 → tkK s k ≤ 48 * k
  | 0, _ => Nat.le_refl _
  | k + 1, h => by
    have := tkK_le hB k (by omega)
    have := tkO_le hB k
    rw [tkK_s]
    split <;> omega
theorem st_cnt {f : Nat → Nat} : ∀ (n k : Nat), (∀ i, k ≤ i → i < k + n → f i ≤ 2) → cA (fun i => decide (f i = 0)) k n + cA (fun i => decide (f i = 1)) k n + cA (fun i => decide (f i = 2)) k n = n
  | 0, _, _ => rfl
  | n + 1, k, h => by
    have h0 := h k (Nat.le_refl _) (by omega)
    have ih := st_cnt (f := f) n (k + 1) (fun i a b => h i (by omega) (by omega))
    show (decide (f k = 0)).toNat + _ + ((decide (f k = 1)).toNat + _) + ((decide (f k = 2)).toNat + _) = n + 1
    rcases (show f k = 0 ∨ f k = 1 ∨ f k = 2 by omega) with e | e | e <;> rw [e] <;> simp <;> omega
theorem no_lt {a b : Nat} (h : b ≤ a) (ha : a < 2 ^ 31) : ¬ nI a < nI b := fun e => by have := (nI_ltI ha (by omega)).mp e; omega
theorem neg_lt {a b : Nat} (ha : a < 2 ^ 31) (h1 : 0 < b) (hb : b < 2 ^ 31) : ¬ nI a < -nI b := fun e => by
  have := Int32.lt_iff_toInt_lt.mp e
  rw [Int32.toInt_neg, nI_toInt ha, nI_toInt hb] at this
  have e : Int.bmod (-(b : Int)) (2 ^ 32) = -(b : Int) := by apply Int.bmod_eq_of_le <;> omega
  rw [e] at this
  omega
