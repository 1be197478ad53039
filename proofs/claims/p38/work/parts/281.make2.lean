/-! a State is made -/
def Fi0 (o i : Nat) : Int32 := if o = 1 then (if i < 5 then zT1 i else 0) else if 5 ≤ o ∧ o < 149 then (if (o - 5) % 3 = 0 then (if i = 5 then 3 else if i = 6 then -1 else 0) else if (o - 5) % 3 = 1 then 0 else (if i < 12 then -1 else 0)) else 0
theorem nI_s1' (n : Nat) : nI n + 1 = nI (n + 1) := by rw [lit_1, nI_add]
def evF (j : Nat) (a : Nat → Int32) : Nat → Int32 := fun i => if i < j then a i else 0
theorem evF_0 {a : Nat → Int32} : evF 0 a = fun _ => 0 := by
  funext i; unfold evF; rw [if_neg (by omega)]
theorem evF_s {a : Nat → Int32} {j : Nat} : upd (evF j a) j (a j) = evF (j + 1) a := by
  funext i
  unfold evF
  by_cases c : i = j
  · rw [c, pk_us, if_pos (by omega)]
  · rw [pk_un c]
    by_cases d : i < j
    · rw [if_pos d, if_pos (by omega)]
    · rw [if_neg d, if_neg (by omega)]
def evR (j : Nat) (a : Nat → Nat) : Nat → Option Nat := fun i => if i < j then some (a i) else none
theorem evR_0 {a : Nat → Nat} : evR 0 a = fun _ => none := by
  funext i; unfold evR; rw [if_neg (by omega)]
theorem evR_s {a : Nat → Nat} {j : Nat} : va_up (evR j a) j (some (a j)) = evR (j + 1) a := by
  funext i
  unfold evR va_up
  by_cases c : i = j
  · rw [if_pos c, c, if_pos (by omega)]
  · rw [if_neg c]
    show (if i < j then some (a i) else none) = _
    by_cases d : i < j
    · rw [if_pos d, if_pos (by omega)]
    · rw [if_neg d, if_neg (by omega)]
/-- a sailing's object is made -/
def OB4 (z n : Nat) : zCl := .inr (.inr (4, [.int 0, .int 0, .int 0, .int 0, .int 0, .int 3, .int (-1), .ref (z + (n + 1)), .ref (z + (n + 2))]))
theorem p_uns {z n N : Nat} (hN : n + 3 ≤ N) : ∀ (r fuel j : Nat) (P : Nat → zCl), j + r = 12 → r < fuel → P n = OB4 z n → P (n + 2) = .inl (0, 12, evF j (fun _ => -1)) → ∃ P', f_X4_unseatAll_2 fuel (z + n) (nI j) (pic z N P) = some (pic z N P') ∧ P' (n + 2) = .inl (0, 12, evF 12 (fun _ => -1)) ∧ ∀ o, o ≠ n + 2 → P' o = P o := by
  intro r
  induction r with
  | zero =>
    intro fuel j P hj hf e1 e2
    obtain ⟨fuel, rfl⟩ : ∃ f, fuel = f + 1 := ⟨fuel - 1, by omega⟩
    obtain rfl : j = 12 := by omega
    refine ⟨P, ?_, e2, fun _ _ => rfl⟩
    simp (disch := first | assumption | omega) only [f_X4_unseatAll_2, f_X4_unseatAll_2_body, lit_0, lit_1, lit_2, lit_3, lit_4, lit_5, lit_6, lit_7, lit_8, lit_9, lit_10, lit_11, lit_12, lit_13, lit_14, lit_15, lit_16, lit_17, lit_18, lit_20, lit_24, lit_26, lit_30, lit_40, lit_45, lit_46, lit_47, lit_48, lit_60, lit_63, lit_64, lit_77, lit_100, lit_140, lit_168, lit_200, lit_300, lit_400, lit_900, lit_1000, lit_1168, lit_1997, lit_3333, lit_9999, lit_10000, nI_leE, Nat.le_refl, if_true]
  | succ r ih =>
    intro fuel j P hj hf e1 e2
    obtain ⟨fuel, rfl⟩ : ∃ f, fuel = f + 1 := ⟨fuel - 1, by omega⟩
    have c : ¬ 12 ≤ j := by omega
    have g : zgR (pic z N P) (z + n) 4 8 = some (z + (n + 2)) := p_gR (by omega) e1 rfl
    have w := p_st (z := z) (n := N) (v := -1) (i' := nI j) (show n + 2 < N by omega) e2 (show j < 12 by omega) (by omega) rfl
    rw [evF_s] at w
    obtain ⟨P', k1, k2, k3⟩ := ih fuel (j + 1) _ (by omega) (by omega) (show pu P (n + 2) _ n = _ by rw [pu_n (by omega)]; exact e1) pu_s
    refine ⟨P', ?_, k2, fun o ho => by rw [k3 o ho, pu_n ho]⟩
    have E : f_X4_unseatAll_2 (fuel + 1) (z + n) (nI j) (pic z N P) = f_X4_unseatAll_2_body (f_X4_unseatAll_2 fuel) (z + n) (nI j) (pic z N P) := rfl
    rw [E]
    unfold f_X4_unseatAll_2_body
    rw [lit_12, if_neg (fun q => c ((nI_leI (by omega) (by omega)).mp q)), g, b_s, w, b_s, nI_s1' j]
    exact k1
theorem p_X4 {z n : Nat} {P : Nat → zCl} (e : P n = .inr (.inr (4, [.int 0, .int 0, .int 0, .int 0, .int 0, .int 0, .int 0, .null, .null]))) : ∃ P', f_X4_init (z + n) (pic z (n + 1) P) = some (pic z (n + 3) P') ∧ P' n = OB4 z n ∧ P' (n + 1) = .inl (0, 4, fun _ => 0) ∧ P' (n + 2) = .inl (0, 12, evF 12 (fun _ => -1)) ∧ ∀ o, o < n → P' o = P o := by
  obtain ⟨P1, a1, b1, d1⟩ := p_fldV (z := z) (n := n + 1) (k := 5) (v := .int 3) (by omega) e (Nat.le_of_ble_eq_true rfl)
  obtain ⟨P2, a2, b2, d2⟩ := p_fldV (z := z) (n := n + 1) (k := 6) (v := .int (-1)) (by omega) b1 (Nat.le_of_ble_eq_true rfl)
  obtain ⟨P3, a3, b3, c3, d3⟩ := p_fld (z := z) (n := n + 1) (k := 7) (c := .inl (0, 4, fun _ => 0)) (by omega) b2 (Nat.le_of_ble_eq_true rfl)
  obtain ⟨P4, a4, b4, c4, d4⟩ := p_fld (z := z) (n := n + 2) (k := 8) (c := .inl (0, 12, fun _ => 0)) (by omega) b3 (Nat.le_of_ble_eq_true rfl)
  have b4 : P4 n = OB4 z n := b4
  have c4' : P4 (n + 2) = .inl (0, 12, evF 0 (fun _ => -1)) := by rw [evF_0]; exact c4
  obtain ⟨P5, k1, k2, k3⟩ := p_uns (z := z) (n := n) (N := n + 3) (Nat.le_refl _) 12 zN 0 P4 (by omega) (zN_lt (by omega)) b4 c4'
  refine ⟨P5, ?_, by rw [k3 n (by omega)]; exact b4, by rw [k3 _ (by omega), d4 _ (by omega) (by omega)]; exact c3, k2, fun o ho => by rw [k3 _ (by omega), d4 _ (by omega) (by omega), d3 _ (by omega) (by omega), d2 _ (by omega), d1 _ (by omega)]⟩
  unfold f_X4_init
  rw [a1, a2, a3]
  have a4 := a4 (fun h8 => (zif (zis h8 (z + n) 4) (f_X4_unseatAll (z + n) h8)).bind fun h9 => some h9)
  refine a4.trans ?_
  have i4 : zis (pic z (n + 2 + 1) P4) (z + n) 4 = true := p_is (by omega) b4
  have k1 : f_X4_unseatAll (z + n) (pic z (n + 2 + 1) P4) = some (pic z (n + 3) P5) := k1
  try dsimp only
  rw [i4, k1]
  rfl
theorem p_X3 {z n : Nat} {P : Nat → zCl} (e : P n = .inr (.inr (3, [.null, .int 0, .int 0]))) : ∃ P', f_X3_init (z + n) (pic z (n + 1) P) = some (pic z (n + 2) P') ∧ P' n = .inr (.inr (3, [.ref (z + (n + 1)), .int 0, .int 0])) ∧ P' (n + 1) = .inl (0, 4, fun _ => 0) ∧ ∀ o, o < n → P' o = P o := by
  obtain ⟨P1, a1, b1, c1, d1⟩ := p_fld (z := z) (n := n + 1) (k := 0) (c := .inl (0, 4, fun _ => 0)) (by omega) e (Nat.le_of_ble_eq_true rfl)
  exact ⟨P1, a1 (fun h3 => some h3), b1, c1, fun o ho => d1 o (by omega) (by omega)⟩
theorem p_X2 {z n : Nat} {P : Nat → zCl} (e : P n = .inr (.inr (2, [.null, .int 0]))) : ∃ P', f_X2_init (z + n) (pic z (n + 1) P) = some (pic z (n + 2) P') ∧ P' n = .inr (.inr (2, [.ref (z + (n + 1)), .int 0])) ∧ P' (n + 1) = .inl (0, 12, fun _ => 0) ∧ ∀ o, o < n → P' o = P o := by
  obtain ⟨P1, a1, b1, c1, d1⟩ := p_fld (z := z) (n := n + 1) (k := 0) (c := .inl (0, 12, fun _ => 0)) (by omega) e (Nat.le_of_ble_eq_true rfl)
  exact ⟨P1, a1 (fun h3 => some h3), b1, c1, fun o ho => d1 o (by omega) (by omega)⟩
def OB5 (z B : Nat) : zCl := .inr (.inr (5, [.ref (z + 1), .ref (z + (B + 1)), .int 0, .int 0, .int 0, .ref (z + (B + 2)), .ref (z + (B + 3)), .ref (z + (B + 4))]))
/-- what holds while a State is made: so many sailings, members, ladders -/
def Mk (z B k m q : Nat) (P0 P : Nat → zCl) : Prop := (∀ o, o < B → P o = P0 o) ∧ P B = OB5 z B ∧ P (B + 1) = .inl (0, 5, evF 5 zT1) ∧ P (B + 2) = .inr (.inl (2, 48, evR k (fun r => z + (B + (5 + 3 * r))))) ∧ P (B + 3) = .inr (.inl (3, 12, evR m (fun r => z + (B + (149 + 2 * r))))) ∧ P (B + 4) = .inr (.inl (4, 4, evR q (fun r => z + (B + (173 + 2 * r))))) ∧ (∀ r, r < k → P (B + (5 + 3 * r)) = OB4 z (B + (5 + 3 * r)) ∧ P (B + (5 + 3 * r) + 1) = .inl (0, 4, fun _ => 0) ∧ P (B + (5 + 3 * r) + 2) = .inl (0, 12, evF 12 (fun _ => -1))) ∧ (∀ r, r < m → P (B + (149 + 2 * r)) = .inr (.inr (3, [.ref (z + (B + (149 + 2 * r) + 1)), .int 0, .int 0])) ∧ P (B + (149 + 2 * r) + 1) = .inl (0, 4, fun _ => 0)) ∧ ∀ r, r < q → P (B + (173 + 2 * r)) = .inr (.inr (2, [.ref (z + (B + (173 + 2 * r) + 1)), .int 0])) ∧ P (B + (173 + 2 * r) + 1) = .inl (0, 12, fun _ => 0)
theorem p_137 {z B : Nat} {P0 : Nat → zCl} : ∀ (r fuel q : Nat) (P : Nat → zCl), q + r = 4 → r < fuel → Mk z B 48 12 q P0 P → ∃ P', f_X5_init_137 fuel (z + B) (nI q) (pic z (B + (173 + 2 * q)) P) = some (pic z (B + 181) P') ∧ Mk z B 48 12 4 P0 P' := by
  intro r
  induction r with
  | zero =>
    intro fuel q P hq hf hM
    obtain ⟨fuel, rfl⟩ : ∃ f, fuel = f + 1 := ⟨fuel - 1, by omega⟩
    obtain rfl : q = 4 := by omega
    refine ⟨P, ?_, hM⟩
    simp (disch := first | assumption | omega) only [f_X5_init_137, f_X5_init_137_body, lit_0, lit_1, lit_2, lit_3, lit_4, lit_5, lit_6, lit_7, lit_8, lit_9, lit_10, lit_11, lit_12, lit_13, lit_14, lit_15, lit_16, lit_17, lit_18, lit_20, lit_24, lit_26, lit_30, lit_40, lit_45, lit_46, lit_47, lit_48, lit_60, lit_63, lit_64, lit_77, lit_100, lit_140, lit_168, lit_200, lit_300, lit_400, lit_900, lit_1000, lit_1168, lit_1997, lit_3333, lit_9999, lit_10000, nI_leE, Nat.le_refl, if_true]
  | succ r ih =>
    intro fuel q P hq hf hM
    obtain ⟨fuel, rfl⟩ : ∃ f, fuel = f + 1 := ⟨fuel - 1, by omega⟩
    have c : ¬ 4 ≤ q := by omega
    obtain ⟨m1, m2, m3, m4, m5, m6, m7, m8, m9⟩ := hM
    have g : zgR (pic z (B + (173 + 2 * q)) P) (z + B) 5 7 = some (z + (B + 4)) := p_gR (by omega) m2 rfl
    obtain ⟨P1, hP1⟩ : ∃ P1, P1 = pu P (B + (173 + 2 * q)) (.inr (.inr (2, [.null, .int 0]))) := ⟨_, rfl⟩
    have o1 : ∀ o, o < B + (173 + 2 * q) → P1 o = P o := fun o ho => by rw [hP1, pu_n (by omega)]
    obtain ⟨P2, a1, a2, a3, a4⟩ := p_X2 (z := z) (n := B + (173 + 2 * q)) (P := P1) (by rw [hP1, pu_s])
    have o2 : ∀ o, o < B + (173 + 2 * q) → P2 o = P o := fun o ho => (a4 o ho).trans (o1 o ho)
    have w := p_stR (z := z) (n := B + (173 + 2 * q) + 2) (o := B + 4) (q := B + (173 + 2 * q)) (by omega) ((o2 _ (by omega)).trans m6) (by omega) a2 (show q < 4 by omega) (by omega)
    rw [evR_s (a := fun r => z + (B + (173 + 2 * r)))] at w
    obtain ⟨P3, hP3⟩ : ∃ P3, P3 = pu P2 (B + 4) (.inr (.inl (4, 4, evR (q + 1) (fun r => z + (B + (173 + 2 * r)))))) := ⟨_, rfl⟩
    rw [← hP3] at w
    have o3 : ∀ o, o ≠ B + 4 → P3 o = P2 o := fun o ho => by rw [hP3, pu_n ho]
    have hM3 : Mk z B 48 12 (q + 1) P0 P3 := by
      refine ⟨fun o ho => by rw [o3 _ (by omega), o2 _ (by omega)]; exact m1 o ho, by rw [o3 _ (by omega), o2 _ (by omega)]; exact m2, by rw [o3 _ (by omega), o2 _ (by omega)]; exact m3, by rw [o3 _ (by omega), o2 _ (by omega)]; exact m4, by rw [o3 _ (by omega), o2 _ (by omega)]; exact m5, by rw [hP3, pu_s], fun r hr => ?_, fun r hr => ?_, fun r hr => ?_⟩
      · have := m7 r hr
        rw [o3 _ (by omega), o3 _ (by omega), o3 _ (by omega), o2 _ (by omega), o2 _ (by omega), o2 _ (by omega)]; exact this
      · have := m8 r hr
        rw [o3 _ (by omega), o3 _ (by omega), o2 _ (by omega), o2 _ (by omega)]; exact this
      · rw [o3 _ (by omega), o3 _ (by omega)]
        by_cases d : r = q
        · rw [d]; exact ⟨a2, a3⟩
        · have := m9 r (by omega)
          rw [o2 _ (by omega), o2 _ (by omega)]; exact this
    obtain ⟨P4, k1, k2⟩ := ih fuel (q + 1) P3 (by omega) (by omega) hM3
    rw [show B + (173 + 2 * (q + 1)) = B + (173 + 2 * q) + 2 by omega] at k1
    refine ⟨P4, ?_, k2⟩
    have E : f_X5_init_137 (fuel + 1) (z + B) (nI q) (pic z (B + (173 + 2 * q)) P) = f_X5_init_137_body (f_X5_init_137 fuel) (z + B) (nI q) (pic z (B + (173 + 2 * q)) P) := rfl
    have e1 : zadd (pic z (B + (173 + 2 * q)) P) (.inr (.inr (2, [.null, .int 0]))) = pic z (B + (173 + 2 * q) + 1) P1 := by rw [hP1]; exact pic_add
    rw [E]
    unfold f_X5_init_137_body
    rw [lit_4, if_neg (fun q => c ((nI_leI (by omega) (by omega)).mp q)), g, b_s, znm_e, znm_e, e1]
    rw [show (pic z (B + (173 + 2 * q)) P).1 = z + (B + (173 + 2 * q)) from rfl, a1, b_s, w, b_s, nI_s1' q]
    exact k1
theorem p_110 {z B : Nat} {P0 : Nat → zCl} : ∀ (r fuel m : Nat) (P : Nat → zCl), m + r = 12 → r < fuel → Mk z B 48 m 0 P0 P → ∃ P', f_X5_init_110 fuel (z + B) (nI m) (pic z (B + (149 + 2 * m)) P) = some (pic z (B + 181) P') ∧ Mk z B 48 12 4 P0 P' := by
  intro r
  induction r with
  | zero =>
    intro fuel m P hq hf hM
    obtain ⟨fuel, rfl⟩ : ∃ f, fuel = f + 1 := ⟨fuel - 1, by omega⟩
    obtain rfl : m = 12 := by omega
    obtain ⟨P', k1, k2⟩ := p_137 (z := z) (B := B) 4 zN 0 P (by omega) (zN_lt (by omega)) hM
    refine ⟨P', ?_, k2⟩
    simp (disch := first | assumption | omega) only [f_X5_init_110, f_X5_init_110_body, lit_0, lit_1, lit_2, lit_3, lit_4, lit_5, lit_6, lit_7, lit_8, lit_9, lit_10, lit_11, lit_12, lit_13, lit_14, lit_15, lit_16, lit_17, lit_18, lit_20, lit_24, lit_26, lit_30, lit_40, lit_45, lit_46, lit_47, lit_48, lit_60, lit_63, lit_64, lit_77, lit_100, lit_140, lit_168, lit_200, lit_300, lit_400, lit_900, lit_1000, lit_1168, lit_1997, lit_3333, lit_9999, lit_10000, nI_leE, Nat.le_refl, if_true]
    exact k1
  | succ r ih =>
    intro fuel q P hq hf hM
    obtain ⟨fuel, rfl⟩ : ∃ f, fuel = f + 1 := ⟨fuel - 1, by omega⟩
    have c : ¬ 12 ≤ q := by omega
    obtain ⟨m1, m2, m3, m4, m5, m6, m7, m8, m9⟩ := hM
    have g : zgR (pic z (B + (149 + 2 * q)) P) (z + B) 5 6 = some (z + (B + 3)) := p_gR (by omega) m2 rfl
    obtain ⟨P1, hP1⟩ : ∃ P1, P1 = pu P (B + (149 + 2 * q)) (.inr (.inr (3, [.null, .int 0, .int 0]))) := ⟨_, rfl⟩
    have o1 : ∀ o, o < B + (149 + 2 * q) → P1 o = P o := fun o ho => by rw [hP1, pu_n (by omega)]
    obtain ⟨P2, a1, a2, a3, a4⟩ := p_X3 (z := z) (n := B + (149 + 2 * q)) (P := P1) (by rw [hP1, pu_s])
    have o2 : ∀ o, o < B + (149 + 2 * q) → P2 o = P o := fun o ho => (a4 o ho).trans (o1 o ho)
    have w := p_stR (z := z) (n := B + (149 + 2 * q) + 2) (o := B + 3) (q := B + (149 + 2 * q)) (by omega) ((o2 _ (by omega)).trans m5) (by omega) a2 (show q < 12 by omega) (by omega)
    rw [evR_s (a := fun r => z + (B + (149 + 2 * r)))] at w
    obtain ⟨P3, hP3⟩ : ∃ P3, P3 = pu P2 (B + 3) (.inr (.inl (3, 12, evR (q + 1) (fun r => z + (B + (149 + 2 * r)))))) := ⟨_, rfl⟩
    rw [← hP3] at w
    have o3 : ∀ o, o ≠ B + 3 → P3 o = P2 o := fun o ho => by rw [hP3, pu_n ho]
    have hM3 : Mk z B 48 (q + 1) 0 P0 P3 := by
      refine ⟨fun o ho => by rw [o3 _ (by omega), o2 _ (by omega)]; exact m1 o ho, by rw [o3 _ (by omega), o2 _ (by omega)]; exact m2, by rw [o3 _ (by omega), o2 _ (by omega)]; exact m3, by rw [o3 _ (by omega), o2 _ (by omega)]; exact m4, by rw [hP3, pu_s], by rw [o3 _ (by omega), o2 _ (by omega)]; exact m6, fun r hr => ?_, fun r hr => ?_, fun r hr => by omega⟩
      · have := m7 r hr
        rw [o3 _ (by omega), o3 _ (by omega), o3 _ (by omega), o2 _ (by omega), o2 _ (by omega), o2 _ (by omega)]; exact this
      · rw [o3 _ (by omega), o3 _ (by omega)]
        by_cases d : r = q
        · rw [d]; exact ⟨a2, a3⟩
        · have := m8 r (by omega)
          rw [o2 _ (by omega), o2 _ (by omega)]; exact this
    obtain ⟨P4, k1, k2⟩ := ih fuel (q + 1) P3 (by omega) (by omega) hM3
    rw [show B + (149 + 2 * (q + 1)) = B + (149 + 2 * q) + 2 by omega] at k1
    refine ⟨P4, ?_, k2⟩
    have E : f_X5_init_110 (fuel + 1) (z + B) (nI q) (pic z (B + (149 + 2 * q)) P) = f_X5_init_110_body (f_X5_init_110 fuel) (z + B) (nI q) (pic z (B + (149 + 2 * q)) P) := rfl
    have e1 : zadd (pic z (B + (149 + 2 * q)) P) (.inr (.inr (3, [.null, .int 0, .int 0]))) = pic z (B + (149 + 2 * q) + 1) P1 := by rw [hP1]; exact pic_add
    rw [E]
    unfold f_X5_init_110_body
    rw [lit_12, if_neg (fun q => c ((nI_leI (by omega) (by omega)).mp q)), g, b_s, znm_e, znm_e, e1]
    rw [show (pic z (B + (149 + 2 * q)) P).1 = z + (B + (149 + 2 * q)) from rfl, a1, b_s, w, b_s, nI_s1' q]
    exact k1
theorem p_83 {z B : Nat} {P0 : Nat → zCl} : ∀ (r fuel k : Nat) (P : Nat → zCl), k + r = 48 → r < fuel → Mk z B k 0 0 P0 P → ∃ P', f_X5_init_83 fuel (z + B) (nI k) (pic z (B + (5 + 3 * k)) P) = some (pic z (B + 181) P') ∧ Mk z B 48 12 4 P0 P' := by
  intro r
  induction r with
  | zero =>
    intro fuel k P hq hf hM
    obtain ⟨fuel, rfl⟩ : ∃ f, fuel = f + 1 := ⟨fuel - 1, by omega⟩
    obtain rfl : k = 48 := by omega
    obtain ⟨P', k1, k2⟩ := p_110 (z := z) (B := B) 12 zN 0 P (by omega) (zN_lt (by omega)) hM
    refine ⟨P', ?_, k2⟩
    simp (disch := first | assumption | omega) only [f_X5_init_83, f_X5_init_83_body, lit_0, lit_1, lit_2, lit_3, lit_4, lit_5, lit_6, lit_7, lit_8, lit_9, lit_10, lit_11, lit_12, lit_13, lit_14, lit_15, lit_16, lit_17, lit_18, lit_20, lit_24, lit_26, lit_30, lit_40, lit_45, lit_46, lit_47, lit_48, lit_60, lit_63, lit_64, lit_77, lit_100, lit_140, lit_168, lit_200, lit_300, lit_400, lit_900, lit_1000, lit_1168, lit_1997, lit_3333, lit_9999, lit_10000, nI_leE, Nat.le_refl, if_true]
    exact k1
  | succ r ih =>
    intro fuel q P hq hf hM
    obtain ⟨fuel, rfl⟩ : ∃ f, fuel = f + 1 := ⟨fuel - 1, by omega⟩
    have c : ¬ 48 ≤ q := by omega
    obtain ⟨m1, m2, m3, m4, m5, m6, m7, m8, m9⟩ := hM
    have g : zgR (pic z (B + (5 + 3 * q)) P) (z + B) 5 5 = some (z + (B + 2)) := p_gR (by omega) m2 rfl
    obtain ⟨P1, hP1⟩ : ∃ P1, P1 = pu P (B + (5 + 3 * q)) (.inr (.inr (4, [.int 0, .int 0, .int 0, .int 0, .int 0, .int 0, .int 0, .null, .null]))) := ⟨_, rfl⟩
    have o1 : ∀ o, o < B + (5 + 3 * q) → P1 o = P o := fun o ho => by rw [hP1, pu_n (by omega)]
    obtain ⟨P2, a1, a2, a3, a5, a4⟩ := p_X4 (z := z) (n := B + (5 + 3 * q)) (P := P1) (by rw [hP1, pu_s])
    have o2 : ∀ o, o < B + (5 + 3 * q) → P2 o = P o := fun o ho => (a4 o ho).trans (o1 o ho)
    have w := p_stR (z := z) (n := B + (5 + 3 * q) + 3) (o := B + 2) (q := B + (5 + 3 * q)) (by omega) ((o2 _ (by omega)).trans m4) (by omega) a2 (show q < 48 by omega) (by omega)
    rw [evR_s (a := fun r => z + (B + (5 + 3 * r)))] at w
    obtain ⟨P3, hP3⟩ : ∃ P3, P3 = pu P2 (B + 2) (.inr (.inl (2, 48, evR (q + 1) (fun r => z + (B + (5 + 3 * r)))))) := ⟨_, rfl⟩
    rw [← hP3] at w
    have o3 : ∀ o, o ≠ B + 2 → P3 o = P2 o := fun o ho => by rw [hP3, pu_n ho]
    have hM3 : Mk z B (q + 1) 0 0 P0 P3 := by
      refine ⟨fun o ho => by rw [o3 _ (by omega), o2 _ (by omega)]; exact m1 o ho, by rw [o3 _ (by omega), o2 _ (by omega)]; exact m2, by rw [o3 _ (by omega), o2 _ (by omega)]; exact m3, by rw [hP3, pu_s], by rw [o3 _ (by omega), o2 _ (by omega)]; exact m5, by rw [o3 _ (by omega), o2 _ (by omega)]; exact m6, fun r hr => ?_, fun r hr => by omega, fun r hr => by omega⟩
      rw [o3 _ (by omega), o3 _ (by omega), o3 _ (by omega)]
      by_cases d : r = q
      · rw [d]; exact ⟨a2, a3, a5⟩
      · have := m7 r (by omega)
        rw [o2 _ (by omega), o2 _ (by omega), o2 _ (by omega)]; exact this
    obtain ⟨P4, k1, k2⟩ := ih fuel (q + 1) P3 (by omega) (by omega) hM3
    rw [show B + (5 + 3 * (q + 1)) = B + (5 + 3 * q) + 3 by omega] at k1
    refine ⟨P4, ?_, k2⟩
    have E : f_X5_init_83 (fuel + 1) (z + B) (nI q) (pic z (B + (5 + 3 * q)) P) = f_X5_init_83_body (f_X5_init_83 fuel) (z + B) (nI q) (pic z (B + (5 + 3 * q)) P) := rfl
    have e1 : zadd (pic z (B + (5 + 3 * q)) P) (.inr (.inr (4, [.int 0, .int 0, .int 0, .int 0, .int 0, .int 0, .int 0, .null, .null]))) = pic z (B + (5 + 3 * q) + 1) P1 := by rw [hP1]; exact pic_add
    rw [E]
    unfold f_X5_init_83_body
    rw [lit_48, if_neg (fun q => c ((nI_leI (by omega) (by omega)).mp q)), g, b_s, znm_e, znm_e, e1]
    rw [show (pic z (B + (5 + 3 * q)) P).1 = z + (B + (5 + 3 * q)) from rfl, a1, b_s, w, b_s, nI_s1' q]
    exact k1
theorem p_59 {z B : Nat} {P0 : Nat → zCl} : ∀ (r fuel i : Nat) (P : Nat → zCl), i + r = 5 → r < fuel → P (B + 1) = .inl (0, 5, evF i zT1) → (∀ P', P' (B + 1) = .inl (0, 5, evF 5 zT1) → (∀ o, o ≠ B + 1 → P' o = P o) → Mk z B 0 0 0 P0 P') → P B = OB5 z B → ∃ P', f_X5_init_59 fuel (z + B) (nI i) (pic z (B + 5) P) = some (pic z (B + 181) P') ∧ Mk z B 48 12 4 P0 P' := by
  intro r
  induction r with
  | zero =>
    intro fuel i P hq hf e1 hM e0
    obtain ⟨fuel, rfl⟩ : ∃ f, fuel = f + 1 := ⟨fuel - 1, by omega⟩
    obtain rfl : i = 5 := by omega
    obtain ⟨P', k1, k2⟩ := p_83 (z := z) (B := B) 48 zN 0 P (by omega) (zN_lt (by omega)) (hM P e1 (fun _ _ => rfl))
    refine ⟨P', ?_, k2⟩
    simp (disch := first | assumption | omega) only [f_X5_init_59, f_X5_init_59_body, lit_0, lit_1, lit_2, lit_3, lit_4, lit_5, lit_6, lit_7, lit_8, lit_9, lit_10, lit_11, lit_12, lit_13, lit_14, lit_15, lit_16, lit_17, lit_18, lit_20, lit_24, lit_26, lit_30, lit_40, lit_45, lit_46, lit_47, lit_48, lit_60, lit_63, lit_64, lit_77, lit_100, lit_140, lit_168, lit_200, lit_300, lit_400, lit_900, lit_1000, lit_1168, lit_1997, lit_3333, lit_9999, lit_10000, nI_leE, Nat.le_refl, if_true]
    exact k1
  | succ r ih =>
    intro fuel i P hq hf e1 hM e0
    obtain ⟨fuel, rfl⟩ : ∃ f, fuel = f + 1 := ⟨fuel - 1, by omega⟩
    have c : ¬ 5 ≤ i := by omega
    have g : zgR (pic z (B + 5) P) (z + B) 5 1 = some (z + (B + 1)) := p_gR (by omega) e0 rfl
    have tb : ztab 5 zT1 (nI i) = some (zT1 i) := by
      unfold ztab
      rw [if_neg (nI_in (show i < 5 by omega) (by omega)), nI_clamp (by omega)]
    have w := p_st (z := z) (n := B + 5) (v := zT1 i) (i' := nI i) (show B + 1 < B + 5 by omega) e1 (show i < 5 by omega) (by omega) rfl
    rw [evF_s] at w
    obtain ⟨P3, hP3⟩ : ∃ P3, P3 = pu P (B + 1) (.inl (0, 5, evF (i + 1) zT1)) := ⟨_, rfl⟩
    rw [← hP3] at w
    obtain ⟨P4, k1, k2⟩ := ih fuel (i + 1) P3 (by omega) (by omega) (by rw [hP3, pu_s]) (fun P' h1 h2 => hM P' h1 (fun o ho => by rw [h2 o ho, hP3, pu_n ho])) (by rw [hP3, pu_n (by omega)]; exact e0)
    refine ⟨P4, ?_, k2⟩
    have E : f_X5_init_59 (fuel + 1) (z + B) (nI i) (pic z (B + 5) P) = f_X5_init_59_body (f_X5_init_59 fuel) (z + B) (nI i) (pic z (B + 5) P) := rfl
    rw [E]
    unfold f_X5_init_59_body
    rw [lit_5, if_neg (fun q => c ((nI_leI (by omega) (by omega)).mp q)), g, b_s, tb, b_s, w, b_s, nI_s1' i]
    exact k1
def NB5 : zCl := .inr (.inr (5, [.null, .null, .int 0, .int 0, .int 0, .null, .null, .null]))
theorem p_X5 {z B : Nat} {P : Nat → zCl} (hB : 1 < B) (e : P B = NB5) : ∃ P', f_X5_init (z + B) (z + 1) (pic z (B + 1) P) = some (pic z (B + 181) P') ∧ Mk z B 48 12 4 P P' := by
  obtain ⟨P1, a1, b1, c1, d1⟩ := p_fld (z := z) (n := B + 1) (k := 1) (c := .inl (0, 5, fun _ => 0)) (by omega) e (Nat.le_of_ble_eq_true rfl)
  obtain ⟨P2, a2, b2, c2, d2⟩ := p_fld (z := z) (n := B + 2) (k := 5) (c := .inr (.inl (2, 48, fun _ => none))) (by omega) b1 (Nat.le_of_ble_eq_true rfl)
  obtain ⟨P3, a3, b3, c3, d3⟩ := p_fld (z := z) (n := B + 3) (k := 6) (c := .inr (.inl (3, 12, fun _ => none))) (by omega) b2 (Nat.le_of_ble_eq_true rfl)
  obtain ⟨P4, a4, b4, c4, d4⟩ := p_fld (z := z) (n := B + 4) (k := 7) (c := .inr (.inl (4, 4, fun _ => none))) (by omega) b3 (Nat.le_of_ble_eq_true rfl)
  obtain ⟨P5, a5, b5, d5⟩ := p_fldV (z := z) (n := B + 5) (k := 0) (v := .ref (z + 1)) (by omega) b4 (Nat.le_of_ble_eq_true rfl)
  obtain ⟨P6, a6, b6, d6⟩ := p_fldV (z := z) (n := B + 5) (k := 2) (v := .int 0) (by omega) b5 (Nat.le_of_ble_eq_true rfl)
  obtain ⟨P7, a7, b7, d7⟩ := p_fldV (z := z) (n := B + 5) (k := 3) (v := .int 0) (by omega) b6 (Nat.le_of_ble_eq_true rfl)
  obtain ⟨P8, a8, b8, d8⟩ := p_fldV (z := z) (n := B + 5) (k := 4) (v := .int 0) (by omega) b7 (Nat.le_of_ble_eq_true rfl)
  have b8 : P8 B = OB5 z B := b8
  have o8 : ∀ o, o ≠ B → P8 o = P4 o := fun o ho => by rw [d8 o ho, d7 o ho, d6 o ho, d5 o ho]
  have e1 : P8 (B + 1) = .inl (0, 5, evF 0 zT1) := by
    rw [o8 _ (by omega), d4 _ (by omega) (by omega), d3 _ (by omega) (by omega), d2 _ (by omega) (by omega), evF_0]
    exact c1
  have e2 : P8 (B + 2) = .inr (.inl (2, 48, evR 0 (fun r => z + (B + (5 + 3 * r))))) := by
    rw [o8 _ (by omega), d4 _ (by omega) (by omega), d3 _ (by omega) (by omega), evR_0]
    exact c2
  have e3 : P8 (B + 3) = .inr (.inl (3, 12, evR 0 (fun r => z + (B + (149 + 2 * r))))) := by
    rw [o8 _ (by omega), d4 _ (by omega) (by omega), evR_0]
    exact c3
  have e4 : P8 (B + 4) = .inr (.inl (4, 4, evR 0 (fun r => z + (B + (173 + 2 * r))))) := by
    rw [o8 _ (by omega), evR_0]
    exact c4
  have eo : ∀ o, o < B → P8 o = P o := fun o ho => by
    rw [o8 _ (by omega), d4 _ (by omega) (by omega), d3 _ (by omega) (by omega), d2 _ (by omega) (by omega), d1 _ (by omega) (by omega)]
  obtain ⟨P9, k1, k2⟩ := p_59 (z := z) (B := B) (P0 := P) 5 zN 0 P8 (by omega) (zN_lt (by omega)) e1 (fun P' h1 h2 => ⟨fun o ho => by rw [h2 o (by omega)]; exact eo o ho, by rw [h2 _ (by omega)]; exact b8, h1, by rw [h2 _ (by omega)]; exact e2, by rw [h2 _ (by omega)]; exact e3, by rw [h2 _ (by omega)]; exact e4, fun r hr => by omega, fun r hr => by omega, fun r hr => by omega⟩) b8
  refine ⟨P9, ?_, k2⟩
  unfold f_X5_init
  refine (a1 _).trans ?_
  refine (a2 _).trans ?_
  refine (a3 _).trans ?_
  refine (a4 _).trans ?_
  refine (a5 _).trans ?_
  refine (a6 _).trans ?_
  refine (a7 _).trans ?_
  refine (a8 _).trans ?_
  exact k1
