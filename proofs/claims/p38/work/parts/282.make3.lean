/-! both objects are made -/
theorem fi_z {o i : Nat} (h1 : o ≠ 1) (h2 : o < 5 ∨ 149 ≤ o) : Fi0 o i = 0 := by
  unfold Fi0
  rw [if_neg h1, if_neg (by omega)]
theorem fi_4 {j i : Nat} (hj : j < 48) : Fi0 (5 + 3 * j) i = if i = 5 then 3 else if i = 6 then -1 else 0 := by
  unfold Fi0
  rw [if_neg (by omega), if_pos ⟨by omega, by omega⟩, if_pos (by omega)]
theorem fi_p {j : Nat} (hj : j < 48) : Fi0 (6 + 3 * j) = fun _ => 0 := by
  funext i
  unfold Fi0
  rw [if_neg (by omega), if_pos ⟨by omega, by omega⟩, if_neg (by omega), if_pos (by omega)]
theorem fi_r {j : Nat} (hj : j < 48) : Fi0 (7 + 3 * j) = evF 12 (fun _ => -1) := by
  funext i
  unfold Fi0 evF
  rw [if_neg (by omega), if_pos ⟨by omega, by omega⟩, if_neg (by omega), if_neg (by omega)]
theorem fi_1 : Fi0 1 = evF 5 zT1 := by
  funext i
  unfold Fi0 evF
  rw [if_pos rfl]
theorem Mk_sh {z B : Nat} {P P' : Nat → zCl} (h : Mk z B 48 12 4 P P') {o : Nat} (ho : o < 181) : P' (B + o) = shS z B (Fi0 o) id o := by
  obtain ⟨_, m2, m3, m4, m5, m6, m7, m8, m9⟩ := h
  have fz : ∀ o i, o ≠ 1 → (o < 5 ∨ 149 ≤ o) → Fi0 o i = 0 := fun o i a b => fi_z a b
  rcases (show o = 0 ∨ o = 1 ∨ o = 2 ∨ o = 3 ∨ o = 4 ∨ (5 ≤ o ∧ o < 149) ∨ (149 ≤ o ∧ o < 173) ∨ 173 ≤ o by omega) with rfl | rfl | rfl | rfl | rfl | c | c | c
  · rw [sh_0, fz 0 2 (by omega) (by omega), fz 0 3 (by omega) (by omega), fz 0 4 (by omega) (by omega)]
    exact m2
  · rw [m3, fi_1]; rfl
  · exact m4
  · exact m5
  · exact m6
  · obtain ⟨j, t, rfl, ht, hj⟩ : ∃ j t, o = 5 + 3 * j + t ∧ t < 3 ∧ j < 48 := ⟨(o - 5) / 3, (o - 5) % 3, by omega, by omega, by omega⟩
    obtain ⟨a, b, c'⟩ := m7 j hj
    rcases (show t = 0 ∨ t = 1 ∨ t = 2 by omega) with rfl | rfl | rfl
    · rw [show 5 + 3 * j + 0 = 5 + 3 * j by omega, a, sh_S hj]
      unfold OB4
      rw [fi_4 hj, fi_4 hj, fi_4 hj, fi_4 hj, fi_4 hj, fi_4 hj, fi_4 hj, show B + (5 + 3 * j) + 1 = B + (6 + 3 * j) by omega, show B + (5 + 3 * j) + 2 = B + (7 + 3 * j) by omega]
      rfl
    · rw [show 5 + 3 * j + 1 = 6 + 3 * j by omega, sh_P hj, fi_p hj, ← b]
      congr 1
      omega
    · rw [show 5 + 3 * j + 2 = 7 + 3 * j by omega, sh_R hj, fi_r hj, ← c']
      congr 1
      omega
  · obtain ⟨j, t, rfl, ht, hj⟩ : ∃ j t, o = 149 + 2 * j + t ∧ t < 2 ∧ j < 12 := ⟨(o - 149) / 2, (o - 149) % 2, by omega, by omega, by omega⟩
    obtain ⟨a, b⟩ := m8 j hj
    rcases (show t = 0 ∨ t = 1 by omega) with rfl | rfl
    · rw [show 149 + 2 * j + 0 = 149 + 2 * j by omega, a, sh_M hj, fz _ 1 (by omega) (by omega), fz _ 2 (by omega) (by omega), show B + (149 + 2 * j) + 1 = B + (150 + 2 * j) by omega]
    · rw [show 149 + 2 * j + 1 = 150 + 2 * j by omega, sh_C hj, show Fi0 (150 + 2 * j) = fun _ => 0 from funext (fun i => fz _ i (by omega) (by omega)), ← b]
      congr 1
      omega
  · obtain ⟨j, t, rfl, ht, hj⟩ : ∃ j t, o = 173 + 2 * j + t ∧ t < 2 ∧ j < 4 := ⟨(o - 173) / 2, (o - 173) % 2, by omega, by omega, by omega⟩
    obtain ⟨a, b⟩ := m9 j hj
    rcases (show t = 0 ∨ t = 1 by omega) with rfl | rfl
    · rw [show 173 + 2 * j + 0 = 173 + 2 * j by omega, a, sh_L, fz _ 1 (by omega) (by omega), show B + (173 + 2 * j) + 1 = B + (174 + 2 * j) by omega]
    · rw [show 173 + 2 * j + 1 = 174 + 2 * j by omega, sh_K, show Fi0 (174 + 2 * j) = fun _ => 0 from funext (fun i => fz _ i (by omega) (by omega)), ← b]
      congr 1
      omega
/-- the history is made -/
def HK (z k : Nat) (P0 P : Nat → zCl) : Prop := (∀ o, o < 546 → P o = P0 o) ∧ P 546 = .inr (.inr (1, [.ref (z + 547), .int 0])) ∧ P 547 = .inr (.inl (5, 4, evR k (fun i => z + (548 + 181 * i)))) ∧ ∀ i, i < k → ∀ o, o < 181 → P (548 + 181 * i + o) = shS z (548 + 181 * i) (Fi0 o) id o
theorem p_14 {z : Nat} {P0 : Nat → zCl} : ∀ (r fuel k : Nat) (P : Nat → zCl), k + r = 4 → r < fuel → HK z k P0 P → ∃ P', f_X1_init_14 fuel (z + 546) (z + 1) (nI k) (pic z (548 + 181 * k) P) = some (pic z 1272 P') ∧ HK z 4 P0 P' := by
  intro r
  induction r with
  | zero =>
    intro fuel k P hk hf hM
    obtain ⟨fuel, rfl⟩ : ∃ f, fuel = f + 1 := ⟨fuel - 1, by omega⟩
    obtain rfl : k = 4 := by omega
    obtain ⟨m1, m2, m3, m4⟩ := hM
    obtain ⟨P1, a1, b1, d1⟩ := p_fldV (z := z) (n := 548 + 181 * 4) (k := 1) (v := .int 0) (by omega) m2 (Nat.le_of_ble_eq_true rfl)
    refine ⟨P1, ?_, fun o ho => by rw [d1 o (by omega)]; exact m1 o ho, b1, by rw [d1 _ (by omega)]; exact m3, fun i hi o ho => by rw [d1 _ (by omega)]; exact m4 i hi o ho⟩
    have E : f_X1_init_14 (fuel + 1) (z + 546) (z + 1) (nI 4) (pic z (548 + 181 * 4) P) = f_X1_init_14_body (f_X1_init_14 fuel) (z + 546) (z + 1) (nI 4) (pic z (548 + 181 * 4) P) := rfl
    rw [E]
    unfold f_X1_init_14_body
    rw [lit_4, if_pos (Int32.le_refl _)]
    exact a1 (fun h1 => some h1)
  | succ r ih =>
    intro fuel k P hk hf hM
    obtain ⟨fuel, rfl⟩ : ∃ f, fuel = f + 1 := ⟨fuel - 1, by omega⟩
    have c : ¬ 4 ≤ k := by omega
    obtain ⟨m1, m2, m3, m4⟩ := hM
    have g : zgR (pic z (548 + 181 * k) P) (z + 546) 1 0 = some (z + 547) := p_gR (by omega) m2 rfl
    obtain ⟨P1, hP1⟩ : ∃ P1, P1 = pu P (548 + 181 * k) NB5 := ⟨_, rfl⟩
    have o1 : ∀ o, o < 548 + 181 * k → P1 o = P o := fun o ho => by rw [hP1, pu_n (by omega)]
    obtain ⟨P2, a1, a2⟩ := p_X5 (z := z) (B := 548 + 181 * k) (P := P1) (by omega) (by rw [hP1, pu_s])
    have o2 : ∀ o, o < 548 + 181 * k → P2 o = P o := fun o ho => (a2.1 o ho).trans (o1 o ho)
    have w := p_stR (z := z) (n := 548 + 181 * k + 181) (o := 547) (q := 548 + 181 * k) (by omega) ((o2 _ (by omega)).trans m3) (by omega) a2.2.1 (show k < 4 by omega) (by omega)
    rw [evR_s (a := fun i => z + (548 + 181 * i))] at w
    obtain ⟨P3, hP3⟩ : ∃ P3, P3 = pu P2 547 (.inr (.inl (5, 4, evR (k + 1) (fun i => z + (548 + 181 * i))))) := ⟨_, rfl⟩
    rw [← hP3] at w
    have o3 : ∀ o, o ≠ 547 → P3 o = P2 o := fun o ho => by rw [hP3, pu_n ho]
    have hM3 : HK z (k + 1) P0 P3 := by
      refine ⟨fun o ho => by rw [o3 _ (by omega), o2 _ (by omega)]; exact m1 o ho, by rw [o3 _ (by omega), o2 _ (by omega)]; exact m2, by rw [hP3, pu_s], fun i hi o ho => ?_⟩
      rw [o3 _ (by omega)]
      by_cases d : i = k
      · rw [d]; exact Mk_sh a2 ho
      · rw [o2 _ (by omega)]; exact m4 i (by omega) o ho
    obtain ⟨P4, k1, k2⟩ := ih fuel (k + 1) P3 (by omega) (by omega) hM3
    rw [show 548 + 181 * (k + 1) = 548 + 181 * k + 181 by omega] at k1
    refine ⟨P4, ?_, k2⟩
    have E : f_X1_init_14 (fuel + 1) (z + 546) (z + 1) (nI k) (pic z (548 + 181 * k) P) = f_X1_init_14_body (f_X1_init_14 fuel) (z + 546) (z + 1) (nI k) (pic z (548 + 181 * k) P) := rfl
    have e1 : zadd (pic z (548 + 181 * k) P) NB5 = pic z (548 + 181 * k + 1) P1 := by rw [hP1]; exact pic_add
    unfold NB5 at e1
    rw [E]
    unfold f_X1_init_14_body
    rw [lit_4, if_neg (fun q => c ((nI_leI (by omega) (by omega)).mp q)), g, b_s, znm_e, znm_e, e1]
    rw [show (pic z (548 + 181 * k) P).1 = z + (548 + 181 * k) from rfl, a1, b_s, w, b_s, nI_s1' k]
    exact k1
theorem p_X1 {z : Nat} {P : Nat → zCl} (e : P 546 = .inr (.inr (1, [.null, .int 0]))) : ∃ P', f_X1_init (z + 546) (z + 1) (pic z 547 P) = some (pic z 1272 P') ∧ HK z 4 P P' := by
  obtain ⟨P1, a1, b1, c1, d1⟩ := p_fld (z := z) (n := 547) (k := 0) (c := .inr (.inl (5, 4, fun _ => none))) (by omega) e (Nat.le_of_ble_eq_true rfl)
  obtain ⟨P2, k1, k2⟩ := p_14 (z := z) (P0 := P) 4 zN 0 P1 (by omega) (zN_lt (by omega)) ⟨fun o ho => d1 o (by omega) (by omega), b1, by rw [evR_0]; exact c1, fun i hi => by omega⟩
  refine ⟨P2, ?_, k2⟩
  unfold f_X1_init
  refine (a1 _).trans ?_
  exact k1
theorem p_X0 {z : Nat} {P : Nat → zCl} (e : P 1 = .inr (.inr (0, [.null, .int 0, .int 0, .int 0]))) : ∃ P', f_X0_init (z + 1) (pic z 2 P) = some (pic z 3 P') ∧ P' 1 = .inr (.inr (0, [.ref (z + 2), .int 0, .int 0, .int 0])) ∧ P' 2 = .inl (0, 1168, fun _ => 0) ∧ P' 0 = P 0 := by
  obtain ⟨P1, a1, b1, c1, d1⟩ := p_fld (z := z) (n := 2) (k := 0) (c := .inl (0, 1168, fun _ => 0)) (by omega) e (Nat.le_of_ble_eq_true rfl)
  exact ⟨P1, a1 (fun h3 => some h3), b1, c1, d1 0 (by omega) (by omega)⟩
/-- a State more, and its field -/
theorem p_st5 {z n k : Nat} {fs : List Value} {P : Nat → zCl} (hn : 1 < n) (e : P 0 = .inr (.inr (7, fs))) (hk : k < fs.length) : ∃ P', (∀ G : zHp → Option zHp, (znm (pic z n P).1 fun q => znm (zadd (pic z n P) NB5) fun h' => (f_X5_init q (z + 1) h').bind fun h6 => (zpV h6 z 7 k (.ref q)).bind G) = G (pic z (n + 181) P')) ∧ P' 0 = .inr (.inr (7, fs.set k (.ref (z + n)))) ∧ (∀ o, 0 < o → o < n → P' o = P o) ∧ ∀ o, o < 181 → P' (n + o) = shS z n (Fi0 o) id o := by
  obtain ⟨P1, hP1⟩ : ∃ P1, P1 = pu P n NB5 := ⟨_, rfl⟩
  obtain ⟨P2, a1, a2⟩ := p_X5 (z := z) (B := n) (P := P1) hn (by rw [hP1, pu_s])
  have e2 : P2 0 = .inr (.inr (7, fs)) := by rw [a2.1 0 (by omega), hP1, pu_n (by omega)]; exact e
  obtain ⟨P3, a3, b3, d3⟩ := p_fldV (z := z) (n := n + 181) (o := 0) (k := k) (v := .ref (z + n)) (by omega) e2 hk
  refine ⟨P3, fun G => ?_, b3, fun o h1 h2 => by rw [d3 o (by omega), a2.1 o h2, hP1, pu_n (by omega)], fun o ho => by rw [d3 _ (by omega)]; exact Mk_sh a2 ho⟩
  have e1 : zadd (pic z n P) NB5 = pic z (n + 1) P1 := by rw [hP1]; exact pic_add
  rw [znm_e, znm_e, e1, show (pic z n P).1 = z + n from rfl, a1, b_s]
  exact a3 G
theorem p_X7 {z : Nat} {P : Nat → zCl} (e : P 0 = .inr (.inr (7, [.null, .null, .null, .null, .null, .int 0]))) : ∃ P', f_X7_init z (pic z 1 P) = some (pic z 1278 P') ∧ P' 0 = .inr (.inr (7, [.ref (z + 3), .ref (z + 184), .ref (z + 365), .ref (z + 546), .ref (z + 1272), .int 0])) ∧ P' 1 = .inr (.inr (0, [.ref (z + 2), .int 0, .int 0, .int 0])) ∧ P' 2 = .inl (0, 1168, fun _ => 0) ∧ (∀ o, o < 181 → P' (3 + o) = shS z 3 (Fi0 o) id o ∧ P' (184 + o) = shS z 184 (Fi0 o) id o ∧ P' (365 + o) = shS z 365 (Fi0 o) id o) ∧ P' 546 = .inr (.inr (1, [.ref (z + 547), .int 0])) ∧ P' 547 = .inr (.inl (5, 4, evR 4 (fun i => z + (548 + 181 * i)))) ∧ (∀ i, i < 4 → ∀ o, o < 181 → P' (548 + 181 * i + o) = shS z (548 + 181 * i) (Fi0 o) id o) ∧ P' 1272 = .inr (.inr (6, [.ref (z + 1273), .int 0, .int 0, .int 0, .ref (z + 1274), .ref (z + 1275), .ref (z + 1276), .ref (z + 1277)])) ∧ P' 1273 = .inl (1, 60, fun _ => 0) ∧ ∀ o, 1274 ≤ o → o < 1278 → P' o = .inl (0, 6, fun _ => 0) := by
  obtain ⟨Q1, hQ1⟩ : ∃ Q1, Q1 = pu P 1 (.inr (.inr (0, [.null, .int 0, .int 0, .int 0]))) := ⟨_, rfl⟩
  have e1 : zadd (pic z 1 P) (.inr (.inr (0, [.null, .int 0, .int 0, .int 0]))) = pic z 2 Q1 := by rw [hQ1]; exact pic_add
  obtain ⟨P1, a1, b1, c1, d1⟩ := p_X0 (z := z) (P := Q1) (by rw [hQ1, pu_s])
  have z1 : P1 0 = .inr (.inr (7, [.null, .null, .null, .null, .null, .int 0])) := by rw [d1, hQ1, pu_n (by omega)]; exact e
  obtain ⟨P2, a2, b2, c2, d2⟩ := p_st5 (z := z) (n := 3) (k := 0) (by omega) z1 (Nat.le_of_ble_eq_true rfl)
  obtain ⟨P3, a3, b3, c3, d3⟩ := p_st5 (z := z) (n := 184) (k := 1) (by omega) b2 (Nat.le_of_ble_eq_true rfl)
  obtain ⟨P4, a4, b4, c4, d4⟩ := p_st5 (z := z) (n := 365) (k := 2) (by omega) b3 (Nat.le_of_ble_eq_true rfl)
  obtain ⟨Q5, hQ5⟩ : ∃ Q5, Q5 = pu P4 546 (.inr (.inr (1, [.null, .int 0]))) := ⟨_, rfl⟩
  have e5 : zadd (pic z 546 P4) (.inr (.inr (1, [.null, .int 0]))) = pic z 547 Q5 := by rw [hQ5]; exact pic_add
  have q5 : ∀ o, o < 546 → Q5 o = P4 o := fun o ho => by rw [hQ5, pu_n (by omega)]
  obtain ⟨P5, a5, f1, f2, f3, f4⟩ := p_X1 (z := z) (P := Q5) (by rw [hQ5, pu_s])
  have z5 : P5 0 = _ := (f1 0 (by omega)).trans ((q5 0 (by omega)).trans b4)
  obtain ⟨P6, a6, b6, d6⟩ := p_fldV (z := z) (n := 1272) (o := 0) (k := 3) (v := .ref (z + 546)) (by omega) z5 (Nat.le_of_ble_eq_true rfl)
  obtain ⟨Q7, hQ7⟩ : ∃ Q7, Q7 = pu P6 1272 (.inr (.inr (6, [.null, .int 0, .int 0, .int 0, .null, .null, .null, .null]))) := ⟨_, rfl⟩
  have e7 : zadd (pic z 1272 P6) (.inr (.inr (6, [.null, .int 0, .int 0, .int 0, .null, .null, .null, .null]))) = pic z 1273 Q7 := by rw [hQ7]; exact pic_add
  have q7 : ∀ o, o < 1272 → Q7 o = P6 o := fun o ho => by rw [hQ7, pu_n (by omega)]
  obtain ⟨P7, a7, g1, g2, g3, g4⟩ := p_X6 (z := z) (P := Q7) (by rw [hQ7, pu_s])
  have z7 : P7 0 = _ := (g4 0 (by omega)).trans ((q7 0 (by omega)).trans b6)
  obtain ⟨P8, a8, b8, d8⟩ := p_fldV (z := z) (n := 1278) (o := 0) (k := 4) (v := .ref (z + 1272)) (by omega) z7 (Nat.le_of_ble_eq_true rfl)
  obtain ⟨P9, a9, b9, d9⟩ := p_fldV (z := z) (n := 1278) (o := 0) (k := 5) (v := .int 0) (by omega) b8 (Nat.le_of_ble_eq_true rfl)
  have t7 : ∀ o, 0 < o → o < 1272 → P9 o = P5 o := fun o h1 h2 => by rw [d9 o (by omega), d8 o (by omega), g4 o h2, q7 o h2, d6 o (by omega)]
  have t8 : ∀ o, 0 < o → P9 o = P7 o := fun o h1 => by rw [d9 o (by omega), d8 o (by omega)]
  have t5 : ∀ o, 0 < o → o < 546 → P9 o = P4 o := fun o h1 h2 => by rw [t7 o h1 (by omega), f1 o h2, q5 o h2]
  refine ⟨P9, ?_, b9, ?_, ?_, fun o ho => ⟨?_, ?_, ?_⟩, ?_, ?_, fun i hi o ho => ?_, ?_, ?_, fun o h1 h2 => ?_⟩
  · unfold f_X7_init
    rw [znm_e, znm_e, e1, show (pic z 1 P).1 = z + 1 from rfl, a1, b_s]
    refine (a2 _).trans ?_
    refine (a3 _).trans ?_
    refine (a4 _).trans ?_
    have e5' : zadd (pic z (365 + 181) P4) (.inr (.inr (1, [.null, .int 0]))) = pic z 547 Q5 := e5
    rw [znm_e, znm_e, e5', show (pic z (365 + 181) P4).1 = z + 546 from rfl, a5, b_s]
    refine (a6 _).trans ?_
    rw [znm_e, znm_e, e7, show (pic z 1272 P6).1 = z + 1272 from rfl, a7, b_s]
    refine (a8 _).trans ?_
    exact a9 (fun h24 => some h24)
  · rw [t5 1 (by omega) (by omega), c4 1 (by omega) (by omega), c3 1 (by omega) (by omega), c2 1 (by omega) (by omega)]; exact b1
  · rw [t5 2 (by omega) (by omega), c4 2 (by omega) (by omega), c3 2 (by omega) (by omega), c2 2 (by omega) (by omega)]; exact c1
  · rw [t5 _ (by omega) (by omega), c4 _ (by omega) (by omega), c3 _ (by omega) (by omega)]; exact d2 o ho
  · rw [t5 _ (by omega) (by omega), c4 _ (by omega) (by omega)]; exact d3 o ho
  · rw [t5 _ (by omega) (by omega)]; exact d4 o ho
  · rw [t7 _ (by omega) (by omega)]; exact f2
  · rw [t7 _ (by omega) (by omega)]; exact f3
  · rw [t7 _ (by omega) (by omega)]; exact f4 i hi o ho
  · rw [t8 _ (by omega)]; exact g1
  · rw [t8 _ (by omega)]; exact g2
  · rw [t8 _ (by omega)]; exact g3 o h1 h2
