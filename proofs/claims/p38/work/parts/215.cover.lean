/-! covering a place -/
def updU (u : Nat → Nat → Nat) (r i v : Nat) : Nat → Nat → Nat := fun r' => if r' = r then updN (u r) i v else u r'
theorem updU_s {u : Nat → Nat → Nat} {r i v : Nat} : updU u r i v r = updN (u r) i v := if_pos rfl
theorem updU_n {u : Nat → Nat → Nat} {r i v r' : Nat} (h : r' ≠ r) : updU u r i v r' = u r' := if_neg h
theorem cA_chg {p q : Nat → Bool} : ∀ {n k i : Nat}, k ≤ i → i < k + n → (∀ j, j ≠ i → p j = q j) → cA p k n + (q i).toNat = cA q k n + (p i).toNat
  | 0, _, _, _, _, _ => by omega
  | n + 1, k, i, h1, h2, h => by
    show ((p k).toNat + cA p (k + 1) n) + _ = ((q k).toNat + cA q (k + 1) n) + _
    by_cases c : k = i
    · subst c
      have := cA_congr (p := p) (q := q) n (k + 1) (fun j a _ => h j (by omega))
      omega
    · have := cA_chg (n := n) (k := k + 1) (i := i) (by omega) (by omega) h
      rw [h k c]
      omega
theorem tkR_upd {u : Nat → Nat} {m v q : Nat} (hm : m < 12) : tkR (updN u (20 + m) v) q + (decide (u (20 + m) = q + 1)).toNat = tkR u q + (decide (v = q + 1)).toNat := by
  have h := cA_chg (p := fun i => decide (updN u (20 + m) v (20 + i) = q + 1)) (q := fun i => decide (u (20 + i) = q + 1)) (n := 12) (k := 0) (i := m) (Nat.zero_le _) (by omega) (fun j hj => by
    rw [updN_n (by omega)])
  simp only [updN_s] at h
  exact h
theorem StC.seat {X : pX} {B : Nat} {s : Nat → Nat} {u : Nat → Nat → Nat} {ls : Nat → List Nat} (hb : isB B) (hS : StC X B s u ls) {r m v : Nat} (hr : r < 48) (hm : m < 12) (hv : v ≤ 4) (hc : ∀ q, q < 4 → tkR (updN (u r) (20 + m) v) q ≤ u r (10 + q)) : StC (sV X.1 (B + (7 + 3 * X.2.1 B r)) (upd (X.1 (B + (7 + 3 * X.2.1 B r))) m (rl v)), X.2) B s (updU u r (20 + m) v) ls := by
  obtain ⟨hw, hR, hU, hG, hL⟩ := hS
  have hw1 := hw.1 r hr
  refine ⟨hw, ⟨hR.1.kept (sV_n (by omega)) (sV_n (by omega)), fun r' hr' => ?_, fun k hk => (hR.2.2.1 k hk).kept (sV_n (by omega)) (sV_n (by omega)), fun q hq => (hR.2.2.2 q hq).kept (sV_n (by omega)) (sV_n (by omega))⟩, fun r' hr' => ?_, hG, hL⟩
  · have hw2 := hw.1 r' hr'
    by_cases c : r' = r
    · subst c
      rw [updU_s]
      have hs := hR.2.1 r' hr'
      refine ⟨fun i hi => ?_, fun q hq => ?_, fun i hi => ?_⟩
      · dsimp only
        rw [sV_n (by omega), updN_n (by omega)]; exact hs.1 i hi
      · dsimp only
        rw [sV_n (by omega), updN_n (by omega)]; exact hs.2.1 q hq
      · dsimp only
        rw [sV_s]
        by_cases d : i = m
        · rw [d, pk_us, updN_s]
        · rw [pk_un d, updN_n (by omega)]; exact hs.2.2 i hi
    · rw [updU_n c]
      have hne : X.2.1 B r' ≠ X.2.1 B r := fun q => c (hw.2 r' r hr' hr q)
      exact (hR.2.1 r' hr').kept (sV_n (by omega)) (sV_n (by omega)) (sV_n (by omega))
  · by_cases c : r' = r
    · subst c
      rw [updU_s]
      obtain ⟨⟨a1, a2, a3⟩, b1, b2, b3, b4⟩ := hU r' hr'
      refine ⟨⟨fun i => ?_, fun i hi => ?_, fun q hq => ?_⟩, ?_, ?_, ?_, ?_⟩
      · by_cases d : i = 20 + m
        · rw [d, updN_s]; omega
        · rw [updN_n d]; exact a1 i
      · by_cases d : i = m
        · rw [d, updN_s]; exact hv
        · rw [updN_n (by omega)]; exact a2 i hi
      · rw [updN_n (j := 10 + q) (by omega)]; exact hc q hq
      · rw [updN_n (by omega)]; exact b1
      · rw [updN_n (by omega), updN_n (by omega)]; exact b2
      · rw [updN_n (by omega)]; exact b3
      · rw [updN_n (by omega)]; exact b4
    · rw [updU_n c]; exact hU r' hr'
/-- one more cover of member m -/
def cvS (s : Nat → Nat) (m : Nat) : Nat → Nat := updN (updN s 3 (s 3 + 1)) (969 + 6 * m + 5) (s (969 + 6 * m + 5) + 1)
theorem cvS_n {s : Nat → Nat} {m i : Nat} (h1 : i ≠ 3) (h2 : i ≠ 969 + 6 * m + 5) : cvS s m i = s i := by
  unfold cvS; rw [updN_n h2, updN_n h1]
theorem SG.cv {s : Nat → Nat} (h : SG s) {m : Nat} (hm : m < 12) : SG (cvS s m) := by
  obtain ⟨a, b, c, ⟨d1, d2, d3, d4, d5⟩, e⟩ := h
  refine ⟨?_, ?_, ?_, ⟨?_, ?_, ?_, ?_, ?_⟩, fun k hk q hq => ?_⟩
  all_goals rw [cvS_n (by omega) (by omega)]
  all_goals first | assumption | exact e k hk q hq
theorem StC.cv {X : pX} {B : Nat} {s : Nat → Nat} {u : Nat → Nat → Nat} {ls : Nat → List Nat} (hb : isB B) (hS : StC X B s u ls) {m : Nat} (hm : m < 12) : StC (sV X.1 (B + (149 + 2 * m)) (upd (X.1 (B + (149 + 2 * m))) 2 (X.1 (B + (149 + 2 * m)) 2 + nI 1)), X.2) B (cvS s m) u ls := by
  obtain ⟨hw, hR, hU, hG, hL⟩ := hS
  refine ⟨hw, ⟨?_, fun r hr => ?_, fun k hk => ?_, fun q hq => (hR.2.2.2 q hq).kept (sV_n (by omega)) (sV_n (by omega))⟩, hU, hG.cv hm, fun q hq => ?_⟩
  · have h := hR.1
    refine ⟨?_, ?_, ?_, fun i hi => ?_⟩
    · dsimp only; rw [sV_n (by omega), cvS_n (by omega) (by omega)]; exact h.1
    · dsimp only; rw [sV_n (by omega), cvS_n (by omega) (by omega)]; exact h.2.1
    · dsimp only; rw [sV_n (by omega), cvS_n (by omega) (by omega)]; exact h.2.2.1
    · dsimp only; rw [sV_n (by omega), cvS_n (by omega) (by omega)]; exact h.2.2.2 i hi
  · have hw1 := hw.1 r hr
    exact (hR.2.1 r hr).kept (sV_n (by omega)) (sV_n (by omega)) (sV_n (by omega))
  · have h := hR.2.2.1 k hk
    by_cases c : k = m
    · subst c
      refine ⟨fun q hq => ?_, ?_, ?_⟩
      · dsimp only; rw [sV_n (by omega), cvS_n (by omega) (by omega)]; exact h.1 q hq
      · dsimp only; rw [sV_s, pk_un (by omega), cvS_n (by omega) (by omega)]; exact h.2.1
      · dsimp only; rw [sV_s, pk_us, h.2.2, nI_add]; unfold cvS; rw [updN_s]
    · refine ⟨fun q hq => ?_, ?_, ?_⟩
      · dsimp only; rw [sV_n (by omega), cvS_n (by omega) (by omega)]; exact h.1 q hq
      · dsimp only; rw [sV_n (by omega), cvS_n (by omega) (by omega)]; exact h.2.1
      · dsimp only; rw [sV_n (by omega), cvS_n (by omega) (by omega)]; exact h.2.2
  · rw [cvS_n (by omega) (by omega)]; exact hL q hq
/-- who covers -/
def cov (s : Nat → Nat) (u : Nat → Nat → Nat) (ll : List Nat) (r q : Nat) : Option Nat := ll.find? (fun m => decide (rsn s u m r q = 0))
/-- after it -/
def cvs (s : Nat → Nat) (o : Option Nat) : Nat → Nat := match o with
  | none => s
  | some m => cvS s m
def cvu (u : Nat → Nat → Nat) (r q : Nat) (o : Option Nat) : Nat → Nat → Nat := match o with
  | none => u
  | some m => updU u r (20 + m) (q + 1)
theorem rsn_0 {s : Nat → Nat} {u : Nat → Nat → Nat} {m r q : Nat} (h : rsn s u m r q = 0) : u r 5 = 0 ∧ s 0 ≤ u r 2 ∧ tkR (u r) q < u r (10 + q) ∧ u r 3 ≤ s (969 + 6 * m + q) ∧ s (969 + 6 * m + 4) ≤ u r 2 ∧ u r (20 + m) = 0 ∧ rstB (dAll u (s 7) (selD u m (some r))) s (u r 2) (u r 3) = true := by
  unfold rsn at h
  split at h
  · omega
  · split at h
    · omega
    · split at h
      · omega
      · split at h
        · omega
        · split at h
          · omega
          · split at h
            · rename_i a b c d e f
              exact ⟨by omega, by omega, by omega, by omega, by omega, by omega, f⟩
            · omega
theorem rsn_le (s : Nat → Nat) (u : Nat → Nat → Nat) (m r q : Nat) : rsn s u m r q ≤ 6 := by
  unfold rsn
  repeat' (first | omega | split)
theorem seat_ok {u : Nat → Nat → Nat} (hU : UG u) {r m q : Nat} (hr : r < 48) (hm : m < 12) (h0 : u r (20 + m) = 0) (h1 : tkR (u r) q < u r (10 + q)) : ∀ p, p < 4 → tkR (updN (u r) (20 + m) (q + 1)) p ≤ u r (10 + p) := by
  intro p hp
  have h := tkR_upd (u := u r) (m := m) (v := q + 1) (q := p) hm
  have h2 := (hU r hr).1.2.2 p hp
  rw [h0] at h
  by_cases c : q = p
  · subst c
    simp at h
    omega
  · have e1 : decide (q + 1 = p + 1) = false := decide_eq_false (by omega)
    have e2 : decide (0 = p + 1) = false := decide_eq_false (by omega)
    rw [e1, e2] at h
    simp at h
    omega
theorem e_coverL {z : Nat} {B : Nat} (hb : isB B) {s : Nat → Nat} {u : Nat → Nat → Nat} {ls : Nat → List Nat} {r q : Nat} (hr : r < 48) (hq : q < 4) : ∀ (n fuel k : Nat) (X : pX), StC X B s u ls → DuE X.1 → k + n = (ls q).length → n < fuel → ∃ V', f_X5_coverPlace_15 fuel (z + B) (z + (B + (5 + 3 * X.2.1 B r))) (nI q) (z + (B + (173 + 2 * q))) (nI k) (hp z X) = some (bI (cov s u ((ls q).drop k) r q).isSome, hp z (V', X.2)) ∧ KpB B X.1 V' ∧ DuE V' ∧ StC (V', X.2) B (cvs s (cov s u ((ls q).drop k) r q)) (cvu u r q (cov s u ((ls q).drop k) r q)) ls ∧ ∀ j, j < 48 → V' (B + (5 + 3 * j)) = X.1 (B + (5 + 3 * j)) := by
  have hbl := isB_lt hb
  intro n
  induction n with
  | zero =>
    intro fuel k X hS hd h1 h2
    obtain ⟨fuel, rfl⟩ : ∃ f, fuel = f + 1 := ⟨fuel - 1, by omega⟩
    have h1 : k = (ls q).length := h1
    have hl := hS.2.2.2.2 q hq
    have h3 := (hS.2.1.2.2.2 q hq).1
    rw [List.drop_eq_nil_of_le (by omega)]
    refine ⟨X.1, ?_, KpB.rf, hd, hS, fun _ _ => rfl⟩
    simp (disch := first | assumption | omega) only [f_X5_coverPlace_15, f_X5_coverPlace_15_body, m_gO2, m_pO2, m_gO3, m_pO3, m_gO4, m_pO4, m_rO0, m_rO1, m_rO5, m_rO6, m_rO7, m_iO, m_ldT, m_stT, m_ldS, m_ldM, m_ldL, m_lnS, m_lnM, m_gS0, m_pS0, m_gS1, m_pS1, m_gS2, m_pS2, m_gS3, m_pS3, m_gS4, m_pS4, m_gS5, m_pS5, m_gS6, m_pS6, m_rS7, m_rS8, m_iS, m_gM1, m_pM1, m_gM2, m_pM2, m_rM0, m_iM, m_gL1, m_pL1, m_rL0, m_iL, m_ldP, m_stP, m_ldR, m_stR, m_ldC, m_stC, m_ldK, m_stK, m_gx5, m_px5, m_rx0, m_rx1, m_rx2, m_rx3, m_rx4, m_ix, m_gD1, m_pD1, m_gD2, m_pD2, m_gD3, m_pD3, m_rD0, m_iD, m_ld2, m_st2, m_gH1, m_pH1, m_rH0, m_iH, m_gX1, m_pX1, m_gX2, m_pX2, m_gX3, m_pX3, m_rX0, m_rX4, m_rX5, m_rX6, m_rX7, m_iX, m_ld1273, m_st1273, m_ld1274, m_st1274, m_ld1275, m_st1275, m_ld1276, m_st1276, m_ld1277, m_st1277, m_ldH, zb2_s, zif_t, zopt_n, zopt_s, b_s, znm_e, lit_0, lit_1, lit_2, lit_3, lit_4, lit_5, lit_6, lit_7, lit_8, lit_9, lit_10, lit_11, lit_12, lit_13, lit_14, lit_15, lit_16, lit_17, lit_18, lit_20, lit_24, lit_26, lit_30, lit_40, lit_45, lit_46, lit_47, lit_48, lit_60, lit_63, lit_64, lit_77, lit_100, lit_140, lit_168, lit_200, lit_300, lit_400, lit_900, lit_1000, lit_1168, lit_1997, lit_3333, lit_9999, lit_10000, reduceIte, Nat.reduceEqDiff, Nat.reduceLeDiff, Nat.reduceAdd, Nat.reduceMul, nI_eqE, nI_ltE, nI_leE, zbool_0, zbool_1, zbool_b, bI_0, bI_1, h3]
    rw [if_pos (by omega)]
    rfl
  | succ n ih =>
    intro fuel k X hS hd h1 h2
    obtain ⟨fuel, rfl⟩ : ∃ f, fuel = f + 1 := ⟨fuel - 1, by omega⟩
    have hl := hS.2.2.2.2 q hq
    have hLd := hS.2.1.2.2.2 q hq
    have h3 := hLd.1
    have hlt : k < (ls q).length := by omega
    have b2 := hS.2.2.2.1.2.2.1
    have hx : (ls q)[k]? = some (ls q)[k] := List.getElem?_eq_getElem hlt
    have hm := hl.2 _ (List.getElem_mem hlt)
    have hr1 := e_lRank (z := z) hb hq hLd hl.1 (k := k) (by omega)
    rw [hx] at hr1
    have hr1 : f_X2_memberOfRank (z + (B + (173 + 2 * q))) (nI k) (hp z X) = some (nI (ls q)[k], hp z X) := hr1
    have g0 := e_memAt_n (z := z) hb hS hm
    obtain ⟨V1, g1, g2, g3⟩ := e_reason (z := z) hb hS hm hr hq hd
    have hS1 := hS.kept hb g2
    have b7 := rsn_le s u (ls q)[k] r q
    rw [List.drop_eq_getElem_cons hlt]
    by_cases c : rsn s u (ls q)[k] r q = 0
    · have e1 : cov s u ((ls q)[k] :: List.drop (k + 1) (ls q)) r q = some (ls q)[k] := by unfold cov; rw [List.find?_cons_of_pos (by simp [c])]
      rw [e1]
      obtain ⟨c1, c2, c3, c4, c5, c6, c7⟩ := rsn_0 c
      rw [c] at g1
      have hw1 := hS.1.1 r hr
      have g4 := fun v => e_seat (z := z) (X := (V1, X.2)) hb hw1 (m := (ls q)[k]) (by omega) v
      have hS2 := hS1.seat hb (v := q + 1) hr (m := (ls q)[k]) (by omega) (by omega) (seat_ok hS.ug hr (by omega) c6 c3)
      rw [rl_s] at hS2
      have hS3 := hS2.cv hb (m := (ls q)[k]) (by omega)
      refine ⟨_, ?_, ?_, ?_, hS3, ?_⟩
      · simp (disch := first | assumption | omega) only [f_X5_coverPlace_15, f_X5_coverPlace_15_body, f_X5_coverPlace_76, m_gL1, m_iL, m_iO, m_iS, m_gM2, m_pM2, zb2_s, zif_t, zopt_n, zopt_s, b_s, znm_e, lit_0, lit_1, lit_2, lit_3, lit_4, lit_5, lit_6, lit_7, lit_8, lit_9, lit_10, lit_11, lit_12, lit_13, lit_14, lit_15, lit_16, lit_17, lit_18, lit_20, lit_24, lit_26, lit_30, lit_40, lit_45, lit_46, lit_47, lit_48, lit_60, lit_63, lit_64, lit_77, lit_100, lit_140, lit_168, lit_200, lit_300, lit_400, lit_900, lit_1000, lit_1168, lit_1997, lit_3333, lit_9999, lit_10000, nI_leE, h3, hr1, g0, g1, g4]
        rw [if_neg (by omega)]
        rfl
      · intro o o1 o2 o3
        dsimp only
        rw [sV_n (by omega), sV_n (by omega)]
        exact g2 o o1 o2
      · refine g3.kept ?_ ?_
        · dsimp only; rw [sV_n (by omega), sV_n (by omega)]
        · dsimp only; rw [sV_n (by omega), sV_n (by omega)]
      · intro j hj
        dsimp only
        rw [sV_n (by omega), sV_n (by omega)]
        exact g2 _ (by omega) (by omega)
    · have e1 : cov s u ((ls q)[k] :: List.drop (k + 1) (ls q)) r q = cov s u (List.drop (k + 1) (ls q)) r q := by unfold cov; rw [List.find?_cons_of_neg (by simp [c])]
      rw [e1]
      obtain ⟨V', q1, q2, q3, q4, q5⟩ := ih fuel (k + 1) (V1, X.2) hS1 g3 (by omega) (by omega)
      refine ⟨V', ?_, g2.B.tr q2, q3, q4, fun j hj => by rw [q5 j hj]; exact g2 _ (by omega) (by omega)⟩
      simp (disch := first | assumption | omega) only [f_X5_coverPlace_15, f_X5_coverPlace_15_body, f_X5_coverPlace_76, m_gL1, m_iL, m_iO, m_iS, m_gM2, m_pM2, zb2_s, zif_t, zopt_n, zopt_s, b_s, znm_e, lit_0, lit_1, lit_2, lit_3, lit_4, lit_5, lit_6, lit_7, lit_8, lit_9, lit_10, lit_11, lit_12, lit_13, lit_14, lit_15, lit_16, lit_17, lit_18, lit_20, lit_24, lit_26, lit_30, lit_40, lit_45, lit_46, lit_47, lit_48, lit_60, lit_63, lit_64, lit_77, lit_100, lit_140, lit_168, lit_200, lit_300, lit_400, lit_900, lit_1000, lit_1168, lit_1997, lit_3333, lit_9999, lit_10000, nI_leE, nI_eqE, h3, hr1, g0, g1, nI_add, nI_mul, q1]
      rw [if_neg (by omega), if_neg c]
theorem e_cover {z : Nat} {X : pX} {B : Nat} (hb : isB B) {s : Nat → Nat} {u : Nat → Nat → Nat} {ls : Nat → List Nat} (hS : StC X B s u ls) {r q : Nat} (hr : r < 48) (hq : q < 4) (hd : DuE X.1) : ∃ V', f_X5_coverPlace (z + B) (z + (B + (5 + 3 * X.2.1 B r))) (nI q) (hp z X) = some (bI (cov s u (ls q) r q).isSome, hp z (V', X.2)) ∧ KpB B X.1 V' ∧ DuE V' ∧ StC (V', X.2) B (cvs s (cov s u (ls q) r q)) (cvu u r q (cov s u (ls q) r q)) ls ∧ ∀ j, j < 48 → V' (B + (5 + 3 * j)) = X.1 (B + (5 + 3 * j)) := by
  have hl := hS.2.2.2.2 q hq
  obtain ⟨V', g1, g2⟩ := e_coverL (z := z) hb hr hq (ls q).length zN 0 X hS hd (by omega) (zN_lt (by omega))
  refine ⟨V', ?_, g2⟩
  have g0 := e_ladOf_n (z := z) hb hS hq
  simp (disch := first | assumption | omega) only [f_X5_coverPlace, m_iO, zb2_s, zif_t, zopt_n, zopt_s, b_s, znm_e, lit_0, lit_1, lit_2, lit_3, lit_4, lit_5, lit_6, lit_7, lit_8, lit_9, lit_10, lit_11, lit_12, lit_13, lit_14, lit_15, lit_16, lit_17, lit_18, lit_20, lit_24, lit_26, lit_30, lit_40, lit_45, lit_46, lit_47, lit_48, lit_60, lit_63, lit_64, lit_77, lit_100, lit_140, lit_168, lit_200, lit_300, lit_400, lit_900, lit_1000, lit_1168, lit_1997, lit_3333, lit_9999, lit_10000, g0, g1, List.drop_zero]
