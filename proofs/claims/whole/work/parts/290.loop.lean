/-! the law's loop over the script -/
theorem sub_lt5 {L k : Nat} (hL : L < 2 ^ 30) (hk : k < 2 ^ 29) : (nI L - nI 5 < nI k) = (L < k + 5) := by
  have t := pk_sub_toInt (a := L) (b := 5) hL (by omega)
  have tk := nI_toInt (n := k) (by omega)
  refine propext ⟨fun q => ?_, fun q => Int32.lt_iff_toInt_lt.mpr (by rw [t, tk]; omega)⟩
  have q := Int32.lt_iff_toInt_lt.mp q
  rw [t, tk] at q
  omega
theorem zsc_at {L : Nat} {xs : Nat → Int32} {i : Nat} {i' : Int32} (h : i < L) (hL : L < 2 ^ 30) (e : i' = nI i) : zsc L xs i' = some (xs i) := by
  rw [e]
  unfold zsc
  rw [if_neg (nI_in h (by omega)), nI_clamp (by omega)]
abbrev oT : Type := Option (Int32 × zHp)
theorem leaf0 {L : Nat} {xs : Nat → Int32} {a : Int32} {z : Nat} {X Xm X2 : pX} {r : Int32} {F G : zHp → oT} {R : zHp → oT}  (hF : F (hp z X) = some (r, hp z Xm)) (hG : G (hp z Xm) = some (r, hp z X2)) (hR : ∃ o, R (hp z X2) = some (1, o)) : ∃ o, (zb2 (zif (zis (hp z X) z 7) (F (hp z X))) fun b h1 => zb2 (zif (zis h1 (z + 1278) 8) (G h1)) fun c h2 => if b = c then R h2 else some (0, h2)) = some (1, o) := by
  obtain ⟨o, hR⟩ := hR
  refine ⟨o, ?_⟩
  rw [m_ix, zif_t, hF, zb2_s, m_im, zif_t, hG, zb2_s, if_pos rfl]
  exact hR
theorem leaf1 {L : Nat} {xs : Nat → Int32} {a : Int32} {z : Nat} {X Xm X2 : pX} {r x1 : Int32} {F G : Int32 → zHp → oT} {R : zHp → oT} (z1 : zsc L xs (a + 1) = some x1) (hF : F x1 (hp z X) = some (r, hp z Xm)) (hG : G x1 (hp z Xm) = some (r, hp z X2)) (hR : ∃ o, R (hp z X2) = some (1, o)) : ∃ o, ((zsc L xs (a + 1)).bind fun v1 => zb2 (zif (zis (hp z X) z 7) (F v1 (hp z X))) fun b h1 => (zsc L xs (a + 1)).bind fun w1 => zb2 (zif (zis h1 (z + 1278) 8) (G w1 h1)) fun c h2 => if b = c then R h2 else some (0, h2)) = some (1, o) := by
  obtain ⟨o, hR⟩ := hR
  refine ⟨o, ?_⟩
  rw [z1, b_s, m_ix, zif_t, hF, zb2_s, b_s, m_im, zif_t, hG, zb2_s, if_pos rfl]
  exact hR
theorem leaf2 {L : Nat} {xs : Nat → Int32} {a : Int32} {z : Nat} {X Xm X2 : pX} {r x1 x2 : Int32} {F G : Int32 → Int32 → zHp → oT} {R : zHp → oT} (z1 : zsc L xs (a + 1) = some x1) (z2 : zsc L xs (a + 2) = some x2) (hF : F x1 x2 (hp z X) = some (r, hp z Xm)) (hG : G x1 x2 (hp z Xm) = some (r, hp z X2)) (hR : ∃ o, R (hp z X2) = some (1, o)) : ∃ o, ((zsc L xs (a + 1)).bind fun v1 => (zsc L xs (a + 2)).bind fun v2 => zb2 (zif (zis (hp z X) z 7) (F v1 v2 (hp z X))) fun b h1 => (zsc L xs (a + 1)).bind fun w1 => (zsc L xs (a + 2)).bind fun w2 => zb2 (zif (zis h1 (z + 1278) 8) (G w1 w2 h1)) fun c h2 => if b = c then R h2 else some (0, h2)) = some (1, o) := by
  obtain ⟨o, hR⟩ := hR
  refine ⟨o, ?_⟩
  rw [z1, b_s, z2, b_s, m_ix, zif_t, hF, zb2_s, b_s, b_s, m_im, zif_t, hG, zb2_s, if_pos rfl]
  exact hR
theorem leaf3 {L : Nat} {xs : Nat → Int32} {a : Int32} {z : Nat} {X Xm X2 : pX} {r x1 x2 x3 : Int32} {F G : Int32 → Int32 → Int32 → zHp → oT} {R : zHp → oT} (z1 : zsc L xs (a + 1) = some x1) (z2 : zsc L xs (a + 2) = some x2) (z3 : zsc L xs (a + 3) = some x3) (hF : F x1 x2 x3 (hp z X) = some (r, hp z Xm)) (hG : G x1 x2 x3 (hp z Xm) = some (r, hp z X2)) (hR : ∃ o, R (hp z X2) = some (1, o)) : ∃ o, ((zsc L xs (a + 1)).bind fun v1 => (zsc L xs (a + 2)).bind fun v2 => (zsc L xs (a + 3)).bind fun v3 => zb2 (zif (zis (hp z X) z 7) (F v1 v2 v3 (hp z X))) fun b h1 => (zsc L xs (a + 1)).bind fun w1 => (zsc L xs (a + 2)).bind fun w2 => (zsc L xs (a + 3)).bind fun w3 => zb2 (zif (zis h1 (z + 1278) 8) (G w1 w2 w3 h1)) fun c h2 => if b = c then R h2 else some (0, h2)) = some (1, o) := by
  obtain ⟨o, hR⟩ := hR
  refine ⟨o, ?_⟩
  rw [z1, b_s, z2, b_s, z3, b_s, m_ix, zif_t, hF, zb2_s, b_s, b_s, b_s, m_im, zif_t, hG, zb2_s, if_pos rfl]
  exact hR
theorem leaf4 {L : Nat} {xs : Nat → Int32} {a : Int32} {z : Nat} {X Xm X2 : pX} {r x1 x2 x3 x4 : Int32} {F G : Int32 → Int32 → Int32 → Int32 → zHp → oT} {R : zHp → oT} (z1 : zsc L xs (a + 1) = some x1) (z2 : zsc L xs (a + 2) = some x2) (z3 : zsc L xs (a + 3) = some x3) (z4 : zsc L xs (a + 4) = some x4) (hF : F x1 x2 x3 x4 (hp z X) = some (r, hp z Xm)) (hG : G x1 x2 x3 x4 (hp z Xm) = some (r, hp z X2)) (hR : ∃ o, R (hp z X2) = some (1, o)) : ∃ o, ((zsc L xs (a + 1)).bind fun v1 => (zsc L xs (a + 2)).bind fun v2 => (zsc L xs (a + 3)).bind fun v3 => (zsc L xs (a + 4)).bind fun v4 => zb2 (zif (zis (hp z X) z 7) (F v1 v2 v3 v4 (hp z X))) fun b h1 => (zsc L xs (a + 1)).bind fun w1 => (zsc L xs (a + 2)).bind fun w2 => (zsc L xs (a + 3)).bind fun w3 => (zsc L xs (a + 4)).bind fun w4 => zb2 (zif (zis h1 (z + 1278) 8) (G w1 w2 w3 w4 h1)) fun c h2 => if b = c then R h2 else some (0, h2)) = some (1, o) := by
  obtain ⟨o, hR⟩ := hR
  refine ⟨o, ?_⟩
  rw [z1, b_s, z2, b_s, z3, b_s, z4, b_s, m_ix, zif_t, hF, zb2_s, b_s, b_s, b_s, b_s, m_im, zif_t, hG, zb2_s, if_pos rfl]
  exact hR
theorem step_of {F G : zHp → oT} {z : Nat} {X : pX} {p : sS} {H : List sS} {K : Option sS} {T : List Int32} (h : SmT F G z X p H K T) (hm : Bm X.1 p H K T) : ∃ r Xm X2 p' H' K' T', F (hp z X) = some (r, hp z Xm) ∧ G (hp z Xm) = some (r, hp z X2) ∧ Pp p' H' K' T' ∧ Bc X2 p' H' K' T' ∧ Bm X2.1 p' H' K' T' := by
  obtain ⟨r, X1, p', H', K', T', h1, h2, h3, h4, h5⟩ := h
  obtain ⟨V2, g1, g2, g3⟩ := h5 X1 (hm.hi h2)
  exact ⟨r, X1, (V2, X1.2), p', H', K', T', h1, g1, h3, h4.lo g2, g3⟩
theorem law_loop {L : Nat} {xs : Nat → Int32} {z : Nat} (hL : L ≤ 2560) : ∀ (n fuel k : Nat) (X : pX) (p : sS) (H : List sS) (K : Option sS) (T : List Int32), Pp p H K T → Bc X p H K T → Bm X.1 p H K T → L ≤ k + 5 * n → k ≤ 5000 → n < fuel → ∃ o, f_L_18 L xs fuel z (z + 1278) (nI k) (hp z X) = some (1, o) := by
  intro n
  induction n with
  | zero =>
    intro fuel k X p H K T hp' hb hm hk hk5 hf
    obtain ⟨fuel, rfl⟩ : ∃ f, fuel = f + 1 := ⟨fuel - 1, by omega⟩
    refine ⟨hp z X, ?_⟩
    have E : f_L_18 L xs (fuel + 1) z (z + 1278) (nI k) (hp z X) = f_L_18_body L xs (f_L_18 L xs fuel) z (z + 1278) (nI k) (hp z X) := rfl
    rw [E]
    unfold f_L_18_body
    rw [if_pos (show Int32.ofNat L - 5 < nI k from (sub_lt5 (by omega) (by omega)).mpr (by omega))]
  | succ n ih =>
    intro fuel k X p H K T hp' hb hm hk hk5 hf
    obtain ⟨fuel, rfl⟩ : ∃ f, fuel = f + 1 := ⟨fuel - 1, by omega⟩
    have E : f_L_18 L xs (fuel + 1) z (z + 1278) (nI k) (hp z X) = f_L_18_body L xs (f_L_18 L xs fuel) z (z + 1278) (nI k) (hp z X) := rfl
    rw [E]
    unfold f_L_18_body
    by_cases c : L < k + 5
    · refine ⟨hp z X, ?_⟩
      rw [if_pos (show Int32.ofNat L - 5 < nI k from (sub_lt5 (by omega) (by omega)).mpr c)]
    rw [if_neg (show ¬ Int32.ofNat L - 5 < nI k from fun q => c ((sub_lt5 (by omega) (by omega)).mp q))]
    have z0 : zsc L xs (nI k) = some (xs k) := zsc_at (by omega) (by omega) rfl
    have z1 : zsc L xs (nI k + 1) = some (xs (k + 1)) := zsc_at (by omega) (by omega) (by rw [lit_1, nI_add])
    have z2 : zsc L xs (nI k + 2) = some (xs (k + 2)) := zsc_at (by omega) (by omega) (by rw [lit_2, nI_add])
    have z3 : zsc L xs (nI k + 3) = some (xs (k + 3)) := zsc_at (by omega) (by omega) (by rw [lit_3, nI_add])
    have z4 : zsc L xs (nI k + 4) = some (xs (k + 4)) := zsc_at (by omega) (by omega) (by rw [lit_4, nI_add])
    have nx : ∀ (X2 : pX) (p' : sS) (H' : List sS) (K' : Option sS) (T' : List Int32), Pp p' H' K' T' → Bc X2 p' H' K' T' → Bm X2.1 p' H' K' T' → ∃ o, f_L_1175 L xs (f_L_18 L xs fuel) z (z + 1278) (nI k) (hp z X2) = some (1, o) := fun X2 p' H' K' T' h1 h2 h3 => by
      have e : f_L_1175 L xs (f_L_18 L xs fuel) z (z + 1278) (nI k) (hp z X2) = f_L_18 L xs fuel z (z + 1278) (nI (k + 5)) (hp z X2) := by
        unfold f_L_1175
        rw [lit_5, nI_add]
      rw [e]
      exact ih fuel (k + 5) X2 p' H' K' T' h1 h2 h3 (by omega) (by omega) (by omega)
    rw [z0, b_s]
    generalize xs k = v
    by_cases c0 : v &&& 63 = 0
    · rw [if_pos c0]
      obtain ⟨r, Xm, X2, p', H', K', T', g1, g2, g3, g4, g5⟩ := step_of (sm_sailing hp' hb (xs (k + 1)) (xs (k + 2)) (xs (k + 3)) (xs (k + 4))) hm
      exact leaf4 (F := f_X7_sailing z) (G := f_X8_sailing (z + 1278)) z1 z2 z3 z4 g1 g2 (nx X2 p' H' K' T' g3 g4 g5)
    rw [if_neg c0]
    by_cases c1 : v &&& 63 = 1
    · rw [if_pos c1]
      obtain ⟨r, Xm, X2, p', H', K', T', g1, g2, g3, g4, g5⟩ := step_of (sm_sailings hp' hb) hm
      exact leaf0 (L := L) (xs := xs) (a := nI k) (F := f_X7_sailings z) (G := f_X8_sailings (z + 1278))  g1 g2 (nx X2 p' H' K' T' g3 g4 g5)
    rw [if_neg c1]
    by_cases c2 : v &&& 63 = 2
    · rw [if_pos c2]
      obtain ⟨r, Xm, X2, p', H', K', T', g1, g2, g3, g4, g5⟩ := step_of (sm_cancel hp' hb (xs (k + 1))) hm
      exact leaf1 (F := f_X7_cancel z) (G := f_X8_cancel (z + 1278)) z1 g1 g2 (nx X2 p' H' K' T' g3 g4 g5)
    rw [if_neg c2]
    by_cases c3 : v &&& 63 = 3
    · rw [if_pos c3]
      obtain ⟨r, Xm, X2, p', H', K', T', g1, g2, g3, g4, g5⟩ := step_of (sm_member hp' hb (xs (k + 1)) (xs (k + 2))) hm
      exact leaf2 (F := f_X7_member z) (G := f_X8_member (z + 1278)) z1 z2 g1 g2 (nx X2 p' H' K' T' g3 g4 g5)
    rw [if_neg c3]
    by_cases c4 : v &&& 63 = 4
    · rw [if_pos c4]
      obtain ⟨r, Xm, X2, p', H', K', T', g1, g2, g3, g4, g5⟩ := step_of (sm_certify hp' hb (xs (k + 1)) (xs (k + 2)) (xs (k + 3))) hm
      exact leaf3 (F := f_X7_certify z) (G := f_X8_certify (z + 1278)) z1 z2 z3 g1 g2 (nx X2 p' H' K' T' g3 g4 g5)
    rw [if_neg c4]
    by_cases c5 : v &&& 63 = 5
    · rw [if_pos c5]
      obtain ⟨r, Xm, X2, p', H', K', T', g1, g2, g3, g4, g5⟩ := step_of (sm_climb hp' hb (xs (k + 1)) (xs (k + 2))) hm
      exact leaf2 (F := f_X7_climb z) (G := f_X8_climb (z + 1278)) z1 z2 g1 g2 (nx X2 p' H' K' T' g3 g4 g5)
    rw [if_neg c5]
    by_cases c6 : v &&& 63 = 6
    · rw [if_pos c6]
      obtain ⟨r, Xm, X2, p', H', K', T', g1, g2, g3, g4, g5⟩ := step_of (sm_leave hp' hb (xs (k + 1)) (xs (k + 2))) hm
      exact leaf2 (F := f_X7_leave z) (G := f_X8_leave (z + 1278)) z1 z2 g1 g2 (nx X2 p' H' K' T' g3 g4 g5)
    rw [if_neg c6]
    by_cases c7 : v &&& 63 = 7
    · rw [if_pos c7]
      obtain ⟨r, Xm, X2, p', H', K', T', g1, g2, g3, g4, g5⟩ := step_of (sm_sick hp' hb (xs (k + 1)) (xs (k + 2))) hm
      exact leaf2 (F := f_X7_sick z) (G := f_X8_sick (z + 1278)) z1 z2 g1 g2 (nx X2 p' H' K' T' g3 g4 g5)
    rw [if_neg c7]
    by_cases c8 : v &&& 63 = 8
    · rw [if_pos c8]
      obtain ⟨r, Xm, X2, p', H', K', T', g1, g2, g3, g4, g5⟩ := step_of (sm_well hp' hb (xs (k + 1))) hm
      exact leaf1 (F := f_X7_well z) (G := f_X8_well (z + 1278)) z1 g1 g2 (nx X2 p' H' K' T' g3 g4 g5)
    rw [if_neg c8]
    by_cases c9 : v &&& 63 = 9
    · rw [if_pos c9]
      obtain ⟨r, Xm, X2, p', H', K', T', g1, g2, g3, g4, g5⟩ := step_of (sm_give hp' hb (xs (k + 1)) (xs (k + 2)) (xs (k + 3))) hm
      exact leaf3 (F := f_X7_give z) (G := f_X8_give (z + 1278)) z1 z2 z3 g1 g2 (nx X2 p' H' K' T' g3 g4 g5)
    rw [if_neg c9]
    by_cases c10 : v &&& 63 = 10
    · rw [if_pos c10]
      obtain ⟨r, Xm, X2, p', H', K', T', g1, g2, g3, g4, g5⟩ := step_of (sm_giveUp hp' hb (xs (k + 1)) (xs (k + 2))) hm
      exact leaf2 (F := f_X7_giveUp z) (G := f_X8_giveUp (z + 1278)) z1 z2 g1 g2 (nx X2 p' H' K' T' g3 g4 g5)
    rw [if_neg c10]
    by_cases c11 : v &&& 63 = 11
    · rw [if_pos c11]
      obtain ⟨r, Xm, X2, p', H', K', T', g1, g2, g3, g4, g5⟩ := step_of (sm_fill hp' hb (xs (k + 1))) hm
      exact leaf1 (F := f_X7_fill z) (G := f_X8_fill (z + 1278)) z1 g1 g2 (nx X2 p' H' K' T' g3 g4 g5)
    rw [if_neg c11]
    by_cases c12 : v &&& 63 = 12
    · rw [if_pos c12]
      obtain ⟨r, Xm, X2, p', H', K', T', g1, g2, g3, g4, g5⟩ := step_of (sm_pass hp' hb (xs (k + 1))) hm
      exact leaf1 (F := f_X7_pass z) (G := f_X8_pass (z + 1278)) z1 g1 g2 (nx X2 p' H' K' T' g3 g4 g5)
    rw [if_neg c12]
    by_cases c13 : v &&& 63 = 13
    · rw [if_pos c13]
      obtain ⟨r, Xm, X2, p', H', K', T', g1, g2, g3, g4, g5⟩ := step_of (sm_set hp' hb (xs (k + 1)) (xs (k + 2))) hm
      exact leaf2 (F := f_X7_set z) (G := f_X8_set (z + 1278)) z1 z2 g1 g2 (nx X2 p' H' K' T' g3 g4 g5)
    rw [if_neg c13]
    by_cases c14 : v &&& 63 = 14
    · rw [if_pos c14]
      obtain ⟨r, Xm, X2, p', H', K', T', g1, g2, g3, g4, g5⟩ := step_of (sm_type hp' hb (nar_id (xs (k + 1)))) hm
      exact leaf1 (F := fun v => f_X7_type z ((v.toUInt32 % 65536).toInt32)) (G := fun v => f_X8_type (z + 1278) ((v.toUInt32 % 65536).toInt32)) z1 g1 g2 (nx X2 p' H' K' T' g3 g4 g5)
    rw [if_neg c14]
    by_cases c15 : v &&& 63 = 15
    · rw [if_pos c15]
      obtain ⟨r, Xm, X2, p', H', K', T', g1, g2, g3, g4, g5⟩ := step_of (sm_clearText hp' hb) hm
      exact leaf0 (L := L) (xs := xs) (a := nI k) (F := f_X7_clearText z) (G := f_X8_clearText (z + 1278))  g1 g2 (nx X2 p' H' K' T' g3 g4 g5)
    rw [if_neg c15]
    by_cases c16 : v &&& 63 = 16
    · rw [if_pos c16]
      obtain ⟨r, Xm, X2, p', H', K', T', g1, g2, g3, g4, g5⟩ := step_of (sm_fault hp' hb) hm
      exact leaf0 (L := L) (xs := xs) (a := nI k) (F := f_X7_fault z) (G := f_X8_fault (z + 1278))  g1 g2 (nx X2 p' H' K' T' g3 g4 g5)
    rw [if_neg c16]
    by_cases c17 : v &&& 63 = 17
    · rw [if_pos c17]
      obtain ⟨r, Xm, X2, p', H', K', T', g1, g2, g3, g4, g5⟩ := step_of (sm_undo hp' hb) hm
      exact leaf0 (L := L) (xs := xs) (a := nI k) (F := f_X7_undo z) (G := f_X8_undo (z + 1278))  g1 g2 (nx X2 p' H' K' T' g3 g4 g5)
    rw [if_neg c17]
    by_cases c18 : v &&& 63 = 18
    · rw [if_pos c18]
      obtain ⟨r, Xm, X2, p', H', K', T', g1, g2, g3, g4, g5⟩ := step_of (sm_keep hp' hb) hm
      exact leaf0 (L := L) (xs := xs) (a := nI k) (F := f_X7_keep z) (G := f_X8_keep (z + 1278))  g1 g2 (nx X2 p' H' K' T' g3 g4 g5)
    rw [if_neg c18]
    by_cases c19 : v &&& 63 = 19
    · rw [if_pos c19]
      obtain ⟨r, Xm, X2, p', H', K', T', g1, g2, g3, g4, g5⟩ := step_of (sm_restore hp' hb) hm
      exact leaf0 (L := L) (xs := xs) (a := nI k) (F := f_X7_restore z) (G := f_X8_restore (z + 1278))  g1 g2 (nx X2 p' H' K' T' g3 g4 g5)
    rw [if_neg c19]
    by_cases c20 : v &&& 63 = 20
    · rw [if_pos c20]
      obtain ⟨r, Xm, X2, p', H', K', T', g1, g2, g3, g4, g5⟩ := step_of (sm_sailingOf hp' hb (xs (k + 1)) (xs (k + 2))) hm
      exact leaf2 (F := f_X7_sailingOf z) (G := f_X8_sailingOf (z + 1278)) z1 z2 g1 g2 (nx X2 p' H' K' T' g3 g4 g5)
    rw [if_neg c20]
    by_cases c21 : v &&& 63 = 21
    · rw [if_pos c21]
      obtain ⟨r, Xm, X2, p', H', K', T', g1, g2, g3, g4, g5⟩ := step_of (sm_crew hp' hb (xs (k + 1)) (xs (k + 2)) (xs (k + 3))) hm
      exact leaf3 (F := f_X7_crew z) (G := f_X8_crew (z + 1278)) z1 z2 z3 g1 g2 (nx X2 p' H' K' T' g3 g4 g5)
    rw [if_neg c21]
    by_cases c22 : v &&& 63 = 22
    · rw [if_pos c22]
      obtain ⟨r, Xm, X2, p', H', K', T', g1, g2, g3, g4, g5⟩ := step_of (sm_memberOf hp' hb (xs (k + 1)) (xs (k + 2))) hm
      exact leaf2 (F := f_X7_memberOf z) (G := f_X8_memberOf (z + 1278)) z1 z2 g1 g2 (nx X2 p' H' K' T' g3 g4 g5)
    rw [if_neg c22]
    by_cases c23 : v &&& 63 = 23
    · rw [if_pos c23]
      obtain ⟨r, Xm, X2, p', H', K', T', g1, g2, g3, g4, g5⟩ := step_of (sm_ladder hp' hb (xs (k + 1)) (xs (k + 2))) hm
      exact leaf2 (F := f_X7_ladder z) (G := f_X8_ladder (z + 1278)) z1 z2 g1 g2 (nx X2 p' H' K' T' g3 g4 g5)
    rw [if_neg c23]
    by_cases c24 : v &&& 63 = 24
    · rw [if_pos c24]
      obtain ⟨r, Xm, X2, p', H', K', T', g1, g2, g3, g4, g5⟩ := step_of (sm_rest hp' hb (xs (k + 1)) (xs (k + 2)) (xs (k + 3))) hm
      exact leaf3 (F := f_X7_rest z) (G := f_X8_rest (z + 1278)) z1 z2 z3 g1 g2 (nx X2 p' H' K' T' g3 g4 g5)
    rw [if_neg c24]
    by_cases c25 : v &&& 63 = 25
    · rw [if_pos c25]
      obtain ⟨r, Xm, X2, p', H', K', T', g1, g2, g3, g4, g5⟩ := step_of (sm_leastRest hp' hb (xs (k + 1)) (xs (k + 2))) hm
      exact leaf2 (F := f_X7_leastRest z) (G := f_X8_leastRest (z + 1278)) z1 z2 g1 g2 (nx X2 p' H' K' T' g3 g4 g5)
    rw [if_neg c25]
    by_cases c26 : v &&& 63 = 26
    · rw [if_pos c26]
      obtain ⟨r, Xm, X2, p', H', K', T', g1, g2, g3, g4, g5⟩ := step_of (sm_overtime hp' hb (xs (k + 1)) (xs (k + 2))) hm
      exact leaf2 (F := f_X7_overtime z) (G := f_X8_overtime (z + 1278)) z1 z2 g1 g2 (nx X2 p' H' K' T' g3 g4 g5)
    rw [if_neg c26]
    by_cases c27 : v &&& 63 = 27
    · rw [if_pos c27]
      obtain ⟨r, Xm, X2, p', H', K', T', g1, g2, g3, g4, g5⟩ := step_of (sm_count hp' hb (xs (k + 1))) hm
      exact leaf1 (F := f_X7_count z) (G := f_X8_count (z + 1278)) z1 g1 g2 (nx X2 p' H' K' T' g3 g4 g5)
    rw [if_neg c27]
    by_cases c28 : v &&& 63 = 28
    · rw [if_pos c28]
      obtain ⟨r, Xm, X2, p', H', K', T', g1, g2, g3, g4, g5⟩ := step_of (sm_why hp' hb (xs (k + 1)) (xs (k + 2)) (xs (k + 3))) hm
      exact leaf3 (F := f_X7_why z) (G := f_X8_why (z + 1278)) z1 z2 z3 g1 g2 (nx X2 p' H' K' T' g3 g4 g5)
    rw [if_neg c28]
    by_cases c29 : v &&& 63 = 29
    · rw [if_pos c29]
      obtain ⟨r, Xm, X2, p', H', K', T', g1, g2, g3, g4, g5⟩ := step_of (sm_able hp' hb (xs (k + 1)) (xs (k + 2))) hm
      exact leaf2 (F := f_X7_able z) (G := f_X8_able (z + 1278)) z1 z2 g1 g2 (nx X2 p' H' K' T' g3 g4 g5)
    rw [if_neg c29]
    by_cases c30 : v &&& 63 = 30
    · rw [if_pos c30]
      obtain ⟨r, Xm, X2, p', H', K', T', g1, g2, g3, g4, g5⟩ := step_of (sm_ifSick hp' hb (xs (k + 1)) (xs (k + 2))) hm
      exact leaf2 (F := f_X7_ifSick z) (G := f_X8_ifSick (z + 1278)) z1 z2 g1 g2 (nx X2 p' H' K' T' g3 g4 g5)
    rw [if_neg c30]
    by_cases c31 : v &&& 63 = 31
    · rw [if_pos c31]
      obtain ⟨r, Xm, X2, p', H', K', T', g1, g2, g3, g4, g5⟩ := step_of (sm_weakest hp' hb (xs (k + 1))) hm
      exact leaf1 (F := f_X7_weakest z) (G := f_X8_weakest (z + 1278)) z1 g1 g2 (nx X2 p' H' K' T' g3 g4 g5)
    rw [if_neg c31]
    by_cases c32 : v &&& 63 = 32
    · rw [if_pos c32]
      obtain ⟨r, Xm, X2, p', H', K', T', g1, g2, g3, g4, g5⟩ := step_of (sm_atRisk hp' hb) hm
      exact leaf0 (L := L) (xs := xs) (a := nI k) (F := f_X7_atRisk z) (G := f_X8_atRisk (z + 1278))  g1 g2 (nx X2 p' H' K' T' g3 g4 g5)
    rw [if_neg c32]
    by_cases c33 : v &&& 63 = 33
    · rw [if_pos c33]
      obtain ⟨r, Xm, X2, p', H', K', T', g1, g2, g3, g4, g5⟩ := step_of (sm_cancelledIn hp' hb (xs (k + 1))) hm
      exact leaf1 (F := f_X7_cancelledIn z) (G := f_X8_cancelledIn (z + 1278)) z1 g1 g2 (nx X2 p' H' K' T' g3 g4 g5)
    rw [if_neg c33]
    by_cases c34 : v &&& 63 = 34
    · rw [if_pos c34]
      obtain ⟨r, Xm, X2, p', H', K', T', g1, g2, g3, g4, g5⟩ := step_of (sm_freshest hp' hb) hm
      exact leaf0 (L := L) (xs := xs) (a := nI k) (F := f_X7_freshest z) (G := f_X8_freshest (z + 1278))  g1 g2 (nx X2 p' H' K' T' g3 g4 g5)
    rw [if_neg c34]
    exact nx X p H K T hp' hb hm
theorem whole_pure (L : Nat) (xs : Nat → Int32) (hL : L ≤ 2560) (sz : Nat) : ∃ o, f_L L xs (sz, fun _ => none) = some (1, o) := by
  rw [made]
  have h := law_loop (xs := xs) (z := sz) hL 512 zN 0 X00 (s00, id) [] none [] Pp00 Bc00 Bm00 (by omega) (by omega) (zN_lt (by omega))
  rw [← lit_0] at h
  exact h
