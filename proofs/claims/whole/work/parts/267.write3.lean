/-! settings, sailings, undo, keep, restore, the text's characters -/
def mxN : Nat → Nat
  | 0 => 20
  | 1 => 12
  | 2 => 140
  | 3 => 1
  | _ => 100
theorem mxN_l {i : Nat} : mxN i ≤ 140 := by
  match i with
  | 0 => show 20 ≤ 140; omega
  | 1 => show 12 ≤ 140; omega
  | 2 => show 140 ≤ 140; omega
  | 3 => show 1 ≤ 140; omega
  | k + 4 => show 100 ≤ 140; omega
theorem e_tab {i : Nat} (hi : i < 5) : ztab 5 zT2 (nI i) = some (nI (mxN i)) := by
  unfold ztab
  rw [if_neg (nI_in hi (by omega)), nI_clamp (by omega)]
  rcases (show i = 0 ∨ i = 1 ∨ i = 2 ∨ i = 3 ∨ i = 4 by omega) with rfl | rfl | rfl | rfl | rfl
  · exact congrArg some lit_20
  · exact congrArg some lit_12
  · exact congrArg some lit_140
  · exact congrArg some lit_1
  · exact congrArg some lit_100
theorem e8_most {i : Nat} (hi : i < 5) (h : zHp) : f_X8_most (nI i) h = some (nI (mxN i), h) := by
  have nn : ∀ i j : Nat, i < 20 → j < 20 → i ≠ j → (nI i = nI j) = False := fun i j hi hj h => eq_false (fun e => h ((nI_eq (by omega) (by omega)).mp e))
  rcases (show i = 0 ∨ i = 1 ∨ i = 2 ∨ i = 3 ∨ i = 4 by omega) with rfl | rfl | rfl | rfl | rfl <;> simp (disch := first | assumption | omega) only [f_X8_most, nn, lit_0, lit_1, lit_2, lit_3, lit_4, lit_5, lit_6, lit_7, lit_8, lit_9, lit_10, lit_11, lit_12, lit_13, lit_17, lit_20, lit_23, lit_24, lit_43, lit_48, lit_51, lit_57, lit_58, lit_59, lit_60, lit_61, lit_63, lit_77, lit_100, lit_140, lit_168, lit_200, lit_393, lit_400, lit_900, lit_969, lit_1000, lit_1041, lit_1045, lit_1093, lit_1168, lit_1200, lit_3279, lit_3333, lit_4372, lit_9999, if_true, if_false, mxN]
theorem RB.set {s : Nat → Nat} (hB : RB s) {i v : Nat} (hi : i < 5) (hv : v ≤ mxN i) : RB (updN s (4 + i) v) := by
  refine RB_of hB ?_ (fun j a b => updN_n (by omega)) (fun q hq => ?_)
  · obtain ⟨a, b, c, ⟨d1, d2, d3, d4, d5⟩, e⟩ := hB.1
    refine ⟨?_, ?_, ?_, ?_, fun k hk q hq => ?_⟩
    · rw [updN_n (by omega)]; exact a
    · rw [updN_n (by omega)]; exact b
    · rw [updN_n (by omega)]; exact c
    · rcases (show i = 0 ∨ i = 1 ∨ i = 2 ∨ i = 3 ∨ i = 4 by omega) with rfl | rfl | rfl | rfl | rfl
      · exact ⟨by rw [updN_s]; exact hv, by rw [updN_n (by omega)]; exact d2, by rw [updN_n (by omega)]; exact d3, by rw [updN_n (by omega)]; exact d4, by rw [updN_n (by omega)]; exact d5⟩
      · exact ⟨by rw [updN_n (by omega)]; exact d1, by rw [updN_s]; exact hv, by rw [updN_n (by omega)]; exact d3, by rw [updN_n (by omega)]; exact d4, by rw [updN_n (by omega)]; exact d5⟩
      · exact ⟨by rw [updN_n (by omega)]; exact d1, by rw [updN_n (by omega)]; exact d2, by rw [updN_s]; exact hv, by rw [updN_n (by omega)]; exact d4, by rw [updN_n (by omega)]; exact d5⟩
      · exact ⟨by rw [updN_n (by omega)]; exact d1, by rw [updN_n (by omega)]; exact d2, by rw [updN_n (by omega)]; exact d3, by rw [updN_s]; exact hv, by rw [updN_n (by omega)]; exact d5⟩
      · exact ⟨by rw [updN_n (by omega)]; exact d1, by rw [updN_n (by omega)]; exact d2, by rw [updN_n (by omega)]; exact d3, by rw [updN_n (by omega)]; exact d4, by rw [updN_s]; exact hv⟩
    · rw [updN_n (by omega)]; exact e k hk q hq
  · rw [updN_n (by omega)]
    exact ⟨(hB.2.2.2 q hq).1, fun j hj => by rw [updN_n (by omega)]; exact (hB.2.2.2 q hq).2 j hj⟩
theorem recS_same {s s' : Nat → Nat} (h : ∀ i, 9 ≤ i → i < 969 → s' i = s i) {k : Nat} (hk : k < 48) : recS s' k = recS s k := by
  funext i
  rcases (show i < 20 ∨ (20 ≤ i ∧ i < 32) ∨ 32 ≤ i by omega) with c | c | c
  · exact rec_hi h hk (Or.inl c)
  · exact rec_hi h hk (Or.inr c)
  · obtain ⟨j, rfl⟩ : ∃ j, i = j + 14 := ⟨i - 14, by omega⟩
    show (if 20 ≤ j + 14 ∧ j + 14 < 32 then _ else 0) = (if 20 ≤ j + 14 ∧ j + 14 < 32 then _ else 0)
    rw [if_neg (by omega), if_neg (by omega)]
theorem UU_same {s s' σ : Nat → Nat} (hP : PS s σ) (e1 : s' 1 = s 1) (h : ∀ i, 9 ≤ i → i < 969 → s' i = s i) : UU s' σ = UU s σ := by
  have b1 := hP.W.n48
  funext r
  unfold UU
  rw [e1]
  by_cases c : r < s 1
  · rw [if_pos c, if_pos c, recS_same h (by have := hP.2.1.1 r c; omega)]
  · rw [if_neg c, if_neg c]
theorem aA_cg2 {p q : Nat → Bool} : ∀ (n k : Nat), (∀ i, k ≤ i → i < k + n → p i = q i) → aA p k n = aA q k n
  | 0, _, _ => rfl
  | n + 1, k, h => by
    show (p k && aA p (k + 1) n) = (q k && aA q (k + 1) n)
    rw [h k (by omega) (by omega), aA_cg2 n (k + 1) (fun i a b => h i (by omega) (by omega))]
theorem aA_all {p : Nat → Bool} : ∀ (n k : Nat), aA p k n = true → ∀ i, k ≤ i → i < k + n → p i = true
  | 0, _, _, i, a, b => by omega
  | n + 1, k, h, i, a, b => by
    have h : (p k && aA p (k + 1) n) = true := h
    rw [Bool.and_eq_true] at h
    by_cases c : i = k
    · rw [c]; exact h.1
    · exact aA_all n (k + 1) h.2 i (by omega) (by omega)
theorem sm_set {z : Nat} {X : pX} {p : sS} {H : List sS} {K : Option sS} {T : List Int32} (hp' : Pp p H K T) (hb : Bc X p H K T) (a1 a2 : Int32) : SmT (f_X7_set z a1 a2) (f_X8_set (z + 1278) a1 a2) z X p H K T := by
  obtain ⟨s, σ⟩ := p
  have hP : PS s σ := hp'.1
  have hS : Rc X 3 s σ := hb.1
  have hB := hP.B
  have b1 := hP.W.n48
  have b2 := hP.W.m12
  by_cases c1 : nI 0 ≤ a1 ∧ a1 ≤ nI 4
  · obtain ⟨i, i0, i9, rfl⟩ := wi_ex c1 (by omega) (by omega)
    have hi : i < 5 := by omega
    have hml := mxN_l (i := i)
    have g0 := e_tab hi
    have k0 := fun h => e8_most hi h
    by_cases c2 : nI 0 ≤ a2 ∧ a2 ≤ nI (mxN i)
    · obtain ⟨v, v0, v9, rfl⟩ := wi_ex c2 (by omega) (by omega)
      have st0 := hS.2.1.1.2.2.2 i hi
      have lt0 : s (4 + i) < 1000 := by
        obtain ⟨_, _, _, ⟨d1, d2, d3, d4, d5⟩, _⟩ := hB.1
        rcases (show i = 0 ∨ i = 1 ∨ i = 2 ∨ i = 3 ∨ i = 4 by omega) with rfl | rfl | rfl | rfl | rfl
        · show s 4 < 1000; omega
        · show s 5 < 1000; omega
        · show s 6 < 1000; omega
        · show s 7 < 1000; omega
        · show s 8 < 1000; omega
      by_cases c3 : v = s (4 + i)
      · have eT : (nI v = nI (s (4 + i))) = True := eq_true (by rw [c3])
        have eT2 : (nI (s (4 + i)) = nI v) = True := eq_true (by rw [c3])
        refine sm_0 (r := -nI 5) hp' hb (by simp (config := {maxSteps := 1000000}) (disch := first | assumption | omega) only [f_X7_set, m_rx0, m_rx1, m_rx2, m_rx3, m_rx4, m_ix, m_iO isB_3, m_iO isB_184, m_iO isB_365, m_iH, m_iX, m_iD, m_im, m_rm0, e_wi_t, e_wi_f, e_ro_t, e_ro_f, e8_wi_t, e8_wi_f, e8_ro_t, e8_ro_f, zbool_0, zbool_1, zb2_s, zif_t, zopt_n, zopt_s, b_s, znm_e, lit_0, lit_1, lit_2, lit_3, lit_4, lit_5, lit_6, lit_7, lit_8, lit_9, lit_10, lit_11, lit_12, lit_13, lit_17, lit_20, lit_23, lit_24, lit_43, lit_48, lit_51, lit_57, lit_58, lit_59, lit_60, lit_61, lit_63, lit_77, lit_100, lit_140, lit_168, lit_200, lit_393, lit_400, lit_900, lit_969, lit_1000, lit_1041, lit_1045, lit_1093, lit_1168, lit_1200, lit_3279, lit_3333, lit_4372, lit_9999, nI_10, if_false, if_true, g0, m_rO1 isB_3, m_ldT isB_3, st0, eT]) (fun Y hY => ?_)
        have hr : RoC Y.1 s := hY.1
        simp (config := {maxSteps := 1000000}) (disch := first | assumption | omega) only [f_X8_set, m_rx0, m_rx1, m_rx2, m_rx3, m_rx4, m_ix, m_iO isB_3, m_iO isB_184, m_iO isB_365, m_iH, m_iX, m_iD, m_im, m_rm0, e_wi_t, e_wi_f, e_ro_t, e_ro_f, e8_wi_t, e8_wi_f, e8_ro_t, e8_ro_f, zbool_0, zbool_1, zb2_s, zif_t, zopt_n, zopt_s, b_s, znm_e, lit_0, lit_1, lit_2, lit_3, lit_4, lit_5, lit_6, lit_7, lit_8, lit_9, lit_10, lit_11, lit_12, lit_13, lit_17, lit_20, lit_23, lit_24, lit_43, lit_48, lit_51, lit_57, lit_58, lit_59, lit_60, lit_61, lit_63, lit_77, lit_100, lit_140, lit_168, lit_200, lit_393, lit_400, lit_900, lit_969, lit_1000, lit_1041, lit_1045, lit_1093, lit_1168, lit_1200, lit_3279, lit_3333, lit_4372, lit_9999, nI_10, if_false, if_true, k0, r_ld hr, nI_add, eT2]
      · have eT := ne_eqF c3 (by omega) (by omega)
        have eT2 := ne_eqF (fun e : s (4 + i) = v => c3 e.symm) (by omega) (by omega)
        obtain ⟨s', hs'⟩ : ∃ s', s' = updN s (4 + i) v := ⟨_, rfl⟩
        have hB' : RB s' := by rw [hs']; exact hB.set hi v9
        have hG' : SG (updN s (4 + i) v) := by rw [← hs']; exact hB'.1
        have ho : ∀ j, ¬ (4 ≤ j ∧ j < 9) → s' j = s j := fun j hj => by rw [hs', updN_n (by omega)]
        have hh : ∀ j, 9 ≤ j → j < 969 → s' j = s j := fun j a b => ho j (by omega)
        have hW' := W0_cg hP.W hB' (ho 0 (by omega)) (ho 1 (by omega)) (ho 2 (by omega)) hh
        have hU' := UU_same hP (ho 1 (by omega)) hh
        obtain ⟨V1, p1, p2, p3⟩ := e_copy (z := z) isB_365 isB_3 (by omega) hS hb.2.2.2.1
        have p4 := StC.setg (i := i) (v := v) isB_365 p3 hi hG'
        dsimp only at p4
        rw [← hs'] at p4
        have d1 : DuE V1 := hb.2.1.kept (p2 1 (by omega)) (p2 2 (by omega))
        have d2 : DuE (sV V1 (365 + 1) (upd (V1 (365 + 1)) i (nI v))) := d1.kept (sV_n (by omega)) (sV_n (by omega))
        obtain ⟨V2, j1, j2, j3⟩ := e_allRests (z := z) isB_365 p4 d2
        try dsimp only at j1
        have eA : aA (armB s' (UU s σ)) 0 (s' 2) = aA (fun m => rsM s' (dcN s' m)) 0 (s 2) := by
          rw [ho 2 (by omega)]
          exact aA_cg2 _ _ (fun m _ hm => by rw [← hU']; exact arm_eq hW' (by rw [ho 1 (by omega)]; exact hP.2.1) (by omega))
        rw [eA] at j1
        have kT : KpT X.1 V2 := fun o a b c => by rw [j2 o a b]; exact (sV_n (by omega)).trans (p2 o (by omega))
        have st1 : ∀ x, zst (hp z (V1, X.2)) (z + (365 + 1)) 0 (nI i) x = some (hp z (sV V1 (365 + 1) (upd (V1 (365 + 1)) i x), X.2)) := fun x => m_stT isB_365 hi
        have RS : ∀ Y : pX, Bm Y.1 (s, σ) H K T → ∃ V2, f_X8_set (z + 1278) (nI i) (nI v) (hp z Y) = f_X8_set_86 (z + 1278) (nI i) (nI v) (nI (s (4 + i))) (bI (aA (fun m => rsM s' (dcN s' m)) 0 (s 2))) (hp z (V2, Y.2)) ∧ KpM Y.1 V2 ∧ RoC V2 s' := fun Y hY => by
          have hr : RoC Y.1 s := hY.1
          have h1 := hr.st (4 + i) v
          rw [← hs'] at h1
          obtain ⟨V3, m1, m2⟩ := e8_setL (z := z) hB' (a1 := nI i) (a2 := nI v) (a3 := nI (s (4 + i))) (s 2) zN 0 true (_, Y.2) h1 (by rw [ho 2 (by omega)]; omega) (zN_lt (by omega))
          rw [Bool.true_and] at m1
          refine ⟨V3, ?_, KpM.up.tr m2.M, m2.ro h1⟩
          simp (config := {maxSteps := 1000000}) (disch := first | assumption | omega) only [f_X8_set, m_rx0, m_rx1, m_rx2, m_rx3, m_rx4, m_ix, m_iO isB_3, m_iO isB_184, m_iO isB_365, m_iH, m_iX, m_iD, m_im, m_rm0, e_wi_t, e_wi_f, e_ro_t, e_ro_f, e8_wi_t, e8_wi_f, e8_ro_t, e8_ro_f, zbool_0, zbool_1, zb2_s, zif_t, zopt_n, zopt_s, b_s, znm_e, lit_0, lit_1, lit_2, lit_3, lit_4, lit_5, lit_6, lit_7, lit_8, lit_9, lit_10, lit_11, lit_12, lit_13, lit_17, lit_20, lit_23, lit_24, lit_43, lit_48, lit_51, lit_57, lit_58, lit_59, lit_60, lit_61, lit_63, lit_77, lit_100, lit_140, lit_168, lit_200, lit_393, lit_400, lit_900, lit_969, lit_1000, lit_1041, lit_1045, lit_1093, lit_1168, lit_1200, lit_3279, lit_3333, lit_4372, lit_9999, nI_10, if_false, if_true, k0, r_ld hr, nI_add, eT2, m_st1279]
          exact m1
        have eb : updN s' (4 + i) (s (4 + i)) = s := by
          funext j
          rw [hs']
          unfold updN
          by_cases c : j = 4 + i
          · rw [if_pos c, c]
          · rw [if_neg c, if_neg c]
        cases c4 : aA (fun m => rsM s' (dcN s' m)) 0 (s 2) with
        | false =>
          rw [bI_f c4] at j1
          refine sm_t (V1 := V2) hp' hb (r := -nI 4) ?_ kT j3 (fun Y hY => ?_)
          · simp (config := {maxSteps := 1000000}) (disch := first | assumption | omega) only [f_X7_set, m_rx0, m_rx1, m_rx2, m_rx3, m_rx4, m_ix, m_iO isB_3, m_iO isB_184, m_iO isB_365, m_iH, m_iX, m_iD, m_im, m_rm0, e_wi_t, e_wi_f, e_ro_t, e_ro_f, e8_wi_t, e8_wi_f, e8_ro_t, e8_ro_f, zbool_0, zbool_1, zb2_s, zif_t, zopt_n, zopt_s, b_s, znm_e, lit_0, lit_1, lit_2, lit_3, lit_4, lit_5, lit_6, lit_7, lit_8, lit_9, lit_10, lit_11, lit_12, lit_13, lit_17, lit_20, lit_23, lit_24, lit_43, lit_48, lit_51, lit_57, lit_58, lit_59, lit_60, lit_61, lit_63, lit_77, lit_100, lit_140, lit_168, lit_200, lit_393, lit_400, lit_900, lit_969, lit_1000, lit_1041, lit_1045, lit_1093, lit_1168, lit_1200, lit_3279, lit_3333, lit_4372, lit_9999, nI_10, if_false, if_true, g0, m_rO1 isB_3, m_rO1 isB_365, m_ldT isB_3, st0, eT, p1, st1, j1]
          · obtain ⟨V3, m1, m2, m3⟩ := RS Y hY
            have h4 := m3.st (4 + i) (s (4 + i))
            rw [eb] at h4
            rw [bI_f c4] at m1
            refine ⟨_, ?_, (m2.tr KpM.up).A, h4⟩
            rw [m1]
            simp (config := {maxSteps := 1000000}) (disch := first | assumption | omega) only [f_X8_set_86, m_rx0, m_rx1, m_rx2, m_rx3, m_rx4, m_ix, m_iO isB_3, m_iO isB_184, m_iO isB_365, m_iH, m_iX, m_iD, m_im, m_rm0, e_wi_t, e_wi_f, e_ro_t, e_ro_f, e8_wi_t, e8_wi_f, e8_ro_t, e8_ro_f, zbool_0, zbool_1, zb2_s, zif_t, zopt_n, zopt_s, b_s, znm_e, lit_0, lit_1, lit_2, lit_3, lit_4, lit_5, lit_6, lit_7, lit_8, lit_9, lit_10, lit_11, lit_12, lit_13, lit_17, lit_20, lit_23, lit_24, lit_43, lit_48, lit_51, lit_57, lit_58, lit_59, lit_60, lit_61, lit_63, lit_77, lit_100, lit_140, lit_168, lit_200, lit_393, lit_400, lit_900, lit_969, lit_1000, lit_1041, lit_1045, lit_1093, lit_1168, lit_1200, lit_3279, lit_3333, lit_4372, lit_9999, nI_10, if_false, if_true, nI_add, m_st1279]
        | true =>
          rw [bI_t c4] at j1
          have hb0 := hb.kt kT j3
          obtain ⟨V4, t1, q1, q2, q3⟩ := c_rec (z := z) hb0
          dsimp only at q1
          have g4 := StC.setg (i := i) (v := v) isB_3 q3.1 hi hG'
          dsimp only at g4
          rw [← hs'] at g4
          have hP' : PS s' σ := PS_set hP hB' ho (fun m hm => aA_all _ _ c4 m (Nat.zero_le _) (by omega))
          have kk : KpB 3 V4 (sV V4 (3 + 1) (upd (V4 (3 + 1)) i (nI v))) := fun o _ _ _ => sV_n (by omega)
          have st2 : ∀ x, zst (hp z (V4, X.2.1, t1)) (z + (3 + 1)) 0 (nI i) x = some (hp z (sV V4 (3 + 1) (upd (V4 (3 + 1)) i x), X.2.1, t1)) := fun x => m_stT isB_3 hi
          refine ⟨nI (s (4 + i)), (sV V4 (3 + 1) (upd (V4 (3 + 1)) i (nI v)), X.2.1, t1), (s', σ), rec4 H (s, σ), K, T, ?_, fun o h => (kk o (by omega) (by omega) (by omega)).trans ((q2 o (by omega)).trans (kT o (by omega) (by omega) (by omega))), hp'.rec.st hP', q3.up kk (q3.2.1.kept (sV_n (by omega)) (sV_n (by omega))) g4 hP' (fun _ _ => rfl) (by dsimp only; rw [hU']; exact fun _ _ _ _ => rfl) (fun q _ => (lsS_cg (fun j hj => ho j (by omega)) q).symm), fun Y hY => ?_⟩
          · simp (config := {maxSteps := 1000000}) (disch := first | assumption | omega) only [f_X7_set, m_rx0, m_rx1, m_rx2, m_rx3, m_rx4, m_ix, m_iO isB_3, m_iO isB_184, m_iO isB_365, m_iH, m_iX, m_iD, m_im, m_rm0, e_wi_t, e_wi_f, e_ro_t, e_ro_f, e8_wi_t, e8_wi_f, e8_ro_t, e8_ro_f, zbool_0, zbool_1, zb2_s, zif_t, zopt_n, zopt_s, b_s, znm_e, lit_0, lit_1, lit_2, lit_3, lit_4, lit_5, lit_6, lit_7, lit_8, lit_9, lit_10, lit_11, lit_12, lit_13, lit_17, lit_20, lit_23, lit_24, lit_43, lit_48, lit_51, lit_57, lit_58, lit_59, lit_60, lit_61, lit_63, lit_77, lit_100, lit_140, lit_168, lit_200, lit_393, lit_400, lit_900, lit_969, lit_1000, lit_1041, lit_1045, lit_1093, lit_1168, lit_1200, lit_3279, lit_3333, lit_4372, lit_9999, nI_10, if_false, if_true, g0, m_rO1 isB_3, m_rO1 isB_365, m_ldT isB_3, st0, eT, p1, st1, j1, q1, st2]
          · obtain ⟨V3, m1, m2, m3⟩ := RS Y hY
            have h4 := m3.st (4 + i) (s (4 + i))
            rw [eb] at h4
            rw [bI_t c4] at m1
            obtain ⟨V5, r1, r2, r3⟩ := m_rec (z := z) (Y := (sV V3 1279 (upd (V3 1279) (4 + i) (nI (s (4 + i)))), Y.2)) (p := (s, σ)) (hY.up (m2.tr KpM.up).A.up h4)
            dsimp only at r1 r2
            have h6 := r3.1.st (4 + i) v
            dsimp only at h6
            rw [← hs'] at h6
            refine ⟨_, ?_, fun o h => (sV_n (by omega)).trans ((r2 o h).trans ((m2.tr KpM.up).A.lo o h)), r3.up KpM.up.A.up h6⟩
            rw [m1]
            simp (config := {maxSteps := 1000000}) (disch := first | assumption | omega) only [f_X8_set_86, m_rx0, m_rx1, m_rx2, m_rx3, m_rx4, m_ix, m_iO isB_3, m_iO isB_184, m_iO isB_365, m_iH, m_iX, m_iD, m_im, m_rm0, e_wi_t, e_wi_f, e_ro_t, e_ro_f, e8_wi_t, e8_wi_f, e8_ro_t, e8_ro_f, zbool_0, zbool_1, zb2_s, zif_t, zopt_n, zopt_s, b_s, znm_e, lit_0, lit_1, lit_2, lit_3, lit_4, lit_5, lit_6, lit_7, lit_8, lit_9, lit_10, lit_11, lit_12, lit_13, lit_17, lit_20, lit_23, lit_24, lit_43, lit_48, lit_51, lit_57, lit_58, lit_59, lit_60, lit_61, lit_63, lit_77, lit_100, lit_140, lit_168, lit_200, lit_393, lit_400, lit_900, lit_969, lit_1000, lit_1041, lit_1045, lit_1093, lit_1168, lit_1200, lit_3279, lit_3333, lit_4372, lit_9999, nI_10, if_false, if_true, nI_add, m_st1279, r1]
    · refine sm_0 (r := -nI 2) hp' hb (by simp (config := {maxSteps := 1000000}) (disch := first | assumption | omega) only [f_X7_set, m_rx0, m_rx1, m_rx2, m_rx3, m_rx4, m_ix, m_iO isB_3, m_iO isB_184, m_iO isB_365, m_iH, m_iX, m_iD, m_im, m_rm0, e_wi_t, e_wi_f, e_ro_t, e_ro_f, e8_wi_t, e8_wi_f, e8_ro_t, e8_ro_f, zbool_0, zbool_1, zb2_s, zif_t, zopt_n, zopt_s, b_s, znm_e, lit_0, lit_1, lit_2, lit_3, lit_4, lit_5, lit_6, lit_7, lit_8, lit_9, lit_10, lit_11, lit_12, lit_13, lit_17, lit_20, lit_23, lit_24, lit_43, lit_48, lit_51, lit_57, lit_58, lit_59, lit_60, lit_61, lit_63, lit_77, lit_100, lit_140, lit_168, lit_200, lit_393, lit_400, lit_900, lit_969, lit_1000, lit_1041, lit_1045, lit_1093, lit_1168, lit_1200, lit_3279, lit_3333, lit_4372, lit_9999, nI_10, if_false, if_true, g0]) (fun Y hY => ?_)
      simp (config := {maxSteps := 1000000}) (disch := first | assumption | omega) only [f_X8_set, m_rx0, m_rx1, m_rx2, m_rx3, m_rx4, m_ix, m_iO isB_3, m_iO isB_184, m_iO isB_365, m_iH, m_iX, m_iD, m_im, m_rm0, e_wi_t, e_wi_f, e_ro_t, e_ro_f, e8_wi_t, e8_wi_f, e8_ro_t, e8_ro_f, zbool_0, zbool_1, zb2_s, zif_t, zopt_n, zopt_s, b_s, znm_e, lit_0, lit_1, lit_2, lit_3, lit_4, lit_5, lit_6, lit_7, lit_8, lit_9, lit_10, lit_11, lit_12, lit_13, lit_17, lit_20, lit_23, lit_24, lit_43, lit_48, lit_51, lit_57, lit_58, lit_59, lit_60, lit_61, lit_63, lit_77, lit_100, lit_140, lit_168, lit_200, lit_393, lit_400, lit_900, lit_969, lit_1000, lit_1041, lit_1045, lit_1093, lit_1168, lit_1200, lit_3279, lit_3333, lit_4372, lit_9999, nI_10, if_false, if_true, k0]
  · exact sm_0 (r := -nI 2) hp' hb (by simp (config := {maxSteps := 1000000}) (disch := first | assumption | omega) only [f_X7_set, m_rx0, m_rx1, m_rx2, m_rx3, m_rx4, m_ix, m_iO isB_3, m_iO isB_184, m_iO isB_365, m_iH, m_iX, m_iD, m_im, m_rm0, e_wi_t, e_wi_f, e_ro_t, e_ro_f, e8_wi_t, e8_wi_f, e8_ro_t, e8_ro_f, zbool_0, zbool_1, zb2_s, zif_t, zopt_n, zopt_s, b_s, znm_e, lit_0, lit_1, lit_2, lit_3, lit_4, lit_5, lit_6, lit_7, lit_8, lit_9, lit_10, lit_11, lit_12, lit_13, lit_17, lit_20, lit_23, lit_24, lit_43, lit_48, lit_51, lit_57, lit_58, lit_59, lit_60, lit_61, lit_63, lit_77, lit_100, lit_140, lit_168, lit_200, lit_393, lit_400, lit_900, lit_969, lit_1000, lit_1041, lit_1045, lit_1093, lit_1168, lit_1200, lit_3279, lit_3333, lit_4372, lit_9999, nI_10, if_false, if_true]) (fun Y hY => (by have hr : RoC Y.1 s := hY.1; simp (config := {maxSteps := 1000000}) (disch := first | assumption | omega) only [f_X8_set, m_rx0, m_rx1, m_rx2, m_rx3, m_rx4, m_ix, m_iO isB_3, m_iO isB_184, m_iO isB_365, m_iH, m_iX, m_iD, m_im, m_rm0, e_wi_t, e_wi_f, e_ro_t, e_ro_f, e8_wi_t, e8_wi_f, e8_ro_t, e8_ro_f, zbool_0, zbool_1, zb2_s, zif_t, zopt_n, zopt_s, b_s, znm_e, lit_0, lit_1, lit_2, lit_3, lit_4, lit_5, lit_6, lit_7, lit_8, lit_9, lit_10, lit_11, lit_12, lit_13, lit_17, lit_20, lit_23, lit_24, lit_43, lit_48, lit_51, lit_57, lit_58, lit_59, lit_60, lit_61, lit_63, lit_77, lit_100, lit_140, lit_168, lit_200, lit_393, lit_400, lit_900, lit_969, lit_1000, lit_1041, lit_1045, lit_1093, lit_1168, lit_1200, lit_3279, lit_3333, lit_4372, lit_9999, nI_10, if_false, if_true]))
/-- a refusal -/
theorem ref_ok {s : Nat → Nat} (hB : RB s) {f st h v : Int32} (e : refM s f st h v = nI 0) : ∃ f' st' h' v' : Nat, f = nI f' ∧ st = nI st' ∧ h = nI h' ∧ v = nI v' ∧ s 1 < 48 ∧ f' < 6 ∧ s 0 ≤ st' ∧ st' ≤ 900 ∧ 1 ≤ h' ∧ h' ≤ 12 ∧ v' < 10000 ∧ (∀ q, q < 4 → dgt v' q ≤ 3) ∧ ∀ k, k < s 1 → recS s k 5 ≠ 2 → recS s k 1 = f' → st' + h' ≤ recS s k 2 ∨ recS s k 3 ≤ st' := by
  have b1 := hB.1.2.1
  have b0 := hB.1.1
  unfold refM at e
  by_cases c1 : nI 0 ≤ f ∧ f ≤ nI 5
  · rw [if_neg (fun q => q c1)] at e
    by_cases c2 : (nI (s 0) ≤ st ∧ st ≤ nI 900) ∧ (nI 1 ≤ h ∧ h ≤ nI 12) ∧ setB v = true
    · rw [if_neg (fun q => q c2)] at e
      by_cases c3 : oA (ohB s f st (st + h)) 0 (s 1) = true
      · rw [if_pos c3] at e; exact absurd e (by decide)
      · rw [if_neg c3] at e
        by_cases c4 : s 1 = 48
        · rw [if_pos c4] at e; exact absurd e (by decide)
        · obtain ⟨f', _, f9, rfl⟩ := wi_ex c1 (by omega) (by omega)
          obtain ⟨⟨d1, d2⟩, d3, d4⟩ := c2
          have h0 : nI 0 ≤ st := Int32.le_trans (nI_le (Nat.zero_le _) (by omega)) d1
          obtain ⟨st', hst, rfl⟩ := nI_of (x := st) (Int32.not_lt.mpr h0)
          have d1 := (nI_leI (by omega) hst).mp d1
          have d2 := (nI_leI hst (by omega)).mp d2
          obtain ⟨h', h1, h9, rfl⟩ := wi_ex d3 (by omega) (by omega)
          unfold setB at d4
          rw [Bool.and_eq_true, decide_eq_true_iff, decide_eq_true_iff] at d4
          obtain ⟨d4, d5⟩ := d4
          obtain ⟨v', v1, v9, rfl⟩ := wi_ex d4 (by omega) (by omega)
          rw [nI_clamp (by omega)] at d5
          refine ⟨f', st', h', v', rfl, rfl, rfl, rfl, by omega, by omega, d1, d2, h1, h9, by omega, fun q hq => ?_, fun k hk k5 k1 => ?_⟩
          · rcases (show q = 0 ∨ q = 1 ∨ q = 2 ∨ q = 3 by omega) with rfl | rfl | rfl | rfl
            · show v' / 10 / 10 / 10 % 10 ≤ 3; omega
            · show v' / 10 / 10 % 10 ≤ 3; omega
            · show v' / 10 % 10 ≤ 3; omega
            · show v' % 10 ≤ 3; omega
          · rcases Nat.lt_or_ge (recS s k 2) (st' + h') with x | x
            · rcases Nat.lt_or_ge st' (recS s k 3) with y | y
              · exfalso
                refine c3 (oA_iff.mpr ⟨k, Nat.zero_le _, by omega, ?_⟩)
                have bk := hB.2.1 k (by omega)
                have e3 : recS s k 3 = s (9 + 8 * k + 2) + s (9 + 8 * k + 3) := rfl
                unfold ohB
                rw [nI_add]
                exact decide_eq_true ⟨k5, by rw [k1], nI_lt x (by omega), nI_lt y (by omega)⟩
              · exact Or.inr y
            · exact Or.inl x
    · rw [if_pos c2] at e; exact absurd e (by decide)
  · rw [if_pos c1] at e; exact absurd e (by decide)
theorem ref_neg {s : Nat → Nat} {f st h v : Int32} (e : refM s f st h v ≠ nI 0) : (nI 0 ≤ refM s f st h v) = False := by
  unfold refM at e ⊢
  split
  · exact eq_false (by decide)
  · rename_i c1
    rw [if_neg c1] at e
    split
    · exact eq_false (by decide)
    · rename_i c2
      rw [if_neg c2] at e
      split
      · exact eq_false (by decide)
      · rename_i c3
        rw [if_neg c3] at e
        split
        · exact eq_false (by decide)
        · rename_i c4
          rw [if_neg c4] at e
          exact absurd rfl e
theorem sm_sailing {z : Nat} {X : pX} {p : sS} {H : List sS} {K : Option sS} {T : List Int32} (hp' : Pp p H K T) (hb : Bc X p H K T) (a1 a2 a3 a4 : Int32) : SmT (f_X7_sailing z a1 a2 a3 a4) (f_X8_sailing (z + 1278) a1 a2 a3 a4) z X p H K T := by
  obtain ⟨s, σ⟩ := p
  have hP : PS s σ := hp'.1
  have hS : Rc X 3 s σ := hb.1
  have hB := hP.B
  have b1 := hP.W.n48
  have b2 := hP.W.m12
  have g0 := e_refusal (z := z) isB_3 hS a1 a2 a3 a4
  rw [ref_eq hP] at g0
  have k0 : ∀ Y : pX, Bm Y.1 (s, σ) H K T → f_X8_hinders (z + 1278) a1 a2 a3 a4 (hp z Y) = some (refM s a1 a2 a3 a4, hp z Y) := fun Y hY => by
    have hr : RoC Y.1 s := hY.1
    exact e8_hinders (z := z) hr hB a1 a2 a3 a4
  by_cases c : refM s a1 a2 a3 a4 = nI 0
  · obtain ⟨f, st, h, v, rfl, rfl, rfl, rfl, x1, x2, x3, x4, x5, x6, x7, x8, x9⟩ := ref_ok hB c
    rw [c] at g0 k0
    have l0 : (nI 0 ≤ nI 0) = True := eq_true (by decide)
    obtain ⟨V1, t1, q1, q2, q3⟩ := c_rec (z := z) hb
    have hz : ∀ m, m < 12 → UU s σ (s 1) (20 + m) = 0 := fun m hm => by rw [UU_ge (Nat.le_refl _)]; exact emp_n (by omega)
    obtain ⟨V2, pp, g1, g2, g3, g4, g5, g6, g7⟩ := e_addSail (z := z) (X := (V1, X.2.1, t1)) isB_3 q3.1 (f := f) (st := st) (h := h) (v := v) x1 hz x2 (by omega) (by omega) q3.2.1
    dsimp only at g1 g4
    obtain ⟨o1, o2, o3, o4⟩ := PS_new hP x1 x2 x3 x4 x5 x6 x7 x8 x9 g5 g6 g7
    refine sm_w (p' := (newM s f st h v, insS σ (s 1) pp)) hp' (r := nI (s 1)) ?_ (fun o ho => (g2 o (by omega) (by omega) (by omega)).trans (q2 o (by omega))) (q3.upW g2 g3 g4 o1 o2 o3 o4) o1 (fun Y hY V1 k1 k2 k3 => ?_)
    · simp (disch := first | assumption | omega) only [f_X7_sailing, m_rx0, m_rx1, m_rx2, m_rx3, m_rx4, m_ix, m_iO isB_3, m_iO isB_184, m_iO isB_365, m_iH, m_iX, m_iD, m_im, m_rm0, e_wi_t, e_wi_f, e_ro_t, e_ro_f, e8_wi_t, e8_wi_f, e8_ro_t, e8_ro_f, zbool_0, zbool_1, zb2_s, zif_t, zopt_n, zopt_s, b_s, znm_e, lit_0, lit_1, lit_2, lit_3, lit_4, lit_5, lit_6, lit_7, lit_8, lit_9, lit_10, lit_11, lit_12, lit_13, lit_17, lit_20, lit_23, lit_24, lit_43, lit_48, lit_51, lit_57, lit_58, lit_59, lit_60, lit_61, lit_63, lit_77, lit_100, lit_140, lit_168, lit_200, lit_393, lit_400, lit_900, lit_969, lit_1000, lit_1041, lit_1045, lit_1093, lit_1168, lit_1200, lit_3279, lit_3333, lit_4372, lit_9999, nI_10, if_false, if_true, g0, l0, q1, g1]
    · obtain ⟨V3, m1, m2, m3⟩ := e8_addSail (z := z) (X := (V1, Y.2)) k3 hB (f := f) (st := st) (h := h) (v := v) x1 (by omega)
      have k4 := k0 Y hY
      refine ⟨V3, ?_, m2.A, m3⟩
      simp (disch := first | assumption | omega) only [f_X8_sailing, m_rx0, m_rx1, m_rx2, m_rx3, m_rx4, m_ix, m_iO isB_3, m_iO isB_184, m_iO isB_365, m_iH, m_iX, m_iD, m_im, m_rm0, e_wi_t, e_wi_f, e_ro_t, e_ro_f, e8_wi_t, e8_wi_f, e8_ro_t, e8_ro_f, zbool_0, zbool_1, zb2_s, zif_t, zopt_n, zopt_s, b_s, znm_e, lit_0, lit_1, lit_2, lit_3, lit_4, lit_5, lit_6, lit_7, lit_8, lit_9, lit_10, lit_11, lit_12, lit_13, lit_17, lit_20, lit_23, lit_24, lit_43, lit_48, lit_51, lit_57, lit_58, lit_59, lit_60, lit_61, lit_63, lit_77, lit_100, lit_140, lit_168, lit_200, lit_393, lit_400, lit_900, lit_969, lit_1000, lit_1041, lit_1045, lit_1093, lit_1168, lit_1200, lit_3279, lit_3333, lit_4372, lit_9999, nI_10, if_false, if_true, k4, l0, k1, m1]
  · have l0 := ref_neg c
    refine sm_0 (r := refM s a1 a2 a3 a4) hp' hb (by simp (disch := first | assumption | omega) only [f_X7_sailing, m_rx0, m_rx1, m_rx2, m_rx3, m_rx4, m_ix, m_iO isB_3, m_iO isB_184, m_iO isB_365, m_iH, m_iX, m_iD, m_im, m_rm0, e_wi_t, e_wi_f, e_ro_t, e_ro_f, e8_wi_t, e8_wi_f, e8_ro_t, e8_ro_f, zbool_0, zbool_1, zb2_s, zif_t, zopt_n, zopt_s, b_s, znm_e, lit_0, lit_1, lit_2, lit_3, lit_4, lit_5, lit_6, lit_7, lit_8, lit_9, lit_10, lit_11, lit_12, lit_13, lit_17, lit_20, lit_23, lit_24, lit_43, lit_48, lit_51, lit_57, lit_58, lit_59, lit_60, lit_61, lit_63, lit_77, lit_100, lit_140, lit_168, lit_200, lit_393, lit_400, lit_900, lit_969, lit_1000, lit_1041, lit_1045, lit_1093, lit_1168, lit_1200, lit_3279, lit_3333, lit_4372, lit_9999, nI_10, if_false, if_true, g0, l0]) (fun Y hY => ?_)
    have k4 := k0 Y hY
    simp (disch := first | assumption | omega) only [f_X8_sailing, m_rx0, m_rx1, m_rx2, m_rx3, m_rx4, m_ix, m_iO isB_3, m_iO isB_184, m_iO isB_365, m_iH, m_iX, m_iD, m_im, m_rm0, e_wi_t, e_wi_f, e_ro_t, e_ro_f, e8_wi_t, e8_wi_f, e8_ro_t, e8_ro_f, zbool_0, zbool_1, zb2_s, zif_t, zopt_n, zopt_s, b_s, znm_e, lit_0, lit_1, lit_2, lit_3, lit_4, lit_5, lit_6, lit_7, lit_8, lit_9, lit_10, lit_11, lit_12, lit_13, lit_17, lit_20, lit_23, lit_24, lit_43, lit_48, lit_51, lit_57, lit_58, lit_59, lit_60, lit_61, lit_63, lit_77, lit_100, lit_140, lit_168, lit_200, lit_393, lit_400, lit_900, lit_969, lit_1000, lit_1041, lit_1045, lit_1093, lit_1168, lit_1200, lit_3279, lit_3333, lit_4372, lit_9999, nI_10, if_false, if_true, k4, l0]
