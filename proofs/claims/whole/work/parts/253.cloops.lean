/-! loops at the top of the class -/
theorem Rc.kd {X : pX} {V' : pV} {s σ : Nat → Nat} (h : Rc X 3 s σ) (hk : KpD X.1 V') : Rc (V', X.2) 3 s σ := h.mv rfl (fun o a b => hk o (by omega) (by omega))
theorem no_m1 {v : Nat} (h : v < 2 ^ 31) : ¬ nI v ≤ -nI 1 := fun q => by
  have a : nI 0 ≤ nI v := nI_le (Nat.zero_le v) h
  exact absurd (Int32.le_trans a q) (by decide)
theorem e7_ableL {z : Nat} {s σ : Nat → Nat} (hP : PS s σ) {r q : Nat} (hr : r < s 1) (hq : q < 4) : ∀ (n fuel m : Nat) (c : Int32) (X : pX), Rc X 3 s σ → DuE X.1 → m + n = s 2 → n < fuel → ∃ V', f_X7_able_28 fuel z (nI q) (z + (3 + (5 + 3 * X.2.1 3 r))) c (nI m) (hp z X) = some (abI (fun m => decide (rsnM s m (σ r) q = 0)) m n c, hp z (V', X.2)) ∧ KpD X.1 V' ∧ DuE V' := by
  intro n
  have b1 := hP.W.n48
  have b2 := hP.W.m12
  induction n with
  | zero =>
    intro fuel m c X hS hd h1 h2
    obtain ⟨fuel, rfl⟩ : ∃ f, fuel = f + 1 := ⟨fuel - 1, by omega⟩
    have h1 : m = s 2 := h1
    have s2 : X.1 3 4 = nI (s 2) := hS.2.1.1.2.2.1
    refine ⟨X.1, ?_, KpD.rf, hd⟩
    simp (disch := first | assumption | omega) only [f_X7_able_28, f_X7_able_28_body, m_rx0, m_gO4 isB_3, s2, zb2_s, zif_t, zopt_n, zopt_s, b_s, znm_e, lit_0, lit_1, lit_2, lit_3, lit_4, lit_5, lit_6, lit_7, lit_8, lit_9, lit_10, lit_11, lit_12, lit_13, lit_17, lit_20, lit_23, lit_24, lit_43, lit_48, lit_51, lit_57, lit_58, lit_59, lit_60, lit_61, lit_63, lit_77, lit_100, lit_140, lit_168, lit_200, lit_393, lit_400, lit_900, lit_969, lit_1000, lit_1041, lit_1045, lit_1093, lit_1168, lit_1200, lit_3279, lit_3333, lit_4372, lit_9999, nI_leE, abI]
    rw [if_pos (by omega)]
  | succ n ih =>
    intro fuel m c X hS hd h1 h2
    obtain ⟨fuel, rfl⟩ : ∃ f, fuel = f + 1 := ⟨fuel - 1, by omega⟩
    have s2 : X.1 3 4 = nI (s 2) := hS.2.1.1.2.2.1
    obtain ⟨V1, p1, p2, p3⟩ := e_reason (z := z) isB_3 hS (m := m) (r := r) (q := q) (by omega) (by omega) hq hd
    rw [rsn_eq hP (by omega) hr hq] at p1
    have b6 := rsnM_le s m (σ r) q
    by_cases d : rsnM s m (σ r) q = 0
    · obtain ⟨V', q1, q2, q3⟩ := ih fuel (m + 1) (c ||| (nI 1 <<< (nI m &&& nI 31))) (V1, X.2) (hS.kd p2) p3 (by omega) (by omega)
      dsimp only at q1
      rw [abI_t (decide_eq_true d)]
      refine ⟨V', ?_, p2.tr q2, q3⟩
      simp (disch := first | assumption | omega) only [f_X7_able_28, f_X7_able_28_body, f_X7_able_63, m_rx0, m_gO4 isB_3, s2, m_iO isB_3, p1, d, lt31, zb2_s, zif_t, zopt_n, zopt_s, b_s, znm_e, lit_0, lit_1, lit_2, lit_3, lit_4, lit_5, lit_6, lit_7, lit_8, lit_9, lit_10, lit_11, lit_12, lit_13, lit_17, lit_20, lit_23, lit_24, lit_43, lit_48, lit_51, lit_57, lit_58, lit_59, lit_60, lit_61, lit_63, lit_77, lit_100, lit_140, lit_168, lit_200, lit_393, lit_400, lit_900, lit_969, lit_1000, lit_1041, lit_1045, lit_1093, lit_1168, lit_1200, lit_3279, lit_3333, lit_4372, lit_9999, nI_leE, if_true, nI_add, nI_mul, q1]
      rw [if_neg (by omega)]
    · obtain ⟨V', q1, q2, q3⟩ := ih fuel (m + 1) c (V1, X.2) (hS.kd p2) p3 (by omega) (by omega)
      dsimp only at q1
      rw [abI_f (decide_eq_false d)]
      refine ⟨V', ?_, p2.tr q2, q3⟩
      simp (disch := first | assumption | omega) only [f_X7_able_28, f_X7_able_28_body, f_X7_able_63, m_rx0, m_gO4 isB_3, s2, m_iO isB_3, p1, zb2_s, zif_t, zopt_n, zopt_s, b_s, znm_e, lit_0, lit_1, lit_2, lit_3, lit_4, lit_5, lit_6, lit_7, lit_8, lit_9, lit_10, lit_11, lit_12, lit_13, lit_17, lit_20, lit_23, lit_24, lit_43, lit_48, lit_51, lit_57, lit_58, lit_59, lit_60, lit_61, lit_63, lit_77, lit_100, lit_140, lit_168, lit_200, lit_393, lit_400, lit_900, lit_969, lit_1000, lit_1041, lit_1045, lit_1093, lit_1168, lit_1200, lit_3279, lit_3333, lit_4372, lit_9999, nI_leE, nI_eqE, nI_add, nI_mul, q1]
      rw [if_neg (by omega), if_neg d]
theorem e7_hours {z : Nat} {X : pX} {s σ : Nat → Nat} (hP : PS s σ) {m : Nat} (hm : m < s 2) (hS : Rc X 3 s σ) (hd : DuE X.1) : ∃ V', f_X5_dutiesOf (z + 3) (nI m) none (hp z X) = some (some (z + 1), hp z (V', X.2)) ∧ KpD X.1 V' ∧ DuE V' ∧ V' 1 1 = nI (sA (dcN s m) 0 1200) := by
  obtain ⟨V1, g1, g2, g3, g4⟩ := e_duties0 (z := z) isB_3 hS (m := m) (by have := hP.W.m12; omega) hd
  refine ⟨V1, g1, g2, ⟨_, g3, g4⟩, ?_⟩
  rw [g3.2.1, (dut1 hP hm).1.2.2.2.1]
theorem e7_frL {z : Nat} {s σ : Nat → Nat} (hP : PS s σ) : ∀ (n fuel m v : Nat) (b : Option Nat) (X : pX), Rc X 3 s σ → DuE X.1 → v < 100000 → (∀ j, b = some j → j < 48) → m + n = s 2 → n < fuel → ∃ V', f_X7_freshest_7 fuel z (oI b) (nI v) (nI m) (hp z X) = some (oI (bF (fun m => sA (dcN s m) 0 1200) (fun a b => decide (a < b)) m n b v), hp z (V', X.2)) ∧ KpD X.1 V' ∧ DuE V' := by
  intro n
  have b2 := hP.W.m12
  induction n with
  | zero =>
    intro fuel m v b X hS hd hv hb h1 h2
    obtain ⟨fuel, rfl⟩ : ∃ f, fuel = f + 1 := ⟨fuel - 1, by omega⟩
    have h1 : m = s 2 := h1
    have s2 : X.1 3 4 = nI (s 2) := hS.2.1.1.2.2.1
    refine ⟨X.1, ?_, KpD.rf, hd⟩
    simp (disch := first | assumption | omega) only [f_X7_freshest_7, f_X7_freshest_7_body, m_rx0, m_gO4 isB_3, s2, zb2_s, zif_t, zopt_n, zopt_s, b_s, znm_e, lit_0, lit_1, lit_2, lit_3, lit_4, lit_5, lit_6, lit_7, lit_8, lit_9, lit_10, lit_11, lit_12, lit_13, lit_17, lit_20, lit_23, lit_24, lit_43, lit_48, lit_51, lit_57, lit_58, lit_59, lit_60, lit_61, lit_63, lit_77, lit_100, lit_140, lit_168, lit_200, lit_393, lit_400, lit_900, lit_969, lit_1000, lit_1041, lit_1045, lit_1093, lit_1168, lit_1200, lit_3279, lit_3333, lit_4372, lit_9999, nI_leE, bF]
    rw [if_pos (by omega)]
  | succ n ih =>
    intro fuel m v b X hS hd hv hb h1 h2
    obtain ⟨fuel, rfl⟩ : ∃ f, fuel = f + 1 := ⟨fuel - 1, by omega⟩
    have s2 : X.1 3 4 = nI (s 2) := hS.2.1.1.2.2.1
    obtain ⟨V1, p1, p2, p3, p4⟩ := e7_hours (z := z) hP (m := m) (by omega) hS hd
    have bl := dh_lt hP.B m
    obtain ⟨Va, a1, a2, a3⟩ := ih fuel (m + 1) (sA (dcN s m) 0 1200) (some m) (V1, X.2) (hS.kd p2) p3 bl (fun j h => by cases h; omega) (by omega) (by omega)
    obtain ⟨Vb, b1, b3, b4⟩ := ih fuel (m + 1) v b (V1, X.2) (hS.kd p2) p3 hv hb (by omega) (by omega)
    cases b with
    | none =>
      rw [bF_t (by rfl)]
      refine ⟨Va, ?_, p2.tr a2, a3⟩
      have a1 : f_X7_freshest_7 fuel z (nI m) (nI (sA (dcN s m) 0 1200)) (nI (m + 1)) (hp z (V1, X.2)) = _ := a1
      simp (disch := first | assumption | omega) only [f_X7_freshest_7, f_X7_freshest_7_body, f_X7_freshest_44, f_X7_freshest_49, m_rx0, m_gO4 isB_3, s2, m_iO isB_3, m_gD1, p1, p4, zb2_s, zif_t, zopt_n, zopt_s, b_s, znm_e, lit_0, lit_1, lit_2, lit_3, lit_4, lit_5, lit_6, lit_7, lit_8, lit_9, lit_10, lit_11, lit_12, lit_13, lit_17, lit_20, lit_23, lit_24, lit_43, lit_48, lit_51, lit_57, lit_58, lit_59, lit_60, lit_61, lit_63, lit_77, lit_100, lit_140, lit_168, lit_200, lit_393, lit_400, lit_900, lit_969, lit_1000, lit_1041, lit_1045, lit_1093, lit_1168, lit_1200, lit_3279, lit_3333, lit_4372, lit_9999, nI_leE, oI, m5_e, if_true, nI_add, nI_mul, a1]
      rw [if_neg (by omega)]
    | some j =>
      have hj := hb j rfl
      have n5 := nI_ne5 (j := j) (by omega)
      have a1 : f_X7_freshest_7 fuel z (nI m) (nI (sA (dcN s m) 0 1200)) (nI (m + 1)) (hp z (V1, X.2)) = _ := a1
      have b1 : f_X7_freshest_7 fuel z (nI j) (nI v) (nI (m + 1)) (hp z (V1, X.2)) = _ := b1
      by_cases c : sA (dcN s m) 0 1200 < v
      · rw [bF_t (by simp [c])]
        refine ⟨Va, ?_, p2.tr a2, a3⟩
        simp (disch := first | assumption | omega) only [f_X7_freshest_7, f_X7_freshest_7_body, f_X7_freshest_44, f_X7_freshest_49, m_rx0, m_gO4 isB_3, s2, m_iO isB_3, m_gD1, p1, p4, zb2_s, zif_t, zopt_n, zopt_s, b_s, znm_e, lit_0, lit_1, lit_2, lit_3, lit_4, lit_5, lit_6, lit_7, lit_8, lit_9, lit_10, lit_11, lit_12, lit_13, lit_17, lit_20, lit_23, lit_24, lit_43, lit_48, lit_51, lit_57, lit_58, lit_59, lit_60, lit_61, lit_63, lit_77, lit_100, lit_140, lit_168, lit_200, lit_393, lit_400, lit_900, lit_969, lit_1000, lit_1041, lit_1045, lit_1093, lit_1168, lit_1200, lit_3279, lit_3333, lit_4372, lit_9999, nI_leE, oI, n5, if_false, nI_add, nI_mul, a1]
        rw [if_neg (by omega), if_neg (by omega)]
      · rw [bF_f (by simp [c])]
        refine ⟨Vb, ?_, p2.tr b3, b4⟩
        simp (disch := first | assumption | omega) only [f_X7_freshest_7, f_X7_freshest_7_body, f_X7_freshest_44, f_X7_freshest_49, m_rx0, m_gO4 isB_3, s2, m_iO isB_3, m_gD1, p1, p4, zb2_s, zif_t, zopt_n, zopt_s, b_s, znm_e, lit_0, lit_1, lit_2, lit_3, lit_4, lit_5, lit_6, lit_7, lit_8, lit_9, lit_10, lit_11, lit_12, lit_13, lit_17, lit_20, lit_23, lit_24, lit_43, lit_48, lit_51, lit_57, lit_58, lit_59, lit_60, lit_61, lit_63, lit_77, lit_100, lit_140, lit_168, lit_200, lit_393, lit_400, lit_900, lit_969, lit_1000, lit_1041, lit_1045, lit_1093, lit_1168, lit_1200, lit_3279, lit_3333, lit_4372, lit_9999, nI_leE, oI, n5, if_false, nI_add, nI_mul, b1]
        rw [if_neg (by omega), if_pos (by omega)]
/-- only the trial and the duties' rows changed -/
def KpT (V V' : pV) : Prop := ∀ o, o ≠ 1 → o ≠ 2 → (o < 365 ∨ 546 ≤ o) → V' o = V o
theorem KpT.tr {V V1 V2 : pV} (h : KpT V V1) (g : KpT V1 V2) : KpT V V2 := fun o a b c => (g o a b c).trans (h o a b c)
theorem KpT.rf {V : pV} : KpT V V := fun _ _ _ _ => rfl
theorem Rc.kt {X : pX} {V' : pV} {s σ : Nat → Nat} (h : Rc X 3 s σ) (hk : KpT X.1 V') : Rc (V', X.2) 3 s σ := h.mv rfl (fun o a b => hk o (by omega) (by omega) (by omega))
/-- what it would mean if somebody was sick -/
theorem e7_ifSick {z : Nat} {X : pX} {s σ : Nat → Nat} (hP : PS s σ) {m h : Nat} (hm : m < s 2) (hh : h < 1000) (hS : Rc X 3 s σ) (hw : Ord (X.2.1 365)) (hd : DuE X.1) : ∃ V1 V2, f_X5_copyFrom (z + 365) (z + 3) (hp z X) = some (hp z (V1, X.2)) ∧ f_X5_fallSick (z + 365) (nI m) (nI h) (hp z (V1, X.2)) = some (nI (sickM s m h).2, hp z (V2, X.2)) ∧ KpT X.1 V2 ∧ DuE V2 := by
  obtain ⟨V1, g1, g2, g3⟩ := e_copy (z := z) isB_365 isB_3 (by omega) hS hw
  obtain ⟨V2, k1, k2, k3, _⟩ := e_fallSick (z := z) (X := (V1, X.2)) isB_365 g3 hm hh (hd.kept (g2 1 (by omega)) (g2 2 (by omega)))
  rw [(sick_eq hP hm hh).2.1] at k1
  exact ⟨V1, V2, g1, k1, fun o a b c => (k2 o a b (by omega)).trans (g2 o (by omega)), k3⟩
theorem sick_le {s σ : Nat → Nat} (hP : PS s σ) {m h : Nat} (hm : m < s 2) (hh : h < 1000) : (sickM s m h).2 < 100000 := by
  obtain ⟨V, _, _, _, _, h2⟩ := e8_sickNow (z := 0) (X := ((fun _ i => nI (s i)), (fun _ _ => 0), fun _ => 0)) (s := s) (fun i _ => rfl) hP.B (m := m) (h := h) (by have := hP.W.m12; omega) hh
  omega
theorem e7_wkL {z : Nat} {s σ : Nat → Nat} (hP : PS s σ) {h : Nat} (hh : h < 1000) : ∀ (n fuel m v : Nat) (b : Option Nat) (X : pX), Rc X 3 s σ → Ord (X.2.1 365) → DuE X.1 → v < 100000 → (∀ j, b = some j → j < 48) → m + n = s 2 → n < fuel → ∃ V', f_X7_weakest_22 fuel z (nI h) (oI b) (match b with | none => -nI 1 | some _ => nI v) (nI m) (hp z X) = some (oI (bF (fun m => (sickM s m h).2) (fun a b => decide (b < a)) m n b v), hp z (V', X.2)) ∧ KpT X.1 V' ∧ DuE V' := by
  intro n
  have b2 := hP.W.m12
  induction n with
  | zero =>
    intro fuel m v b X hS hw hd hv hb h1 h2
    obtain ⟨fuel, rfl⟩ : ∃ f, fuel = f + 1 := ⟨fuel - 1, by omega⟩
    have h1 : m = s 2 := h1
    have s2 : X.1 3 4 = nI (s 2) := hS.2.1.1.2.2.1
    refine ⟨X.1, ?_, KpT.rf, hd⟩
    simp (disch := first | assumption | omega) only [f_X7_weakest_22, f_X7_weakest_22_body, m_rx0, m_gO4 isB_3, s2, zb2_s, zif_t, zopt_n, zopt_s, b_s, znm_e, lit_0, lit_1, lit_2, lit_3, lit_4, lit_5, lit_6, lit_7, lit_8, lit_9, lit_10, lit_11, lit_12, lit_13, lit_17, lit_20, lit_23, lit_24, lit_43, lit_48, lit_51, lit_57, lit_58, lit_59, lit_60, lit_61, lit_63, lit_77, lit_100, lit_140, lit_168, lit_200, lit_393, lit_400, lit_900, lit_969, lit_1000, lit_1041, lit_1045, lit_1093, lit_1168, lit_1200, lit_3279, lit_3333, lit_4372, lit_9999, nI_leE, bF]
    rw [if_pos (by omega)]
  | succ n ih =>
    intro fuel m v b X hS hw hd hv hb h1 h2
    obtain ⟨fuel, rfl⟩ : ∃ f, fuel = f + 1 := ⟨fuel - 1, by omega⟩
    have s2 : X.1 3 4 = nI (s 2) := hS.2.1.1.2.2.1
    obtain ⟨V0, V1, p0, p1, p2, p3⟩ := e7_ifSick (z := z) hP (m := m) (by omega) hh hS hw hd
    have bl : (sickM s m h).2 < 100000 := sick_le hP (by omega) hh
    obtain ⟨Va, a1, a2, a3⟩ := ih fuel (m + 1) (sickM s m h).2 (some m) (V1, X.2) (hS.kt p2) hw p3 bl (fun j h => by cases h; omega) (by omega) (by omega)
    obtain ⟨Vb, b1, b3, b4⟩ := ih fuel (m + 1) v b (V1, X.2) (hS.kt p2) hw p3 hv hb (by omega) (by omega)
    have a1 : f_X7_weakest_22 fuel z (nI h) (nI m) (nI (sickM s m h).2) (nI (m + 1)) (hp z (V1, X.2)) = _ := a1
    cases b with
    | none =>
      rw [bF_t (by rfl)]
      refine ⟨Va, ?_, p2.tr a2, a3⟩
      simp (disch := first | assumption | omega) only [f_X7_weakest_22, f_X7_weakest_22_body, f_X7_weakest_69, m_rx0, m_rx2, m_gO4 isB_3, s2, m_iO isB_3, m_iO isB_365, p0, p1, zb2_s, zif_t, zopt_n, zopt_s, b_s, znm_e, lit_0, lit_1, lit_2, lit_3, lit_4, lit_5, lit_6, lit_7, lit_8, lit_9, lit_10, lit_11, lit_12, lit_13, lit_17, lit_20, lit_23, lit_24, lit_43, lit_48, lit_51, lit_57, lit_58, lit_59, lit_60, lit_61, lit_63, lit_77, lit_100, lit_140, lit_168, lit_200, lit_393, lit_400, lit_900, lit_969, lit_1000, lit_1041, lit_1045, lit_1093, lit_1168, lit_1200, lit_3279, lit_3333, lit_4372, lit_9999, nI_leE, oI, nI_add, nI_mul, a1]
      rw [if_neg (by omega), if_neg (no_m1 (by omega))]
    | some j =>
      have b1 : f_X7_weakest_22 fuel z (nI h) (nI j) (nI v) (nI (m + 1)) (hp z (V1, X.2)) = _ := b1
      by_cases c : v < (sickM s m h).2
      · rw [bF_t (by simp [c])]
        refine ⟨Va, ?_, p2.tr a2, a3⟩
        simp (disch := first | assumption | omega) only [f_X7_weakest_22, f_X7_weakest_22_body, f_X7_weakest_69, m_rx0, m_rx2, m_gO4 isB_3, s2, m_iO isB_3, m_iO isB_365, p0, p1, zb2_s, zif_t, zopt_n, zopt_s, b_s, znm_e, lit_0, lit_1, lit_2, lit_3, lit_4, lit_5, lit_6, lit_7, lit_8, lit_9, lit_10, lit_11, lit_12, lit_13, lit_17, lit_20, lit_23, lit_24, lit_43, lit_48, lit_51, lit_57, lit_58, lit_59, lit_60, lit_61, lit_63, lit_77, lit_100, lit_140, lit_168, lit_200, lit_393, lit_400, lit_900, lit_969, lit_1000, lit_1041, lit_1045, lit_1093, lit_1168, lit_1200, lit_3279, lit_3333, lit_4372, lit_9999, nI_leE, oI, nI_add, nI_mul, a1]
        rw [if_neg (by omega), if_neg (by omega)]
      · rw [bF_f (by simp [c])]
        refine ⟨Vb, ?_, p2.tr b3, b4⟩
        simp (disch := first | assumption | omega) only [f_X7_weakest_22, f_X7_weakest_22_body, f_X7_weakest_69, m_rx0, m_rx2, m_gO4 isB_3, s2, m_iO isB_3, m_iO isB_365, p0, p1, zb2_s, zif_t, zopt_n, zopt_s, b_s, znm_e, lit_0, lit_1, lit_2, lit_3, lit_4, lit_5, lit_6, lit_7, lit_8, lit_9, lit_10, lit_11, lit_12, lit_13, lit_17, lit_20, lit_23, lit_24, lit_43, lit_48, lit_51, lit_57, lit_58, lit_59, lit_60, lit_61, lit_63, lit_77, lit_100, lit_140, lit_168, lit_200, lit_393, lit_400, lit_900, lit_969, lit_1000, lit_1041, lit_1045, lit_1093, lit_1168, lit_1200, lit_3279, lit_3333, lit_4372, lit_9999, nI_leE, oI, nI_add, nI_mul, b1]
        rw [if_neg (by omega), if_pos (by omega)]
theorem fhL_le {f : Nat → Bool} : ∀ (n k l b N : Nat), b ≤ N → k + n ≤ N → fhL f k n l b ≤ N
  | 0, _, _, _, _, h, _ => h
  | n + 1, k, l, b, N, h, h2 => by
    unfold fhL
    split
    · exact fhL_le n (k + 1) _ _ N (by omega) (by omega)
    · exact fhL_le n (k + 1) _ _ N h (by omega)
