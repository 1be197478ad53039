/-! faults of the text; the sailings read come -/
theorem sub_sub2 (a b : Int32) : a - (a - b) = b := by
  rw [Int32.sub_eq_add_neg, Int32.neg_sub, Int32.sub_eq_add_neg, ← Int32.add_assoc, Int32.add_comm a b, Int32.add_assoc, Int32.add_right_neg, Int32.add_zero]
theorem neg_sub2 (a b : Int32) : -a - b = -(a + b) := by
  rw [Int32.sub_eq_add_neg, Int32.neg_add, Int32.sub_eq_add_neg]
theorem no_neg {n : Nat} (h0 : 0 < n) (h : n < 2 ^ 31) : (nI 0 ≤ -nI n) = False := eq_false (fun q => by
  have q := Int32.le_iff_toInt_le.mp q
  rw [Int32.toInt_neg, nI_toInt h, nI_toInt (by omega)] at q
  have e : Int.bmod (-(n : Int)) (2 ^ 32) = -(n : Int) := by apply Int.bmod_eq_of_le <;> omega
  rw [e] at q
  omega)
theorem no_ft {q : Nat} (h : q < 100000) : (nI 0 ≤ -nI 100 - nI q) = False := by
  rw [neg_sub2, nI_add]
  exact no_neg (by omega) (by omega)
def KE (V V' : pV) : Prop := (∀ i, i ≠ 8 → V' 1278 i = V 1278 i) ∧ ∀ o, o ≠ 1278 → o ≠ 1284 → V' o = V o
theorem KE.tr {V V1 V2 : pV} (h : KE V V1) (g : KE V1 V2) : KE V V2 := ⟨fun i hi => (g.1 i hi).trans (h.1 i hi), fun o a b => (g.2 o a b).trans (h.2 o a b)⟩
theorem KM8.E {V V' : pV} {p : Nat} (h : KM8 V V' p) : KE V V' := h.2
theorem KE.tx {V V' : pV} {T : List Int32} (h : KE V V') (g : TxM V T) : TxM V' T := g.mv (h.1 10 (by omega)) (h.2 1283 (by omega) (by omega))
theorem Bm.ke {V V' : pV} {p : sS} {H : List sS} {K : Option sS} {T : List Int32} (h : Bm V p H K T) (k : KE V V') : Bm V' p H K T :=
  ⟨h.1.kept (k.2 1279 (by omega) (by omega)), h.2.1.mv (k.1 9 (by omega)) (k.2 1282 (by omega) (by omega)), h.2.2.1.mv (k.1 11 (by omega)) (k.2 1280 (by omega) (by omega)), k.tx h.2.2.2⟩
def rmI (r : Nat × Option Nat) : Int32 := match r.2 with
  | none => nI r.1
  | some q => -nI 100 - nI q
theorem rp_s {T : List Int32} {k : Nat} : rp T (k + 1) = (rsT T (rp T k)).2 + 1 := rfl
theorem e8_raL {z : Nat} {T : List Int32} (h60 : T.length ≤ 60) : ∀ (n fuel k : Nat) (X : pX), TxM X.1 T → X.1 1278 8 = nI (rp T k) → rp T k ≤ T.length → 11 * k ≤ rp T k → k + n = 6 → n + 1 < fuel → ∃ V', f_X8_readAll_9 fuel (z + 1278) (nI k) (nI 1) (hp z X) = some (rmI (raR T n k), hp z (V', X.2)) ∧ KE X.1 V' := by
  intro n
  induction n with
  | zero => intro fuel k X hT h8 hpl h11 hk hf; omega
  | succ n ih =>
    intro fuel k X hT h8 hpl h11 hk hf
    obtain ⟨fuel, rfl⟩ : ∃ f, fuel = f + 1 := ⟨fuel - 1, by omega⟩
    obtain ⟨fuel, rfl⟩ : ∃ f, fuel = f + 1 := ⟨fuel - 1, by omega⟩
    obtain ⟨V1, a1, a2, _⟩ := e8_rs (z := z) hT h60 hpl h8
    obtain ⟨o1, o2, o3⟩ := rsT_ok (T := T) hpl
    have hT1 := a2.tx hT
    have t8 := a2.1
    unfold raR
    cases e : (rsT T (rp T k)).1 with
    | none =>
      rw [e] at a1
      have a1 : f_X8_readSailing (z + 1278) (hp z X) = some (nI 0, hp z (V1, X.2)) := a1
      refine ⟨V1, ?_, a2.E⟩
      simp (disch := first | assumption | omega) only [f_X8_readAll_9, f_X8_readAll_9_body, m_rx0, m_rx1, m_rx2, m_rx3, m_rx4, m_ix, m_iO isB_3, m_iO isB_184, m_iO isB_365, m_iH, m_iX, m_iD, m_im, m_rm0, e_wi_t, e_wi_f, e_ro_t, e_ro_f, e8_wi_t, e8_wi_f, e8_ro_t, e8_ro_f, zbool_0, zbool_1, zb2_s, zif_t, zopt_n, zopt_s, b_s, znm_e, lit_0, lit_1, lit_2, lit_3, lit_4, lit_5, lit_6, lit_7, lit_8, lit_9, lit_10, lit_11, lit_12, lit_13, lit_17, lit_20, lit_23, lit_24, lit_43, lit_48, lit_51, lit_57, lit_58, lit_59, lit_60, lit_61, lit_63, lit_77, lit_100, lit_140, lit_168, lit_200, lit_393, lit_400, lit_900, lit_969, lit_1000, lit_1041, lit_1045, lit_1093, lit_1168, lit_1200, lit_3279, lit_3333, lit_4372, lit_9999, nI_10, if_false, if_true, a1, m_gm8, t8]
      rfl
    | some r =>
      obtain ⟨f, st, h, v⟩ := r
      have p10 := (o3 f st h v e).1
      rw [e] at a1
      have a1 : f_X8_readSailing (z + 1278) (hp z X) = some (nI 1, hp z (V1, X.2)) := a1
      dsimp only
      obtain ⟨V2, b1, b2, _⟩ := e8_sign (z := z) (X := (V1, X.2)) hT1 h60 (p := (rsT T (rp T k)).2) (by omega) t8 (nI 59)
      dsimp only at b1
      by_cases c2 : T[(rsT T (rp T k)).2]? = some (nI 59)
      · have l2 := getE_lt c2
        rw [if_pos c2] at b2
        rw [bI_t (decide_eq_true c2)] at b1
        rw [if_neg (by omega), if_pos c2]
        obtain ⟨V3, d1, d2⟩ := ih (fuel + 1) (k + 1) (V2, X.2) (b2.tx hT1) b2.1 (by rw [rp_s]; omega) (by rw [rp_s]; omega) (by omega) (by omega)
        refine ⟨V3, ?_, (a2.E.tr b2.E).tr d2⟩
        dsimp only at d1
        have E : f_X8_readAll_9 (fuel + 1 + 1) (z + 1278) (nI k) (nI 1) (hp z X) = f_X8_readAll_9 (fuel + 1) (z + 1278) (nI (k + 1)) (nI 1) (hp z (V2, X.2)) := by
          rw [f_X8_readAll_9]
          simp (disch := first | assumption | omega) only [f_X8_readAll_9_body, m_rx0, m_rx1, m_rx2, m_rx3, m_rx4, m_ix, m_iO isB_3, m_iO isB_184, m_iO isB_365, m_iH, m_iX, m_iD, m_im, m_rm0, e_wi_t, e_wi_f, e_ro_t, e_ro_f, e8_wi_t, e8_wi_f, e8_ro_t, e8_ro_f, zbool_0, zbool_1, zb2_s, zif_t, zopt_n, zopt_s, b_s, znm_e, lit_0, lit_1, lit_2, lit_3, lit_4, lit_5, lit_6, lit_7, lit_8, lit_9, lit_10, lit_11, lit_12, lit_13, lit_17, lit_20, lit_23, lit_24, lit_43, lit_48, lit_51, lit_57, lit_58, lit_59, lit_60, lit_61, lit_63, lit_77, lit_100, lit_140, lit_168, lit_200, lit_393, lit_400, lit_900, lit_969, lit_1000, lit_1041, lit_1045, lit_1093, lit_1168, lit_1200, lit_3279, lit_3333, lit_4372, lit_9999, nI_10, if_false, if_true, a1, b1, nI_add]
        rw [E, d1]
      · rw [if_neg c2] at b2
        rw [bI_f (decide_eq_false c2)] at b1
        have e8 := b2.1
        have e10 : V2 1278 10 = nI T.length := (b2.tx hT1).1
        refine ⟨V2, ?_, a2.E.tr b2.E⟩
        have E : f_X8_readAll_9 (fuel + 1 + 1) (z + 1278) (nI k) (nI 1) (hp z X) = f_X8_readAll_9 (fuel + 1) (z + 1278) (nI (k + 1)) (nI 0) (hp z (V2, X.2)) := by
          rw [f_X8_readAll_9]
          simp (disch := first | assumption | omega) only [f_X8_readAll_9_body, m_rx0, m_rx1, m_rx2, m_rx3, m_rx4, m_ix, m_iO isB_3, m_iO isB_184, m_iO isB_365, m_iH, m_iX, m_iD, m_im, m_rm0, e_wi_t, e_wi_f, e_ro_t, e_ro_f, e8_wi_t, e8_wi_f, e8_ro_t, e8_ro_f, zbool_0, zbool_1, zb2_s, zif_t, zopt_n, zopt_s, b_s, znm_e, lit_0, lit_1, lit_2, lit_3, lit_4, lit_5, lit_6, lit_7, lit_8, lit_9, lit_10, lit_11, lit_12, lit_13, lit_17, lit_20, lit_23, lit_24, lit_43, lit_48, lit_51, lit_57, lit_58, lit_59, lit_60, lit_61, lit_63, lit_77, lit_100, lit_140, lit_168, lit_200, lit_393, lit_400, lit_900, lit_969, lit_1000, lit_1041, lit_1045, lit_1093, lit_1168, lit_1200, lit_3279, lit_3333, lit_4372, lit_9999, nI_10, if_false, if_true, a1, b1, nI_add]
        rw [E]
        by_cases c1 : (rsT T (rp T k)).2 = T.length
        · rw [if_pos c1]
          have cT : (T.length ≤ (rsT T (rp T k)).2) = True := eq_true (by omega)
          rw [f_X8_readAll_9]
          simp (disch := first | assumption | omega) only [f_X8_readAll_9_body, m_rx0, m_rx1, m_rx2, m_rx3, m_rx4, m_ix, m_iO isB_3, m_iO isB_184, m_iO isB_365, m_iH, m_iX, m_iD, m_im, m_rm0, e_wi_t, e_wi_f, e_ro_t, e_ro_f, e8_wi_t, e8_wi_f, e8_ro_t, e8_ro_f, zbool_0, zbool_1, zb2_s, zif_t, zopt_n, zopt_s, b_s, znm_e, lit_0, lit_1, lit_2, lit_3, lit_4, lit_5, lit_6, lit_7, lit_8, lit_9, lit_10, lit_11, lit_12, lit_13, lit_17, lit_20, lit_23, lit_24, lit_43, lit_48, lit_51, lit_57, lit_58, lit_59, lit_60, lit_61, lit_63, lit_77, lit_100, lit_140, lit_168, lit_200, lit_393, lit_400, lit_900, lit_969, lit_1000, lit_1041, lit_1045, lit_1093, lit_1168, lit_1200, lit_3279, lit_3333, lit_4372, lit_9999, nI_10, if_false, if_true, m_gm8, m_gm10, e8, e10, nI_leE, cT]
          rfl
        · rw [if_neg c1, if_neg c2]
          have cT : (T.length ≤ (rsT T (rp T k)).2) = False := eq_false (by omega)
          rw [f_X8_readAll_9]
          simp (disch := first | assumption | omega) only [f_X8_readAll_9_body, m_rx0, m_rx1, m_rx2, m_rx3, m_rx4, m_ix, m_iO isB_3, m_iO isB_184, m_iO isB_365, m_iH, m_iX, m_iD, m_im, m_rm0, e_wi_t, e_wi_f, e_ro_t, e_ro_f, e8_wi_t, e8_wi_f, e8_ro_t, e8_ro_f, zbool_0, zbool_1, zb2_s, zif_t, zopt_n, zopt_s, b_s, znm_e, lit_0, lit_1, lit_2, lit_3, lit_4, lit_5, lit_6, lit_7, lit_8, lit_9, lit_10, lit_11, lit_12, lit_13, lit_17, lit_20, lit_23, lit_24, lit_43, lit_48, lit_51, lit_57, lit_58, lit_59, lit_60, lit_61, lit_63, lit_77, lit_100, lit_140, lit_168, lit_200, lit_393, lit_400, lit_900, lit_969, lit_1000, lit_1041, lit_1045, lit_1093, lit_1168, lit_1200, lit_3279, lit_3333, lit_4372, lit_9999, nI_10, if_false, if_true, m_gm8, m_gm10, e8, e10, nI_leE, cT]
          rfl
theorem e8_ra {z : Nat} {X : pX} {T : List Int32} (hT : TxM X.1 T) (h60 : T.length ≤ 60) : ∃ V', f_X8_readAll (z + 1278) (hp z X) = some (rmI (raR T 6 0), hp z (V', X.2)) ∧ KE X.1 V' := by
  have kx : KM8 X.1 (sV X.1 1278 (upd (X.1 1278) 8 (nI 0))) 0 := KM8.up
  obtain ⟨V1, a1, a2⟩ := e8_raL (z := z) h60 6 zN 0 (sV X.1 1278 (upd (X.1 1278) 8 (nI 0)), X.2) (kx.tx hT) kx.1 (Nat.zero_le _) (Nat.le_refl _) (by omega) (zN_lt (by omega))
  refine ⟨V1, ?_, kx.E.tr a2⟩
  simp (disch := first | assumption | omega) only [f_X8_readAll, m_rx0, m_rx1, m_rx2, m_rx3, m_rx4, m_ix, m_iO isB_3, m_iO isB_184, m_iO isB_365, m_iH, m_iX, m_iD, m_im, m_rm0, e_wi_t, e_wi_f, e_ro_t, e_ro_f, e8_wi_t, e8_wi_f, e8_ro_t, e8_ro_f, zbool_0, zbool_1, zb2_s, zif_t, zopt_n, zopt_s, b_s, znm_e, lit_0, lit_1, lit_2, lit_3, lit_4, lit_5, lit_6, lit_7, lit_8, lit_9, lit_10, lit_11, lit_12, lit_13, lit_17, lit_20, lit_23, lit_24, lit_43, lit_48, lit_51, lit_57, lit_58, lit_59, lit_60, lit_61, lit_63, lit_77, lit_100, lit_140, lit_168, lit_200, lit_393, lit_400, lit_900, lit_969, lit_1000, lit_1041, lit_1045, lit_1093, lit_1168, lit_1200, lit_3279, lit_3333, lit_4372, lit_9999, nI_10, if_false, if_true, m_pm8]
  exact a1
theorem raR_q {T : List Int32} : ∀ (n k m q : Nat), rp T k ≤ T.length → raR T n k = (m, some q) → q ≤ T.length
  | 0, k, m, q, h, e => by cases e; exact h
  | n + 1, k, m, q, h, e => by
    have o := (rsT_ok (T := T) h).1
    unfold raR at e
    cases g : (rsT T (rp T k)).1 with
    | none =>
      rw [g] at e
      cases e
      exact o
    | some r =>
      rw [g] at e
      dsimp only at e
      by_cases c1 : (rsT T (rp T k)).2 = T.length
      · rw [if_pos c1] at e; cases e
      · rw [if_neg c1] at e
        by_cases c2 : T[(rsT T (rp T k)).2]? = some (nI 59)
        · rw [if_pos c2] at e
          have l2 := getE_lt c2
          exact raR_q n (k + 1) m q (by rw [rp_s]; omega) e
        · rw [if_neg c2] at e; cases e; exact o
/-- those that were read -/
theorem raR_m {T : List Int32} : ∀ (n k m : Nat), rp T k ≤ T.length → raR T n k = (m, none) → k ≤ m ∧ m ≤ k + n ∧ ∀ i, k ≤ i → i < m → rp T i ≤ T.length ∧ ∃ f st h v, (rsT T (rp T i)).1 = some (f, st, h, v)
  | 0, k, m, h, e => by cases e
  | n + 1, k, m, h, e => by
    unfold raR at e
    cases g : (rsT T (rp T k)).1 with
    | none => rw [g] at e; cases e
    | some r =>
      have gk : ∃ f st h v, (rsT T (rp T k)).1 = some (f, st, h, v) := ⟨r.1, r.2.1, r.2.2.1, r.2.2.2, g⟩
      rw [g] at e
      dsimp only at e
      by_cases c1 : (rsT T (rp T k)).2 = T.length
      · rw [if_pos c1] at e
        cases e
        exact ⟨by omega, by omega, fun i a b => by
          have : i = k := by omega
          rw [this]; exact ⟨h, gk⟩⟩
      · rw [if_neg c1] at e
        by_cases c2 : T[(rsT T (rp T k)).2]? = some (nI 59)
        · rw [if_pos c2] at e
          have l2 := getE_lt c2
          obtain ⟨a, b, c⟩ := raR_m n (k + 1) m (by rw [rp_s]; omega) e
          exact ⟨by omega, by omega, fun i x y => by
            by_cases d : i = k
            · rw [d]; exact ⟨h, gk⟩
            · exact c i (by omega) y⟩
        · rw [if_neg c2] at e; cases e
/-- the class's text read leaves the rest -/
theorem Bc.rd {X : pX} {V' : pV} {p : sS} {H : List sS} {K : Option sS} {T : List Int32} (h : Bc X p H K T) (hk : ∀ o, (o < 1272 ∨ o = 1273 ∨ 1277 < o) → V' o = X.1 o) (h1 : V' 1272 1 = X.1 1272 1) : Bc (V', X.2) p H K T := by
  obtain ⟨a, b, c, d, e, f, g⟩ := h
  refine ⟨a.mv rfl (fun o o1 o2 => hk o (by omega)), b.kept (hk 1 (by omega)) (hk 2 (by omega)), c, d, e.mv rfl (fun _ _ => rfl) (fun o o1 o2 => hk o (by omega)), f.mv (hk 0 (by omega)) rfl (fun o o1 o2 => hk o (by omega)), g.mv h1 (hk 1273 (by omega))⟩
theorem raI_n : raI none = -nI 5 := rfl
theorem raI_s {q : Nat} : raI (some q) = nI q := rfl
theorem rmI_n {m : Nat} : rmI (m, none) = nI m := rfl
theorem rmI_s {m q : Nat} : rmI (m, some q) = -nI 100 - nI q := rfl
theorem f8_n {z : Nat} {Y : pX} {V2 : pV} {w : Int32} (b1 : f_X8_readAll (z + 1278) (hp z Y) = some (w, hp z (V2, Y.2))) (l0 : (nI 0 ≤ w) = True) : f_X8_fault (z + 1278) (hp z Y) = some (-nI 5, hp z (V2, Y.2)) := by
  simp (disch := first | assumption | omega) only [f_X8_fault, m_rx0, m_rx1, m_rx2, m_rx3, m_rx4, m_ix, m_iO isB_3, m_iO isB_184, m_iO isB_365, m_iH, m_iX, m_iD, m_im, m_rm0, e_wi_t, e_wi_f, e_ro_t, e_ro_f, e8_wi_t, e8_wi_f, e8_ro_t, e8_ro_f, zbool_0, zbool_1, zb2_s, zif_t, zopt_n, zopt_s, b_s, znm_e, lit_0, lit_1, lit_2, lit_3, lit_4, lit_5, lit_6, lit_7, lit_8, lit_9, lit_10, lit_11, lit_12, lit_13, lit_17, lit_20, lit_23, lit_24, lit_43, lit_48, lit_51, lit_57, lit_58, lit_59, lit_60, lit_61, lit_63, lit_77, lit_100, lit_140, lit_168, lit_200, lit_393, lit_400, lit_900, lit_969, lit_1000, lit_1041, lit_1045, lit_1093, lit_1168, lit_1200, lit_3279, lit_3333, lit_4372, lit_9999, nI_10, if_false, if_true, b1, l0]
theorem f8_s {z : Nat} {Y : pX} {V2 : pV} {w v : Int32} (b1 : f_X8_readAll (z + 1278) (hp z Y) = some (w, hp z (V2, Y.2))) (l0 : (nI 0 ≤ w) = False) (l1 : -nI 100 - w = v) : f_X8_fault (z + 1278) (hp z Y) = some (v, hp z (V2, Y.2)) := by
  simp (disch := first | assumption | omega) only [f_X8_fault, m_rx0, m_rx1, m_rx2, m_rx3, m_rx4, m_ix, m_iO isB_3, m_iO isB_184, m_iO isB_365, m_iH, m_iX, m_iD, m_im, m_rm0, e_wi_t, e_wi_f, e_ro_t, e_ro_f, e8_wi_t, e8_wi_f, e8_ro_t, e8_ro_f, zbool_0, zbool_1, zb2_s, zif_t, zopt_n, zopt_s, b_s, znm_e, lit_0, lit_1, lit_2, lit_3, lit_4, lit_5, lit_6, lit_7, lit_8, lit_9, lit_10, lit_11, lit_12, lit_13, lit_17, lit_20, lit_23, lit_24, lit_43, lit_48, lit_51, lit_57, lit_58, lit_59, lit_60, lit_61, lit_63, lit_77, lit_100, lit_140, lit_168, lit_200, lit_393, lit_400, lit_900, lit_969, lit_1000, lit_1041, lit_1045, lit_1093, lit_1168, lit_1200, lit_3279, lit_3333, lit_4372, lit_9999, nI_10, if_false, if_true, b1, l0, l1]
theorem sm_fault {z : Nat} {X : pX} {p : sS} {H : List sS} {K : Option sS} {T : List Int32} (hp' : Pp p H K T) (hb : Bc X p H K T) : SmT (f_X7_fault z) (f_X8_fault (z + 1278)) z X p H K T := by
  have h60 := hp'.2.2.2
  obtain ⟨V1, a1, a2, a3, _⟩ := e6_ra (z := z) hb.2.2.2.2.2.2 h60
  have B8 := fun (Y : pX) (hT : TxM Y.1 T) => e8_ra (z := z) hT h60
  have Q := fun m q => raR_q (T := T) 6 0 m q (Nat.zero_le _)
  have M := fun m => raR_m (T := T) 6 0 m (Nat.zero_le _)
  obtain ⟨R, hR⟩ : ∃ R, R = raR T 6 0 := ⟨_, rfl⟩
  rw [← hR] at a1 B8 Q M
  clear hR
  obtain ⟨m, o⟩ := R
  dsimp only at a1
  refine ⟨raI o, (V1, X.2), p, H, K, T, ?_, fun o ho => a2 o (by omega), hp', hb.rd a2 a3, fun Y hY => ?_⟩
  · simp (disch := first | assumption | omega) only [f_X7_fault, m_rx0, m_rx1, m_rx2, m_rx3, m_rx4, m_ix, m_iO isB_3, m_iO isB_184, m_iO isB_365, m_iH, m_iX, m_iD, m_im, m_rm0, e_wi_t, e_wi_f, e_ro_t, e_ro_f, e8_wi_t, e8_wi_f, e8_ro_t, e8_ro_f, zbool_0, zbool_1, zb2_s, zif_t, zopt_n, zopt_s, b_s, znm_e, lit_0, lit_1, lit_2, lit_3, lit_4, lit_5, lit_6, lit_7, lit_8, lit_9, lit_10, lit_11, lit_12, lit_13, lit_17, lit_20, lit_23, lit_24, lit_43, lit_48, lit_51, lit_57, lit_58, lit_59, lit_60, lit_61, lit_63, lit_77, lit_100, lit_140, lit_168, lit_200, lit_393, lit_400, lit_900, lit_969, lit_1000, lit_1041, lit_1045, lit_1093, lit_1168, lit_1200, lit_3279, lit_3333, lit_4372, lit_9999, nI_10, if_false, if_true, a1]
  · obtain ⟨V2, b1, b2⟩ := B8 Y hY.2.2.2
    refine ⟨V2, ?_, fun o ho => b2.2 o (by omega) (by omega), hY.ke b2⟩
    cases o with
    | none =>
      have hm := (M m rfl).2.1
      exact f8_n b1 (eq_true (nI_le (Nat.zero_le _) (by omega)))
    | some q =>
      have hq := Q m q rfl
      exact f8_s b1 (no_ft (q := q) (by omega)) (sub_sub2 (-nI 100) (nI q))
