/-! the class reads the whole text -/
def RdS (V' V : pV) (k : Nat) (o : Option (Nat × Nat × Nat × Nat)) : Prop := match o with
  | none => True
  | some (f, st, h, v) => V' 1272 3 = nI (k + 1) ∧ V' 1274 = upd (V 1274) k (nI f) ∧ V' 1275 = upd (V 1275) k (nI st) ∧ V' 1276 = upd (V 1276) k (nI h) ∧ V' 1277 = upd (V 1277) k (nI v)
theorem bI_T : bI true = nI 1 := rfl
theorem bI_F : bI false = nI 0 := rfl
theorem zb_X {z : Nat} {X : pX} {f : Option (Int32 × zHp)} {r : Int32} {h' : zHp} {G : Int32 → zHp → Option (Int32 × zHp)} (h : f = some (r, h')) : zb2 (zif (zis (hp z X) (z + 1272) 6) f) G = G r h' := by rw [m_iX, h]; rfl
theorem n10 : ¬ nI 1 = nI 0 := by decide
theorem e6_rs {z : Nat} {X : pX} {T : List Int32} {p k : Nat} (hT : TxC X.1 T) (h60 : T.length ≤ 60) (hpp : p ≤ T.length) (h2 : X.1 1272 2 = nI p) (h3 : X.1 1272 3 = nI k) (hk : k < 6) : ∃ V', f_X6_readSailing (z + 1272) (hp z X) = some (bI (rsT T p).1.isSome, hp z (V', X.2)) ∧ V' 1272 2 = nI (rsT T p).2 ∧ V' 1272 1 = X.1 1272 1 ∧ (∀ o, o ≠ 1272 → (o < 1274 ∨ 1277 < o) → V' o = X.1 o) ∧ RdS V' X.1 k (rsT T p).1 := by
  have fin : ∀ {V' : pV} {q : Nat}, KX X.1 V' q → V' 1272 2 = nI q ∧ V' 1272 1 = X.1 1272 1 ∧ ∀ o, o ≠ 1272 → (o < 1274 ∨ 1277 < o) → V' o = X.1 o := fun h => ⟨h.1, h.2.1 1 (by omega), fun o ho _ => h.2.2 o ho⟩
  unfold rsT
  obtain ⟨V1, a1, a2⟩ := e6_num (z := z) (least := 0) (most := 5) hT h60 (by omega) h2 (by omega) (by omega)
  cases e1 : nu T 0 5 p with
  | none =>
    rw [e1] at a1 a2
    have a1 : f_X6_readNumber (z + 1272) (nI 0) (nI 5) (hp z X) = some (-nI 1, hp z (V1, X.2)) := a1
    have a2 : KX X.1 V1 p := a2
    have g := fin a2
    refine ⟨V1, ?_, g.1, g.2.1, g.2.2, trivial⟩
    refine (zb_X a1).trans ?_
    refine (if_pos rfl).trans ?_
    exact zbool_0
  | some r1 =>
    obtain ⟨f, p1⟩ := r1
    have o1 := nu_ok e1
    rw [e1] at a1 a2
    have a1 : f_X6_readNumber (z + 1272) (nI 0) (nI 5) (hp z X) = some (nI f, hp z (V1, X.2)) := a1
    have a2 : KX X.1 V1 p1 := a2
    have n1 := n_m1 (d := f) (by omega)
    dsimp only
    obtain ⟨V2, b1, b2⟩ := e6_acc (z := z) (X := (V1, X.2)) (a2.tx hT) h60 (p := p1) (by omega) a2.1 (nI 58)
    dsimp only at b1
    by_cases c1 : T[p1]? = some (nI 58)
    · have l1 := getE_lt c1
      rw [if_pos c1] at b2
      rw [bI_t (decide_eq_true c1)] at b1
      rw [if_pos c1]
      have k2 := a2.tr b2
      obtain ⟨V3, a3, a4⟩ := e6_num (z := z) (X := (V2, X.2)) (p := p1 + 1) (least := 0) (most := 900) (k2.tx hT) h60 (by omega) k2.1 (by omega) (by omega)
      dsimp only at a3
      cases e2 : nu T 0 900 (p1 + 1) with
      | none =>
        rw [e2] at a3 a4
        have a3 : f_X6_readNumber (z + 1272) (nI 0) (nI 900) (hp z (V2, X.2)) = some (-nI 1, hp z (V3, X.2)) := a3
        have a4 : KX V2 V3 (p1 + 1) := a4
        have g := fin (k2.tr a4)
        refine ⟨V3, ?_, g.1, g.2.1, g.2.2, trivial⟩
        refine (zb_X a1).trans ?_
        refine (if_neg (of_eq_false n1)).trans ?_
        refine (zb_X b1).trans ?_
        refine (if_neg n10).trans ?_
        refine (zb_X a3).trans ?_
        refine (if_pos rfl).trans ?_
        exact zbool_0
      | some r2 =>
        obtain ⟨st, p2⟩ := r2
        have o2 := nu_ok e2
        rw [e2] at a3 a4
        have a3 : f_X6_readNumber (z + 1272) (nI 0) (nI 900) (hp z (V2, X.2)) = some (nI st, hp z (V3, X.2)) := a3
        have a4 : KX V2 V3 p2 := a4
        have k3 := k2.tr a4
        have n2 := n_m1 (d := st) (by omega)
        dsimp only
        obtain ⟨V4, b3, b4⟩ := e6_acc (z := z) (X := (V3, X.2)) (k3.tx hT) h60 (p := p2) (by omega) k3.1 (nI 43)
        dsimp only at b3
        by_cases c2 : T[p2]? = some (nI 43)
        · have l2 := getE_lt c2
          rw [if_pos c2] at b4
          rw [bI_t (decide_eq_true c2)] at b3
          rw [if_pos c2]
          have k4 := k3.tr b4
          obtain ⟨V5, a5, a6⟩ := e6_num (z := z) (X := (V4, X.2)) (p := p2 + 1) (least := 1) (most := 12) (k4.tx hT) h60 (by omega) k4.1 (by omega) (by omega)
          dsimp only at a5
          cases e3 : nu T 1 12 (p2 + 1) with
          | none =>
            rw [e3] at a5 a6
            have a5 : f_X6_readNumber (z + 1272) (nI 1) (nI 12) (hp z (V4, X.2)) = some (-nI 1, hp z (V5, X.2)) := a5
            have a6 : KX V4 V5 (p2 + 1) := a6
            have g := fin (k4.tr a6)
            refine ⟨V5, ?_, g.1, g.2.1, g.2.2, trivial⟩
            refine (zb_X a1).trans ?_
            refine (if_neg (of_eq_false n1)).trans ?_
            refine (zb_X b1).trans ?_
            refine (if_neg n10).trans ?_
            refine (zb_X a3).trans ?_
            refine (if_neg (of_eq_false n2)).trans ?_
            refine (zb_X b3).trans ?_
            refine (if_neg n10).trans ?_
            refine (zb_X a5).trans ?_
            refine (if_pos rfl).trans ?_
            exact zbool_0
          | some r3 =>
            obtain ⟨h, p3⟩ := r3
            have o3 := nu_ok e3
            rw [e3] at a5 a6
            have a5 : f_X6_readNumber (z + 1272) (nI 1) (nI 12) (hp z (V4, X.2)) = some (nI h, hp z (V5, X.2)) := a5
            have a6 : KX V4 V5 p3 := a6
            have k5 := k4.tr a6
            have n3 := n_m1 (d := h) (by omega)
            dsimp only
            obtain ⟨V6, b5, b6⟩ := e6_acc (z := z) (X := (V5, X.2)) (k5.tx hT) h60 (p := p3) (by omega) k5.1 (nI 61)
            dsimp only at b5
            by_cases c3 : T[p3]? = some (nI 61)
            · have l3 := getE_lt c3
              rw [if_pos c3] at b6
              rw [bI_t (decide_eq_true c3)] at b5
              rw [if_pos c3]
              have k6 := k5.tr b6
              obtain ⟨V7, a7, a8⟩ := e6_setL (z := z) h60 4 zN 0 0 (p3 + 1) (V6, X.2) (k6.tx hT) k6.1 (by omega) (by omega) (by omega) (zN_lt (by omega))
              dsimp only at a7
              have a7 : f_X6_readSet (z + 1272) (hp z (V6, X.2)) = some (dI (seL T 4 0 (p3 + 1)).1, hp z (V7, X.2)) := by
                simp only [f_X6_readSet, lit_0, lit_1, lit_2, lit_3, lit_4, lit_5, lit_6, lit_7, lit_8, lit_9, lit_10, lit_11, lit_12, lit_13, lit_17, lit_20, lit_23, lit_24, lit_43, lit_48, lit_51, lit_57, lit_58, lit_59, lit_60, lit_61, lit_63, lit_77, lit_100, lit_140, lit_168, lit_200, lit_393, lit_400, lit_900, lit_969, lit_1000, lit_1041, lit_1045, lit_1093, lit_1168, lit_1200, lit_3279, lit_3333, lit_4372, lit_9999, a7]
              have a8 := k6.tr a8
              have sv := fun w hw => seL_v (T := T) (p := p3 + 1) (w := w) (by omega) hw
              cases e4 : seL T 4 0 (p3 + 1) with
              | mk o p4 =>
                rw [e4] at a7 a8 sv
                dsimp only at a7 a8 sv
                cases o with
                | none =>
                  have a7 : f_X6_readSet (z + 1272) (hp z (V6, X.2)) = some (-nI 1, hp z (V7, X.2)) := a7
                  have g := fin a8
                  refine ⟨V7, ?_, g.1, g.2.1, g.2.2, trivial⟩
                  refine (zb_X a1).trans ?_
                  refine (if_neg (of_eq_false n1)).trans ?_
                  refine (zb_X b1).trans ?_
                  refine (if_neg n10).trans ?_
                  refine (zb_X a3).trans ?_
                  refine (if_neg (of_eq_false n2)).trans ?_
                  refine (zb_X b3).trans ?_
                  refine (if_neg n10).trans ?_
                  refine (zb_X a5).trans ?_
                  refine (if_neg (of_eq_false n3)).trans ?_
                  refine (zb_X b5).trans ?_
                  refine (if_neg n10).trans ?_
                  refine (zb_X a7).trans ?_
                  refine (if_pos rfl).trans ?_
                  exact zbool_0
                | some v =>
                  have a7 : f_X6_readSet (z + 1272) (hp z (V6, X.2)) = some (nI v, hp z (V7, X.2)) := a7
                  have v9 := sv v rfl
                  have n4 := n_m1 (d := v) (by omega)
                  have k3' : V7 1272 3 = nI k := (a8.2.1 3 (by omega)).trans h3
                  have kT : (k < 6) = True := eq_true hk
                  obtain ⟨Va, hVa⟩ : ∃ Va, Va = sV V7 1274 (upd (V7 1274) k (nI f)) := ⟨_, rfl⟩
                  obtain ⟨Vb, hVb⟩ : ∃ Vb, Vb = sV Va 1275 (upd (Va 1275) k (nI st)) := ⟨_, rfl⟩
                  obtain ⟨Vc, hVc⟩ : ∃ Vc, Vc = sV Vb 1276 (upd (Vb 1276) k (nI h)) := ⟨_, rfl⟩
                  obtain ⟨Vd, hVd⟩ : ∃ Vd, Vd = sV Vc 1277 (upd (Vc 1277) k (nI v)) := ⟨_, rfl⟩
                  have ka : ∀ o, o ≠ 1274 → Va o = V7 o := fun o ho => by rw [hVa, sV_n ho]
                  have kb : ∀ o, o ≠ 1275 → Vb o = Va o := fun o ho => by rw [hVb, sV_n ho]
                  have kc : ∀ o, o ≠ 1276 → Vc o = Vb o := fun o ho => by rw [hVc, sV_n ho]
                  have kd : ∀ o, o ≠ 1277 → Vd o = Vc o := fun o ho => by rw [hVd, sV_n ho]
                  have t7 : V7 1272 3 = nI k := k3'
                  have ta : Va 1272 3 = nI k := by rw [ka 1272 (by omega)]; exact t7
                  have tb : Vb 1272 3 = nI k := by rw [kb 1272 (by omega)]; exact ta
                  have tc : Vc 1272 3 = nI k := by rw [kc 1272 (by omega)]; exact tb
                  have td : Vd 1272 3 = nI k := by rw [kd 1272 (by omega)]; exact tc
                  have e72 : Vd 1272 = V7 1272 := by rw [kd _ (by omega), kc _ (by omega), kb _ (by omega), ka _ (by omega)]
                  have w1 : zst (hp z (V7, X.2)) (z + 1274) 0 (nI k) (nI f) = some (hp z (Va, X.2)) := by rw [hVa]; exact m_st1274 hk
                  have w2 : zst (hp z (Va, X.2)) (z + 1275) 0 (nI k) (nI st) = some (hp z (Vb, X.2)) := by rw [hVb]; exact m_st1275 hk
                  have w3 : zst (hp z (Vb, X.2)) (z + 1276) 0 (nI k) (nI h) = some (hp z (Vc, X.2)) := by rw [hVc]; exact m_st1276 hk
                  have w4 : zst (hp z (Vc, X.2)) (z + 1277) 0 (nI k) (nI v) = some (hp z (Vd, X.2)) := by rw [hVd]; exact m_st1277 hk
                  refine ⟨sV Vd 1272 (upd (Vd 1272) 3 (nI (k + 1))), ?_, ?_, ?_, fun o o1 o2 => ?_, ?_, ?_, ?_, ?_, ?_⟩
                  · refine (zb_X a1).trans ?_
                    refine (if_neg (of_eq_false n1)).trans ?_
                    refine (zb_X b1).trans ?_
                    refine (if_neg n10).trans ?_
                    refine (zb_X a3).trans ?_
                    refine (if_neg (of_eq_false n2)).trans ?_
                    refine (zb_X b3).trans ?_
                    refine (if_neg n10).trans ?_
                    refine (zb_X a5).trans ?_
                    refine (if_neg (of_eq_false n3)).trans ?_
                    refine (zb_X b5).trans ?_
                    refine (if_neg n10).trans ?_
                    refine (zb_X a7).trans ?_
                    refine (if_neg (of_eq_false n4)).trans ?_
                    simp (disch := first | assumption | omega) only [m_rx0, m_rx1, m_rx2, m_rx3, m_rx4, m_ix, m_iO isB_3, m_iO isB_184, m_iO isB_365, m_iH, m_iX, m_iD, m_im, m_rm0, e_wi_t, e_wi_f, e_ro_t, e_ro_f, e8_wi_t, e8_wi_f, e8_ro_t, e8_ro_f, zbool_0, zbool_1, zb2_s, zif_t, zopt_n, zopt_s, b_s, znm_e, lit_0, lit_1, lit_2, lit_3, lit_4, lit_5, lit_6, lit_7, lit_8, lit_9, lit_10, lit_11, lit_12, lit_13, lit_17, lit_20, lit_23, lit_24, lit_43, lit_48, lit_51, lit_57, lit_58, lit_59, lit_60, lit_61, lit_63, lit_77, lit_100, lit_140, lit_168, lit_200, lit_393, lit_400, lit_900, lit_969, lit_1000, lit_1041, lit_1045, lit_1093, lit_1168, lit_1200, lit_3279, lit_3333, lit_4372, lit_9999, nI_10, if_false, if_true, m_gX3, t7, ta, tb, tc, td, e_wi_n, m_rX4, m_rX5, m_rX6, m_rX7, w1, w2, w3, w4, nI_add, m_pX3]
                    rfl
                  · rw [sV_s, pk_un (by omega), e72]; exact a8.1
                  · rw [sV_s, pk_un (by omega), e72]; exact a8.2.1 1 (by omega)
                  · rw [sV_n (by omega), kd _ (by omega), kc _ (by omega), kb _ (by omega), ka _ (by omega)]
                    exact a8.2.2 o o1
                  · rw [sV_s, pk_us]
                  · rw [sV_n (by omega), kd _ (by omega), kc _ (by omega), kb _ (by omega), hVa, sV_s, a8.2.2 _ (by omega)]
                  · rw [sV_n (by omega), kd _ (by omega), kc _ (by omega), hVb, sV_s, ka _ (by omega), a8.2.2 _ (by omega)]
                  · rw [sV_n (by omega), kd _ (by omega), hVc, sV_s, kb _ (by omega), ka _ (by omega), a8.2.2 _ (by omega)]
                  · rw [sV_n (by omega), hVd, sV_s, kc _ (by omega), kb _ (by omega), ka _ (by omega), a8.2.2 _ (by omega)]
            · rw [if_neg c3] at b6
              rw [bI_f (decide_eq_false c3)] at b5
              rw [if_neg c3]
              have g := fin (k5.tr b6)
              refine ⟨V6, ?_, g.1, g.2.1, g.2.2, trivial⟩
              refine (zb_X a1).trans ?_
              refine (if_neg (of_eq_false n1)).trans ?_
              refine (zb_X b1).trans ?_
              refine (if_neg n10).trans ?_
              refine (zb_X a3).trans ?_
              refine (if_neg (of_eq_false n2)).trans ?_
              refine (zb_X b3).trans ?_
              refine (if_neg n10).trans ?_
              refine (zb_X a5).trans ?_
              refine (if_neg (of_eq_false n3)).trans ?_
              refine (zb_X b5).trans ?_
              refine (if_pos rfl).trans ?_
              exact zbool_0
        · rw [if_neg c2] at b4
          rw [bI_f (decide_eq_false c2)] at b3
          rw [if_neg c2]
          have g := fin (k3.tr b4)
          refine ⟨V4, ?_, g.1, g.2.1, g.2.2, trivial⟩
          refine (zb_X a1).trans ?_
          refine (if_neg (of_eq_false n1)).trans ?_
          refine (zb_X b1).trans ?_
          refine (if_neg n10).trans ?_
          refine (zb_X a3).trans ?_
          refine (if_neg (of_eq_false n2)).trans ?_
          refine (zb_X b3).trans ?_
          refine (if_pos rfl).trans ?_
          exact zbool_0
    · rw [if_neg c1] at b2
      rw [bI_f (decide_eq_false c1)] at b1
      rw [if_neg c1]
      have g := fin (a2.tr b2)
      refine ⟨V2, ?_, g.1, g.2.1, g.2.2, trivial⟩
      refine (zb_X a1).trans ?_
      refine (if_neg (of_eq_false n1)).trans ?_
      refine (zb_X b1).trans ?_
      refine (if_pos rfl).trans ?_
      exact zbool_0
/-- where the sailings of the text begin -/
def rp (T : List Int32) : Nat → Nat
  | 0 => 0
  | k + 1 => (rsT T (rp T k)).2 + 1
def raR (T : List Int32) : Nat → Nat → Nat × Option Nat
  | 0, k => (k, some (rp T k))
  | n + 1, k => match (rsT T (rp T k)).1 with
    | none => (k, some (rsT T (rp T k)).2)
    | some _ => if (rsT T (rp T k)).2 = T.length then (k + 1, none) else if T[(rsT T (rp T k)).2]? = some (nI 59) then raR T n (k + 1) else (k + 1, some (rsT T (rp T k)).2)
def RdA (V : pV) (T : List Int32) (k : Nat) : Prop := ∀ i, i < k → ∀ f st h v, (rsT T (rp T i)).1 = some (f, st, h, v) → V 1274 i = nI f ∧ V 1275 i = nI st ∧ V 1276 i = nI h ∧ V 1277 i = nI v
theorem RdA.s {V V' : pV} {T : List Int32} {k : Nat} {o : Option (Nat × Nat × Nat × Nat)} (h : RdA V T k) (e : (rsT T (rp T k)).1 = o) (g : RdS V' V k o) (hs : o.isSome = true) : RdA V' T (k + 1) := by
  cases o with
  | none => cases hs
  | some r =>
    obtain ⟨f, st, hh, v⟩ := r
    obtain ⟨_, g1, g2, g3, g4⟩ := g
    intro i hi f' st' h' v' ei
    rw [g1, g2, g3, g4]
    by_cases c : i = k
    · subst c
      rw [e] at ei
      cases ei
      rw [pk_us, pk_us, pk_us, pk_us]
      exact ⟨rfl, rfl, rfl, rfl⟩
    · rw [pk_un c, pk_un c, pk_un c, pk_un c]
      exact h i (by omega) f' st' h' v' ei
def raI (o : Option Nat) : Int32 := match o with
  | none => -nI 5
  | some q => nI q
theorem e6_raL {z : Nat} {T : List Int32} (h60 : T.length ≤ 60) : ∀ (n fuel k : Nat) (X : pX), TxC X.1 T → X.1 1272 2 = nI (rp T k) → rp T k ≤ T.length → X.1 1272 3 = nI k → RdA X.1 T k → k + n = 6 → n < fuel → ∃ V', f_X6_readAll_12 fuel (z + 1272) (nI k) (hp z X) = some (raI (raR T n k).2, hp z (V', X.2)) ∧ (∀ o, (o < 1272 ∨ o = 1273 ∨ 1277 < o) → V' o = X.1 o) ∧ V' 1272 1 = X.1 1272 1 ∧ ∀ m, raR T n k = (m, none) → V' 1272 3 = nI m ∧ RdA V' T m := by
  intro n
  induction n with
  | zero =>
    intro fuel k X hT h2 hpl h3 hA hk hf
    obtain ⟨fuel, rfl⟩ : ∃ f, fuel = f + 1 := ⟨fuel - 1, by omega⟩
    obtain rfl : k = 6 := by omega
    refine ⟨X.1, ?_, fun _ _ => rfl, rfl, fun m e => by cases e⟩
    simp (disch := first | assumption | omega) only [f_X6_readAll_12, f_X6_readAll_12_body, m_rx0, m_rx1, m_rx2, m_rx3, m_rx4, m_ix, m_iO isB_3, m_iO isB_184, m_iO isB_365, m_iH, m_iX, m_iD, m_im, m_rm0, e_wi_t, e_wi_f, e_ro_t, e_ro_f, e8_wi_t, e8_wi_f, e8_ro_t, e8_ro_f, zbool_0, zbool_1, zb2_s, zif_t, zopt_n, zopt_s, b_s, znm_e, lit_0, lit_1, lit_2, lit_3, lit_4, lit_5, lit_6, lit_7, lit_8, lit_9, lit_10, lit_11, lit_12, lit_13, lit_17, lit_20, lit_23, lit_24, lit_43, lit_48, lit_51, lit_57, lit_58, lit_59, lit_60, lit_61, lit_63, lit_77, lit_100, lit_140, lit_168, lit_200, lit_393, lit_400, lit_900, lit_969, lit_1000, lit_1041, lit_1045, lit_1093, lit_1168, lit_1200, lit_3279, lit_3333, lit_4372, lit_9999, nI_10, if_false, if_true, nI_leE, Nat.le_refl, m_gX2, h2]
    rfl
  | succ n ih =>
    intro fuel k X hT h2 hpl h3 hA hk hf
    obtain ⟨fuel, rfl⟩ : ∃ f, fuel = f + 1 := ⟨fuel - 1, by omega⟩
    have k6 : (6 ≤ k) = False := eq_false (by omega)
    have hl : X.1 1272 1 = nI T.length := hT.1
    obtain ⟨V1, a1, a2, a3, a4, a5⟩ := e6_rs (z := z) hT h60 hpl h2 h3 (by omega)
    obtain ⟨o1, o2, o3⟩ := rsT_ok (T := T) hpl
    have hT1 : TxC V1 T := hT.mv a3 (a4 1273 (by omega) (by omega))
    have hl1 : V1 1272 1 = nI T.length := hT1.1
    have lo : ∀ o, (o < 1272 ∨ o = 1273 ∨ 1277 < o) → V1 o = X.1 o := fun o ho => a4 o (by omega) (by omega)
    unfold raR
    cases e : (rsT T (rp T k)).1 with
    | none =>
      rw [e] at a1
      have a1 : f_X6_readSailing (z + 1272) (hp z X) = some (nI 0, hp z (V1, X.2)) := a1
      refine ⟨V1, ?_, lo, a3, fun m e => by cases e⟩
      simp (disch := first | assumption | omega) only [f_X6_readAll_12, f_X6_readAll_12_body, m_rx0, m_rx1, m_rx2, m_rx3, m_rx4, m_ix, m_iO isB_3, m_iO isB_184, m_iO isB_365, m_iH, m_iX, m_iD, m_im, m_rm0, e_wi_t, e_wi_f, e_ro_t, e_ro_f, e8_wi_t, e8_wi_f, e8_ro_t, e8_ro_f, zbool_0, zbool_1, zb2_s, zif_t, zopt_n, zopt_s, b_s, znm_e, lit_0, lit_1, lit_2, lit_3, lit_4, lit_5, lit_6, lit_7, lit_8, lit_9, lit_10, lit_11, lit_12, lit_13, lit_17, lit_20, lit_23, lit_24, lit_43, lit_48, lit_51, lit_57, lit_58, lit_59, lit_60, lit_61, lit_63, lit_77, lit_100, lit_140, lit_168, lit_200, lit_393, lit_400, lit_900, lit_969, lit_1000, lit_1041, lit_1045, lit_1093, lit_1168, lit_1200, lit_3279, lit_3333, lit_4372, lit_9999, nI_10, if_false, if_true, nI_leE, k6, a1, m_gX2, a2]
      rfl
    | some r =>
      rw [e] at a1 a5
      have a1 : f_X6_readSailing (z + 1272) (hp z X) = some (nI 1, hp z (V1, X.2)) := a1
      have hA1 : RdA V1 T (k + 1) := hA.s e a5 rfl
      have t3 : V1 1272 3 = nI (k + 1) := a5.1
      dsimp only
      by_cases c1 : (rsT T (rp T k)).2 = T.length
      · rw [if_pos c1]
        have cT : (nI (rsT T (rp T k)).2 = nI T.length) = True := eq_true (by rw [c1])
        refine ⟨V1, ?_, lo, a3, fun m e => by cases e; exact ⟨t3, hA1⟩⟩
        simp (disch := first | assumption | omega) only [f_X6_readAll_12, f_X6_readAll_12_body, m_rx0, m_rx1, m_rx2, m_rx3, m_rx4, m_ix, m_iO isB_3, m_iO isB_184, m_iO isB_365, m_iH, m_iX, m_iD, m_im, m_rm0, e_wi_t, e_wi_f, e_ro_t, e_ro_f, e8_wi_t, e8_wi_f, e8_ro_t, e8_ro_f, zbool_0, zbool_1, zb2_s, zif_t, zopt_n, zopt_s, b_s, znm_e, lit_0, lit_1, lit_2, lit_3, lit_4, lit_5, lit_6, lit_7, lit_8, lit_9, lit_10, lit_11, lit_12, lit_13, lit_17, lit_20, lit_23, lit_24, lit_43, lit_48, lit_51, lit_57, lit_58, lit_59, lit_60, lit_61, lit_63, lit_77, lit_100, lit_140, lit_168, lit_200, lit_393, lit_400, lit_900, lit_969, lit_1000, lit_1041, lit_1045, lit_1093, lit_1168, lit_1200, lit_3279, lit_3333, lit_4372, lit_9999, nI_10, if_false, if_true, nI_leE, k6, a1, m_gX1, m_gX2, a2, hl1, cT]
        rfl
      · rw [if_neg c1]
        have cT := ne_eqF c1 (by omega) (by omega)
        obtain ⟨V2, b1, b2⟩ := e6_acc (z := z) (X := (V1, X.2)) hT1 h60 (p := (rsT T (rp T k)).2) (by omega) a2 (nI 59)
        dsimp only at b1
        by_cases c2 : T[(rsT T (rp T k)).2]? = some (nI 59)
        · rw [if_pos c2] at b2
          rw [bI_t (decide_eq_true c2)] at b1
          rw [if_pos c2]
          have l2 := getE_lt c2
          have hA2 : RdA V2 T (k + 1) := fun i hi f st h v ei => by
            have := hA1 i hi f st h v ei
            rw [b2.2.2 1274 (by omega), b2.2.2 1275 (by omega), b2.2.2 1276 (by omega), b2.2.2 1277 (by omega)]
            exact this
          obtain ⟨V3, d1, d2, d3, d4⟩ := ih fuel (k + 1) (V2, X.2) (b2.tx hT1) b2.1 (by show (rsT T (rp T k)).2 + 1 ≤ T.length; omega) ((b2.2.1 3 (by omega)).trans t3) hA2 (by omega) (by omega)
          dsimp only at d1 d3
          refine ⟨V3, ?_, fun o ho => (d2 o ho).trans ((b2.2.2 o (by omega)).trans (lo o ho)), d3.trans ((b2.2.1 1 (by omega)).trans a3), d4⟩
          simp (disch := first | assumption | omega) only [f_X6_readAll_12, f_X6_readAll_12_body, m_rx0, m_rx1, m_rx2, m_rx3, m_rx4, m_ix, m_iO isB_3, m_iO isB_184, m_iO isB_365, m_iH, m_iX, m_iD, m_im, m_rm0, e_wi_t, e_wi_f, e_ro_t, e_ro_f, e8_wi_t, e8_wi_f, e8_ro_t, e8_ro_f, zbool_0, zbool_1, zb2_s, zif_t, zopt_n, zopt_s, b_s, znm_e, lit_0, lit_1, lit_2, lit_3, lit_4, lit_5, lit_6, lit_7, lit_8, lit_9, lit_10, lit_11, lit_12, lit_13, lit_17, lit_20, lit_23, lit_24, lit_43, lit_48, lit_51, lit_57, lit_58, lit_59, lit_60, lit_61, lit_63, lit_77, lit_100, lit_140, lit_168, lit_200, lit_393, lit_400, lit_900, lit_969, lit_1000, lit_1041, lit_1045, lit_1093, lit_1168, lit_1200, lit_3279, lit_3333, lit_4372, lit_9999, nI_10, if_false, if_true, nI_leE, k6, a1, m_gX1, m_gX2, a2, hl1, cT, b1, nI_add, d1]
        · rw [if_neg c2] at b2
          rw [bI_f (decide_eq_false c2)] at b1
          rw [if_neg c2]
          have e2 := b2.1
          refine ⟨V2, ?_, fun o ho => (b2.2.2 o (by omega)).trans (lo o ho), (b2.2.1 1 (by omega)).trans a3, fun m e => by cases e⟩
          simp (disch := first | assumption | omega) only [f_X6_readAll_12, f_X6_readAll_12_body, m_rx0, m_rx1, m_rx2, m_rx3, m_rx4, m_ix, m_iO isB_3, m_iO isB_184, m_iO isB_365, m_iH, m_iX, m_iD, m_im, m_rm0, e_wi_t, e_wi_f, e_ro_t, e_ro_f, e8_wi_t, e8_wi_f, e8_ro_t, e8_ro_f, zbool_0, zbool_1, zb2_s, zif_t, zopt_n, zopt_s, b_s, znm_e, lit_0, lit_1, lit_2, lit_3, lit_4, lit_5, lit_6, lit_7, lit_8, lit_9, lit_10, lit_11, lit_12, lit_13, lit_17, lit_20, lit_23, lit_24, lit_43, lit_48, lit_51, lit_57, lit_58, lit_59, lit_60, lit_61, lit_63, lit_77, lit_100, lit_140, lit_168, lit_200, lit_393, lit_400, lit_900, lit_969, lit_1000, lit_1041, lit_1045, lit_1093, lit_1168, lit_1200, lit_3279, lit_3333, lit_4372, lit_9999, nI_10, if_false, if_true, nI_leE, k6, a1, m_gX1, m_gX2, a2, hl1, cT, b1, e2]
          rfl
theorem e6_ra {z : Nat} {X : pX} {T : List Int32} (hT : TxC X.1 T) (h60 : T.length ≤ 60) : ∃ V', f_X6_readAll (z + 1272) (hp z X) = some (raI (raR T 6 0).2, hp z (V', X.2)) ∧ (∀ o, (o < 1272 ∨ o = 1273 ∨ 1277 < o) → V' o = X.1 o) ∧ V' 1272 1 = X.1 1272 1 ∧ ∀ m, raR T 6 0 = (m, none) → V' 1272 3 = nI m ∧ RdA V' T m := by
  obtain ⟨Va, hVa⟩ : ∃ Va, Va = sV X.1 1272 (upd (X.1 1272) 2 (nI 0)) := ⟨_, rfl⟩
  obtain ⟨Vb, hVb⟩ : ∃ Vb, Vb = sV Va 1272 (upd (Va 1272) 3 (nI 0)) := ⟨_, rfl⟩
  have w1 : zpV (hp z X) (z + 1272) 6 2 (.int (nI 0)) = some (hp z (Va, X.2)) := by rw [hVa]; exact m_pX2
  have w2 : zpV (hp z (Va, X.2)) (z + 1272) 6 3 (.int (nI 0)) = some (hp z (Vb, X.2)) := by rw [hVb]; exact m_pX3
  have k0 : ∀ o, o ≠ 1272 → Vb o = X.1 o := fun o ho => by rw [hVb, sV_n ho, hVa, sV_n ho]
  have t1 : Vb 1272 1 = X.1 1272 1 := by rw [hVb, sV_s, pk_un (by omega), hVa, sV_s, pk_un (by omega)]
  have t2 : Vb 1272 2 = nI 0 := by rw [hVb, sV_s, pk_un (by omega), hVa, sV_s, pk_us]
  have t3 : Vb 1272 3 = nI 0 := by rw [hVb, sV_s, pk_us]
  obtain ⟨V1, a1, a2, a3, a4⟩ := e6_raL (z := z) h60 6 zN 0 (Vb, X.2) (hT.mv t1 (k0 1273 (by omega))) t2 (Nat.zero_le _) t3 (fun i hi => by omega) (by omega) (zN_lt (by omega))
  refine ⟨V1, ?_, fun o ho => (a2 o ho).trans (k0 o (by omega)), a3.trans t1, a4⟩
  simp (disch := first | assumption | omega) only [f_X6_readAll, m_rx0, m_rx1, m_rx2, m_rx3, m_rx4, m_ix, m_iO isB_3, m_iO isB_184, m_iO isB_365, m_iH, m_iX, m_iD, m_im, m_rm0, e_wi_t, e_wi_f, e_ro_t, e_ro_f, e8_wi_t, e8_wi_f, e8_ro_t, e8_ro_f, zbool_0, zbool_1, zb2_s, zif_t, zopt_n, zopt_s, b_s, znm_e, lit_0, lit_1, lit_2, lit_3, lit_4, lit_5, lit_6, lit_7, lit_8, lit_9, lit_10, lit_11, lit_12, lit_13, lit_17, lit_20, lit_23, lit_24, lit_43, lit_48, lit_51, lit_57, lit_58, lit_59, lit_60, lit_61, lit_63, lit_77, lit_100, lit_140, lit_168, lit_200, lit_393, lit_400, lit_900, lit_969, lit_1000, lit_1041, lit_1045, lit_1093, lit_1168, lit_1200, lit_3279, lit_3333, lit_4372, lit_9999, nI_10, if_false, if_true, w1, w2, a1]
