/-! sailings() -/
theorem f7s_x {z : Nat} {X : pX} {V2 : pV} {w v : Int32} (b1 : f_X6_readAll (z + 1272) (hp z X) = some (w, hp z (V2, X.2))) (l0 : (w = -nI 5) = False) (l1 : -nI 100 - w = v) : f_X7_sailings z (hp z X) = some (v, hp z (V2, X.2)) := by
  simp (disch := first | assumption | omega) only [f_X7_sailings, m_rx0, m_rx1, m_rx2, m_rx3, m_rx4, m_ix, m_iO isB_3, m_iO isB_184, m_iO isB_365, m_iH, m_iX, m_iD, m_im, m_rm0, e_wi_t, e_wi_f, e_ro_t, e_ro_f, e8_wi_t, e8_wi_f, e8_ro_t, e8_ro_f, zbool_0, zbool_1, zb2_s, zif_t, zopt_n, zopt_s, b_s, znm_e, lit_0, lit_1, lit_2, lit_3, lit_4, lit_5, lit_6, lit_7, lit_8, lit_9, lit_10, lit_11, lit_12, lit_13, lit_17, lit_20, lit_23, lit_24, lit_43, lit_48, lit_51, lit_57, lit_58, lit_59, lit_60, lit_61, lit_63, lit_77, lit_100, lit_140, lit_168, lit_200, lit_393, lit_400, lit_900, lit_969, lit_1000, lit_1041, lit_1045, lit_1093, lit_1168, lit_1200, lit_3279, lit_3333, lit_4372, lit_9999, nI_10, if_false, if_true, b1, l0, l1]
theorem f8s_x {z : Nat} {Y : pX} {V2 : pV} {w : Int32} (b1 : f_X8_readAll (z + 1278) (hp z Y) = some (w, hp z (V2, Y.2))) (l0 : (nI 0 ≤ w) = False) : f_X8_sailings (z + 1278) (hp z Y) = some (w, hp z (V2, Y.2)) := by
  simp (disch := first | assumption | omega) only [f_X8_sailings, m_rx0, m_rx1, m_rx2, m_rx3, m_rx4, m_ix, m_iO isB_3, m_iO isB_184, m_iO isB_365, m_iH, m_iX, m_iD, m_im, m_rm0, e_wi_t, e_wi_f, e_ro_t, e_ro_f, e8_wi_t, e8_wi_f, e8_ro_t, e8_ro_f, zbool_0, zbool_1, zb2_s, zif_t, zopt_n, zopt_s, b_s, znm_e, lit_0, lit_1, lit_2, lit_3, lit_4, lit_5, lit_6, lit_7, lit_8, lit_9, lit_10, lit_11, lit_12, lit_13, lit_17, lit_20, lit_23, lit_24, lit_43, lit_48, lit_51, lit_57, lit_58, lit_59, lit_60, lit_61, lit_63, lit_77, lit_100, lit_140, lit_168, lit_200, lit_393, lit_400, lit_900, lit_969, lit_1000, lit_1041, lit_1045, lit_1093, lit_1168, lit_1200, lit_3279, lit_3333, lit_4372, lit_9999, nI_10, if_false, if_true, b1, l0]
theorem Bc.kw {X : pX} {V' : pV} {w : Nat → Nat} {p : sS} {H : List sS} {K : Option sS} {T : List Int32} (h : Bc X p H K T) (hk : KpT X.1 V') (hd : DuE V') (hw : Ord w) : Bc (V', sW X.2.1 365 w, X.2.2) p H K T := by
  obtain ⟨a, b, c, d, e, f, g⟩ := h
  have w1 : ∀ b, b ≠ 365 → sW X.2.1 365 w b = X.2.1 b := fun b hb => sW_n hb
  refine ⟨a.mv (w1 3 (by omega)) (fun o o1 o2 => hk o (by omega) (by omega) (by omega)), hd, by dsimp only; rw [w1 184 (by omega)]; exact c, by dsimp only; rw [sW_s]; exact hw, e.mv rfl (fun b hb => w1 b (by omega)) (fun o o1 o2 => hk o (by omega) (by omega) (by omega)), f.mv (hk 0 (by omega) (by omega) (by omega)) (w1 184 (by omega)) (fun o o1 o2 => hk o (by omega) (by omega) (by omega)), g.mv (congrFun (hk 1272 (by omega) (by omega) (by omega)) 1) (hk 1273 (by omega) (by omega) (by omega))⟩
theorem l00 : (nI 0 ≤ nI 0) = True := eq_true (by decide)
/-- the reference's part when none is refused, or one is -/
theorem e8_sails {z : Nat} {T : List Int32} {m : Nat} (h60 : T.length ≤ 60) (hm : m ≤ 6) (hq : ∀ i, i < m → rp T i ≤ T.length ∧ ∃ f st h v, (rsT T (rp T i)).1 = some (f, st, h, v)) {Y : pX} {p : sS} {H : List sS} {K : Option sS} (hY : Bm Y.1 p H K T) (hB : RB p.1) {V1 : pV} (b1 : f_X8_readAll (z + 1278) (hp z Y) = some (nI m, hp z (V1, Y.2))) (b2 : KE Y.1 V1) : (erR T m 0 p.1 = nI 0 → ∃ V2, f_X8_sailings (z + 1278) (hp z Y) = some (nI m, hp z (V2, Y.2)) ∧ (∀ o, o < 1278 → V2 o = Y.1 o) ∧ ∀ q : sS, q.1 = adF T m 0 p.1 → Bm V2 q (rec4 H p) K T) ∧ (erR T m 0 p.1 ≠ nI 0 → (nI 0 ≤ erR T m 0 p.1) = False → ∃ V2, f_X8_sailings (z + 1278) (hp z Y) = some (erR T m 0 p.1, hp z (V2, Y.2)) ∧ (∀ o, o < 1278 → V2 o = Y.1 o) ∧ Bm V2 p H K T) := by
  have m1 := hY.ke b2
  have lm : (nI 0 ≤ nI m) = True := eq_true (nI_le (Nat.zero_le _) (by omega))
  obtain ⟨V2, c1, c2, c3⟩ := e8_lay (z := z) (X := (V1, Y.2)) m1.1
  dsimp only at c1
  have m2 : Bm V2 p H K T := m1.up (fun o ho => c2 o (by omega)) (m1.1.kept (c2 1279 (by omega)))
  obtain ⟨V3, hV3⟩ : ∃ V3, V3 = sV V2 1278 (upd (V2 1278) 8 (nI 0)) := ⟨_, rfl⟩
  have w3 : zpV (hp z (V2, Y.2)) (z + 1278) 8 8 (.int (nI 0)) = some (hp z (V3, Y.2)) := by rw [hV3]; exact m_pm8
  have kf3 : KF V2 V3 := by rw [hV3]; exact KF.p8
  have t8 : V3 1278 8 = nI 0 := by rw [hV3, sV_s, pk_us]
  have r3 : RoC V3 p.1 := m2.1.kept (by rw [hV3, sV_n (by omega)])
  have ra3 : RoA 1281 V3 p.1 := c3.kept (by rw [hV3, sV_n (by omega)])
  obtain ⟨F, hF⟩ : ∃ F, zN = F + m + 1 := ⟨zN - m - 1, by have := zN_eq; omega⟩
  obtain ⟨V4, d1, d2, d3, d4⟩ := e8_sL1 (z := z) h60 hm hq (s0 := p.1) m F 0 (V3, Y.2) p.1 r3 hB ra3 (kf3.tx m2.2.2.2) t8 (by omega)
  dsimp only at d1 d2
  rw [← hF] at d1
  have S : f_X8_sailings (z + 1278) (hp z Y) = f_X8_sailings_22 zN (z + 1278) (nI m) (nI 0) (hp z (V3, Y.2)) := by
    simp (disch := first | assumption | omega) only [f_X8_sailings, m_rx0, m_rx1, m_rx2, m_rx3, m_rx4, m_ix, m_iO isB_3, m_iO isB_184, m_iO isB_365, m_iH, m_iX, m_iD, m_im, m_rm0, e_wi_t, e_wi_f, e_ro_t, e_ro_f, e8_wi_t, e8_wi_f, e8_ro_t, e8_ro_f, zbool_0, zbool_1, zb2_s, zif_t, zopt_n, zopt_s, b_s, znm_e, lit_0, lit_1, lit_2, lit_3, lit_4, lit_5, lit_6, lit_7, lit_8, lit_9, lit_10, lit_11, lit_12, lit_13, lit_17, lit_20, lit_23, lit_24, lit_43, lit_48, lit_51, lit_57, lit_58, lit_59, lit_60, lit_61, lit_63, lit_77, lit_100, lit_140, lit_168, lit_200, lit_393, lit_400, lit_900, lit_969, lit_1000, lit_1041, lit_1045, lit_1093, lit_1168, lit_1200, lit_3279, lit_3333, lit_4372, lit_9999, nI_10, if_false, if_true, b1, lm, c1, w3]
  have lo4 : ∀ o, o < 1278 → V4 o = Y.1 o := fun o ho => by
    rw [d2.2 o (by omega) (by omega) (by omega) (by omega), kf3.2 o (by omega) (by omega) (by omega) (by omega), c2 o (by omega)]
    exact b2.2 o (by omega) (by omega)
  refine ⟨fun he => ?_, fun he hl => ?_⟩
  · rw [if_pos he] at d1
    have ra4 : RoA 1281 V4 p.1 := ra3.kept (d2.2 1281 (by omega) (by omega) (by omega) (by omega))
    obtain ⟨V5, g1, g2, g3⟩ := e8_tbk (z := z) (X := (V4, Y.2)) ra4
    dsimp only at g1
    have m5 : Bm V5 p H K T := m2.kf ((kf3.tr d2).tr ⟨fun i _ => by rw [g2 1278 (by omega)], fun o _ hb _ _ => g2 o hb⟩) g3
    obtain ⟨V6, j1, j2, j3⟩ := m_rec (z := z) (Y := (V5, Y.2)) m5
    dsimp only at j1 j2
    obtain ⟨V7, hV7⟩ : ∃ V7, V7 = sV V6 1278 (upd (V6 1278) 8 (nI 0)) := ⟨_, rfl⟩
    have w7 : zpV (hp z (V6, Y.2)) (z + 1278) 8 8 (.int (nI 0)) = some (hp z (V7, Y.2)) := by rw [hV7]; exact m_pm8
    have kf7 : KF V6 V7 := by rw [hV7]; exact KF.p8
    have t87 : V7 1278 8 = nI 0 := by rw [hV7, sV_s, pk_us]
    have r7 : RoC V7 p.1 := j3.1.kept (by rw [hV7, sV_n (by omega)])
    obtain ⟨V8, i1, i2, i3⟩ := e8_sL2 (z := z) h60 hm hq m zN 0 (V7, Y.2) p.1 r7 hB (kf7.tx j3.2.2.2) t87 (by omega) (zN_lt (by omega)) he
    dsimp only at i1 i2
    have cT : (m ≤ m) = True := eq_true (Nat.le_refl _)
    have E : f_X8_sailings_22 (F + 1) (z + 1278) (nI m) (nI m) (hp z (V4, Y.2)) = f_X8_sailings_22_body (f_X8_sailings_22 F) (z + 1278) (nI m) (nI m) (hp z (V4, Y.2)) := rfl
    refine ⟨V8, ?_, fun o ho => ?_, fun q hq => j3.kf (kf7.tr i2) (by rw [hq]; exact i3)⟩
    · rw [S, d1, E]
      simp (disch := first | assumption | omega) only [f_X8_sailings_22_body, m_rx0, m_rx1, m_rx2, m_rx3, m_rx4, m_ix, m_iO isB_3, m_iO isB_184, m_iO isB_365, m_iH, m_iX, m_iD, m_im, m_rm0, e_wi_t, e_wi_f, e_ro_t, e_ro_f, e8_wi_t, e8_wi_f, e8_ro_t, e8_ro_f, zbool_0, zbool_1, zb2_s, zif_t, zopt_n, zopt_s, b_s, znm_e, lit_0, lit_1, lit_2, lit_3, lit_4, lit_5, lit_6, lit_7, lit_8, lit_9, lit_10, lit_11, lit_12, lit_13, lit_17, lit_20, lit_23, lit_24, lit_43, lit_48, lit_51, lit_57, lit_58, lit_59, lit_60, lit_61, lit_63, lit_77, lit_100, lit_140, lit_168, lit_200, lit_393, lit_400, lit_900, lit_969, lit_1000, lit_1041, lit_1045, lit_1093, lit_1168, lit_1200, lit_3279, lit_3333, lit_4372, lit_9999, nI_10, if_false, if_true, nI_leE, cT, g1, j1, w7, i1]
    · rw [i2.2 o (by omega) (by omega) (by omega) (by omega), kf7.2 o (by omega) (by omega) (by omega) (by omega), j2 o ho, g2 o (by omega)]
      exact lo4 o ho
  · rw [if_neg he] at d1
    exact ⟨V4, by rw [S]; exact d1, lo4, m2.kf (kf3.tr d2) (d4 he)⟩
theorem sm_sailings {z : Nat} {X : pX} {p : sS} {H : List sS} {K : Option sS} {T : List Int32} (hp' : Pp p H K T) (hb : Bc X p H K T) : SmT (f_X7_sailings z) (f_X8_sailings (z + 1278)) z X p H K T := by
  have h60 := hp'.2.2.2
  obtain ⟨V1, a1, a2, a3, a4⟩ := e6_ra (z := z) hb.2.2.2.2.2.2 h60
  have B8 := fun (Y : pX) (hT : TxM Y.1 T) => e8_ra (z := z) hT h60
  have Q := fun m q => raR_q (T := T) 6 0 m q (Nat.zero_le _)
  have M := fun m => raR_m (T := T) 6 0 m (Nat.zero_le _)
  obtain ⟨R, hR⟩ : ∃ R, R = raR T 6 0 := ⟨_, rfl⟩
  rw [← hR] at a1 a4 B8 Q M
  clear hR
  obtain ⟨m, o⟩ := R
  dsimp only at a1
  have hb1 := hb.rd a2 a3
  cases o with
  | some q =>
    have hq := Q m q rfl
    rw [raI_s] at a1
    have n5 := nI_ne5 (j := q) (by omega)
    refine ⟨-nI 100 - nI q, (V1, X.2), p, H, K, T, f7s_x a1 n5 rfl, fun o ho => a2 o (by omega), hp', hb1, fun Y hY => ?_⟩
    obtain ⟨V2, b1, b2⟩ := B8 Y hY.2.2.2
    rw [rmI_s] at b1
    exact ⟨V2, f8s_x b1 (no_ft (q := q) (by omega)), fun o ho => b2.2 o (by omega) (by omega), hY.ke b2⟩
  | none =>
    obtain ⟨_, hm, hq⟩ := M m rfl
    have hq : ∀ i, i < m → rp T i ≤ T.length ∧ ∃ f st h v, (rsT T (rp T i)).1 = some (f, st, h, v) := fun i hi => hq i (Nat.zero_le _) hi
    have hm : m ≤ 6 := by omega
    obtain ⟨t3, hA⟩ := a4 m rfl
    rw [raI_n] at a1
    obtain ⟨V2, k1, k2, k3⟩ := e_copy (z := z) (X := (V1, X.2)) isB_365 isB_3 (by omega) hb1.1 hb1.2.2.2.1
    dsimp only at k1 k2
    have d2 : DuE V2 := hb1.2.1.kept (k2 1 (by omega)) (k2 2 (by omega))
    have A2 : RdA V2 T m := fun i hi f' st' h' v' ei => by
      have := hA i hi f' st' h' v' ei
      rw [k2 1274 (by omega), k2 1275 (by omega), k2 1276 (by omega), k2 1277 (by omega)]
      exact this
    obtain ⟨V3, W3, g1, g2, g3, g4, g5, g6⟩ := e7_adL (z := z) hm hq m zN 0 (V2, X.2) p.1 p.2 k3 hp'.1 d2 (by dsimp only; rw [k2 1272 (by omega)]; exact t3) A2 (by omega) (zN_lt (by omega))
    dsimp only at g1 g2 g5
    have g1 : f_X7_addReadSailings z (z + 365) (hp z (V2, X.2)) = some (erR T m 0 p.1, hp z (V3, sW X.2.1 365 W3, X.2.2)) := by
      simp only [f_X7_addReadSailings, lit_0, lit_1, lit_2, lit_3, lit_4, lit_5, lit_6, lit_7, lit_8, lit_9, lit_10, lit_11, lit_12, lit_13, lit_17, lit_20, lit_23, lit_24, lit_43, lit_48, lit_51, lit_57, lit_58, lit_59, lit_60, lit_61, lit_63, lit_77, lit_100, lit_140, lit_168, lit_200, lit_393, lit_400, lit_900, lit_969, lit_1000, lit_1041, lit_1045, lit_1093, lit_1168, lit_1200, lit_3279, lit_3333, lit_4372, lit_9999, g1]
    have kT : KpT V1 V3 := fun o a b c => (g2 o a b c).trans (k2 o (by omega))
    have hb3 : Bc (V3, sW X.2.1 365 W3, X.2.2) p H K T := hb1.kw kT g3 g4
    have hi3 : ∀ o, 1278 ≤ o → V3 o = X.1 o := fun o ho => (kT o (by omega) (by omega) (by omega)).trans (a2 o (by omega))
    have S8 := fun (Y : pX) (hY : Bm Y.1 p H K T) (V1 : pV) b1 b2 => e8_sails (z := z) h60 hm hq hY hp'.1.B (V1 := V1) b1 b2
    have m5 : (-nI 5 = -nI 5) = True := eq_true rfl
    have t33 : V3 1272 3 = nI m := by rw [kT 1272 (by omega) (by omega) (by omega)]; exact t3
    generalize hE : erR T m 0 p.1 = E at g1 g5 g6 S8
    by_cases c : E = nI 0
    · obtain ⟨σ', y1, y2⟩ := g5 c
      rw [c] at g1
      obtain ⟨V4, t4, q1, q2, q3⟩ := c_rec (z := z) hb3
      dsimp only at q1 q2
      obtain ⟨a, b, cc, d, e, f, gg⟩ := q3
      have y4 : Rc (V4, sW X.2.1 365 W3, t4) 365 (adF T m 0 p.1) σ' := y2.mv rfl (fun o o1 o2 => q2 o (by omega))
      obtain ⟨V5, u1, u2, u3⟩ := e_copy (z := z) (X := (V4, sW X.2.1 365 W3, t4)) isB_3 isB_365 (by omega) y4 a.1
      dsimp only at u1 u2
      have t5 : V5 1272 3 = nI m := by rw [u2 1272 (by omega), q2 1272 (by omega)]; exact t33
      refine ⟨nI m, (V5, sW X.2.1 365 W3, t4), (adF T m 0 p.1, σ'), rec4 H p, K, T, ?_, fun o ho => (u2 o (by omega)).trans ((q2 o (by omega)).trans (hi3 o ho)), (hp'.rec).st y1, ⟨u3, b.kept (u2 1 (by omega)) (u2 2 (by omega)), cc, d, e.mv rfl (fun _ _ => rfl) (fun o o1 o2 => u2 o (by omega)), f.mv (X := (V4, sW X.2.1 365 W3, t4)) (u2 0 (by omega)) rfl (fun o o1 o2 => u2 o (by omega)), gg.mv (congrFun (u2 1272 (by omega)) 1) (u2 1273 (by omega))⟩, fun Y hY => ?_⟩
      · simp (disch := first | assumption | omega) only [f_X7_sailings, m_rx0, m_rx1, m_rx2, m_rx3, m_rx4, m_ix, m_iO isB_3, m_iO isB_184, m_iO isB_365, m_iH, m_iX, m_iD, m_im, m_rm0, e_wi_t, e_wi_f, e_ro_t, e_ro_f, e8_wi_t, e8_wi_f, e8_ro_t, e8_ro_f, zbool_0, zbool_1, zb2_s, zif_t, zopt_n, zopt_s, b_s, znm_e, lit_0, lit_1, lit_2, lit_3, lit_4, lit_5, lit_6, lit_7, lit_8, lit_9, lit_10, lit_11, lit_12, lit_13, lit_17, lit_20, lit_23, lit_24, lit_43, lit_48, lit_51, lit_57, lit_58, lit_59, lit_60, lit_61, lit_63, lit_77, lit_100, lit_140, lit_168, lit_200, lit_393, lit_400, lit_900, lit_969, lit_1000, lit_1041, lit_1045, lit_1093, lit_1168, lit_1200, lit_3279, lit_3333, lit_4372, lit_9999, nI_10, if_false, if_true, a1, m5, k1, g1, l00, q1, u1, m_gX3, t5]
      · obtain ⟨V6, b1, b2⟩ := B8 Y hY.2.2.2
        rw [rmI_n] at b1
        obtain ⟨V7, s1, s2, s3⟩ := (S8 Y hY V6 b1 b2).1 c
        exact ⟨V7, s1, s2, s3 _ rfl⟩
    · have l0 : (nI 0 ≤ E) = False := by
        rcases g6 with x | x
        · exact absurd x c
        · exact x
      refine ⟨E, (V3, sW X.2.1 365 W3, X.2.2), p, H, K, T, ?_, hi3, hp', hb3, fun Y hY => ?_⟩
      · simp (disch := first | assumption | omega) only [f_X7_sailings, m_rx0, m_rx1, m_rx2, m_rx3, m_rx4, m_ix, m_iO isB_3, m_iO isB_184, m_iO isB_365, m_iH, m_iX, m_iD, m_im, m_rm0, e_wi_t, e_wi_f, e_ro_t, e_ro_f, e8_wi_t, e8_wi_f, e8_ro_t, e8_ro_f, zbool_0, zbool_1, zb2_s, zif_t, zopt_n, zopt_s, b_s, znm_e, lit_0, lit_1, lit_2, lit_3, lit_4, lit_5, lit_6, lit_7, lit_8, lit_9, lit_10, lit_11, lit_12, lit_13, lit_17, lit_20, lit_23, lit_24, lit_43, lit_48, lit_51, lit_57, lit_58, lit_59, lit_60, lit_61, lit_63, lit_77, lit_100, lit_140, lit_168, lit_200, lit_393, lit_400, lit_900, lit_969, lit_1000, lit_1041, lit_1045, lit_1093, lit_1168, lit_1200, lit_3279, lit_3333, lit_4372, lit_9999, nI_10, if_false, if_true, a1, m5, k1, g1, l0]
      · obtain ⟨V6, b1, b2⟩ := B8 Y hY.2.2.2
        rw [rmI_n] at b1
        exact (S8 Y hY V6 b1 b2).2 c l0
