/-! the sailings of the text come -/
def erR (T : List Int32) : Nat → Nat → (Nat → Nat) → Int32
  | 0, _, _ => nI 0
  | n + 1, k, s => match (rsT T (rp T k)).1 with
    | none => nI 0
    | some (f, st, h, v) => if refM s (nI f) (nI st) (nI h) (nI v) = nI 0 then erR T n (k + 1) (newM s f st h v) else refM s (nI f) (nI st) (nI h) (nI v)
def adF (T : List Int32) : Nat → Nat → (Nat → Nat) → Nat → Nat
  | 0, _, s => s
  | n + 1, k, s => match (rsT T (rp T k)).1 with
    | none => s
    | some (f, st, h, v) => adF T n (k + 1) (newM s f st h v)
theorem erR_s {T : List Int32} {n k f st h v : Nat} {s : Nat → Nat} (e : (rsT T (rp T k)).1 = some (f, st, h, v)) : erR T (n + 1) k s = if refM s (nI f) (nI st) (nI h) (nI v) = nI 0 then erR T n (k + 1) (newM s f st h v) else refM s (nI f) (nI st) (nI h) (nI v) := by
  show (match (rsT T (rp T k)).1 with | none => _ | some (f, st, h, v) => _) = _
  rw [e]
theorem adF_s {T : List Int32} {n k f st h v : Nat} {s : Nat → Nat} (e : (rsT T (rp T k)).1 = some (f, st, h, v)) : adF T (n + 1) k s = adF T n (k + 1) (newM s f st h v) := by
  show (match (rsT T (rp T k)).1 with | none => _ | some (f, st, h, v) => _) = _
  rw [e]
theorem ref_ok2 {s : Nat → Nat} (hB : RB s) {f st h v : Nat} (hf : f < 100000) (hst : st < 100000) (hh : h < 100000) (hv : v < 100000) (e : refM s (nI f) (nI st) (nI h) (nI v) = nI 0) : s 1 < 48 ∧ f < 6 ∧ s 0 ≤ st ∧ st ≤ 900 ∧ 1 ≤ h ∧ h ≤ 12 ∧ v < 10000 ∧ (∀ q, q < 4 → dgt v q ≤ 3) ∧ ∀ k, k < s 1 → recS s k 5 ≠ 2 → recS s k 1 = f → st + h ≤ recS s k 2 ∨ recS s k 3 ≤ st := by
  obtain ⟨f', st', h', v', e1, e2, e3, e4, x1, x2, x3, x4, x5, x6, x7, x8, x9⟩ := ref_ok hB e
  have hl : st' < 2 ^ 31 := by omega
  have e1 := (nI_eq (by omega) (by omega)).mp e1
  have e2 := (nI_eq (by omega) hl).mp e2
  have e3 := (nI_eq (by omega) (by omega)).mp e3
  have e4 := (nI_eq (by omega) (by omega)).mp e4
  subst e1 e2 e3 e4
  exact ⟨x1, x2, x3, x4, x5, x6, x7, x8, x9⟩
theorem KpB.tx {V V' : pV} (h : KpB 365 V V') : KpT V V' := fun o a b c => h o a b (by omega)
theorem e7_adL {z : Nat} {T : List Int32} {m : Nat} (hm : m ≤ 6) (hq : ∀ i, i < m → rp T i ≤ T.length ∧ ∃ f st h v, (rsT T (rp T i)).1 = some (f, st, h, v)) : ∀ (n fuel k : Nat) (X : pX) (s σ : Nat → Nat), Rc X 365 s σ → PS s σ → DuE X.1 → X.1 1272 3 = nI m → RdA X.1 T m → k + n = m → n < fuel → ∃ V' W', f_X7_addReadSailings_2 fuel z (z + 365) (nI k) (hp z X) = some (erR T n k s, hp z (V', sW X.2.1 365 W', X.2.2)) ∧ KpT X.1 V' ∧ DuE V' ∧ Ord W' ∧ (erR T n k s = nI 0 → ∃ σ', PS (adF T n k s) σ' ∧ Rc (V', sW X.2.1 365 W', X.2.2) 365 (adF T n k s) σ') ∧ (erR T n k s = nI 0 ∨ (nI 0 ≤ erR T n k s) = False) := by
  intro n
  induction n with
  | zero =>
    intro fuel k X s σ hS hP hd h3 hA hk hf
    obtain ⟨fuel, rfl⟩ : ∃ f, fuel = f + 1 := ⟨fuel - 1, by omega⟩
    have hk : k = m := by omega
    refine ⟨X.1, X.2.1 365, ?_, KpT.rf, hd, hS.1, fun _ => ⟨σ, hP, by rw [sW_id]; exact hS⟩, Or.inl rfl⟩
    rw [sW_id]
    have cT : (m ≤ k) = True := eq_true (by omega)
    simp (disch := first | assumption | omega) only [f_X7_addReadSailings_2, f_X7_addReadSailings_2_body, m_rx0, m_rx1, m_rx2, m_rx3, m_rx4, m_ix, m_iO isB_3, m_iO isB_184, m_iO isB_365, m_iH, m_iX, m_iD, m_im, m_rm0, e_wi_t, e_wi_f, e_ro_t, e_ro_f, e8_wi_t, e8_wi_f, e8_ro_t, e8_ro_f, zbool_0, zbool_1, zb2_s, zif_t, zopt_n, zopt_s, b_s, znm_e, lit_0, lit_1, lit_2, lit_3, lit_4, lit_5, lit_6, lit_7, lit_8, lit_9, lit_10, lit_11, lit_12, lit_13, lit_17, lit_20, lit_23, lit_24, lit_43, lit_48, lit_51, lit_57, lit_58, lit_59, lit_60, lit_61, lit_63, lit_77, lit_100, lit_140, lit_168, lit_200, lit_393, lit_400, lit_900, lit_969, lit_1000, lit_1041, lit_1045, lit_1093, lit_1168, lit_1200, lit_3279, lit_3333, lit_4372, lit_9999, nI_10, if_false, if_true, m_gX3, h3, nI_leE, cT]
    rfl
  | succ n ih =>
    intro fuel k X s σ hS hP hd h3 hA hk hf
    obtain ⟨fuel, rfl⟩ : ∃ f, fuel = f + 1 := ⟨fuel - 1, by omega⟩
    obtain ⟨hpl, f, st, h, v, e⟩ := hq k (by omega)
    obtain ⟨_, _, o3⟩ := rsT_ok (T := T) hpl
    obtain ⟨_, o4, o5, o6, o7⟩ := o3 f st h v e
    obtain ⟨d1, d2, d3, d4⟩ := hA k (by omega) f st h v e
    have cT : (m ≤ k) = False := eq_false (by omega)
    have c6 : (6 ≤ k) = False := eq_false (by omega)
    have g0 := e_refusal (z := z) isB_365 hS (nI f) (nI st) (nI h) (nI v)
    rw [ref_eq hP] at g0
    rw [erR_s e, adF_s e]
    by_cases c : refM s (nI f) (nI st) (nI h) (nI v) = nI 0
    · rw [if_pos c]
      rw [c] at g0
      have l0 : (nI 0 ≤ nI 0) = True := eq_true (by decide)
      obtain ⟨x1, x2, x3, x4, x5, x6, x7, x8, x9⟩ := ref_ok2 hP.B (by omega) (by omega) (by omega) (by omega) c
      have hz : ∀ i, i < 12 → UU s σ (s 1) (20 + i) = 0 := fun i hi => by rw [UU_ge (Nat.le_refl _)]; exact emp_n (by omega)
      obtain ⟨V2, pp, g1, g2, g3, g4, g5, g6, g7⟩ := e_addSail (z := z) isB_365 hS (f := f) (st := st) (h := h) (v := v) x1 hz x2 (by omega) (by omega) hd
      obtain ⟨y1, y2, y3, y4⟩ := PS_new hP x1 x2 x3 x4 x5 x6 x7 x8 x9 g5 g6 g7
      have hS2 : Rc (V2, sW X.2.1 365 (insW (X.2.1 365) (s 1) pp), X.2.2) 365 (newM s f st h v) (insS σ (s 1) pp) := Rc_of g4 y1 y2 y3 y4
      have kT := g2.tx
      have hA2 : RdA V2 T m := fun i hi f' st' h' v' ei => by
        have := hA i hi f' st' h' v' ei
        rw [kT 1274 (by omega) (by omega) (by omega), kT 1275 (by omega) (by omega) (by omega), kT 1276 (by omega) (by omega) (by omega), kT 1277 (by omega) (by omega) (by omega)]
        exact this
      obtain ⟨V', W', i1, i2, i3, i4, i5, i6⟩ := ih fuel (k + 1) (V2, sW X.2.1 365 (insW (X.2.1 365) (s 1) pp), X.2.2) (newM s f st h v) (insS σ (s 1) pp) hS2 y1 g3 (by dsimp only; rw [kT 1272 (by omega) (by omega) (by omega)]; exact h3) hA2 (by omega) (by omega)
      dsimp only at i1 i2 i5
      rw [sW_sW] at i1 i5
      refine ⟨V', W', ?_, kT.tr i2, i3, i4, i5, i6⟩
      simp (disch := first | assumption | omega) only [f_X7_addReadSailings_2, f_X7_addReadSailings_2_body, m_rx0, m_rx1, m_rx2, m_rx3, m_rx4, m_ix, m_iO isB_3, m_iO isB_184, m_iO isB_365, m_iH, m_iX, m_iD, m_im, m_rm0, e_wi_t, e_wi_f, e_ro_t, e_ro_f, e8_wi_t, e8_wi_f, e8_ro_t, e8_ro_f, zbool_0, zbool_1, zb2_s, zif_t, zopt_n, zopt_s, b_s, znm_e, lit_0, lit_1, lit_2, lit_3, lit_4, lit_5, lit_6, lit_7, lit_8, lit_9, lit_10, lit_11, lit_12, lit_13, lit_17, lit_20, lit_23, lit_24, lit_43, lit_48, lit_51, lit_57, lit_58, lit_59, lit_60, lit_61, lit_63, lit_77, lit_100, lit_140, lit_168, lit_200, lit_393, lit_400, lit_900, lit_969, lit_1000, lit_1041, lit_1045, lit_1093, lit_1168, lit_1200, lit_3279, lit_3333, lit_4372, lit_9999, nI_10, if_false, if_true, m_gX3, h3, nI_leE, cT, c6, m_rX4, m_rX5, m_rX6, m_rX7, m_ld1274, m_ld1275, m_ld1276, m_ld1277, d1, d2, d3, d4, g0, l0, g1, nI_add]
      exact i1
    · rw [if_neg c]
      have l0 := ref_neg c
      refine ⟨X.1, X.2.1 365, ?_, KpT.rf, hd, hS.1, fun q => absurd q c, Or.inr l0⟩
      rw [sW_id]
      simp (disch := first | assumption | omega) only [f_X7_addReadSailings_2, f_X7_addReadSailings_2_body, m_rx0, m_rx1, m_rx2, m_rx3, m_rx4, m_ix, m_iO isB_3, m_iO isB_184, m_iO isB_365, m_iH, m_iX, m_iD, m_im, m_rm0, e_wi_t, e_wi_f, e_ro_t, e_ro_f, e8_wi_t, e8_wi_f, e8_ro_t, e8_ro_f, zbool_0, zbool_1, zb2_s, zif_t, zopt_n, zopt_s, b_s, znm_e, lit_0, lit_1, lit_2, lit_3, lit_4, lit_5, lit_6, lit_7, lit_8, lit_9, lit_10, lit_11, lit_12, lit_13, lit_17, lit_20, lit_23, lit_24, lit_43, lit_48, lit_51, lit_57, lit_58, lit_59, lit_60, lit_61, lit_63, lit_77, lit_100, lit_140, lit_168, lit_200, lit_393, lit_400, lit_900, lit_969, lit_1000, lit_1041, lit_1045, lit_1093, lit_1168, lit_1200, lit_3279, lit_3333, lit_4372, lit_9999, nI_10, if_false, if_true, m_gX3, h3, nI_leE, cT, c6, m_rX4, m_rX5, m_rX6, m_rX7, m_ld1274, m_ld1275, m_ld1276, m_ld1277, d1, d2, d3, d4, g0, l0]
/-- the rows after them are rows in bounds -/
theorem adF_RB {T : List Int32} {m : Nat} (hq : ∀ i, i < m → rp T i ≤ T.length ∧ ∃ f st h v, (rsT T (rp T i)).1 = some (f, st, h, v)) {s : Nat → Nat} (hB : RB s) {k f st h v : Nat} (hk : k < m) (e : (rsT T (rp T k)).1 = some (f, st, h, v)) (c : refM s (nI f) (nI st) (nI h) (nI v) = nI 0) : RB (newM s f st h v) ∧ s 1 < 48 ∧ v < 2 ^ 31 := by
  obtain ⟨_, _, o3⟩ := rsT_ok (T := T) (hq k hk).1
  obtain ⟨_, o4, o5, o6, o7⟩ := o3 f st h v e
  obtain ⟨x1, x2, x3, x4, x5, x6, x7, x8, x9⟩ := ref_ok2 hB (by omega) (by omega) (by omega) (by omega) c
  exact ⟨hB.new x1 x2 x4 x6 x8, x1, by omega⟩
/-- only the row, the place and the numbers read changed -/
def KF (V V' : pV) : Prop := (∀ i, i ≠ 8 → V' 1278 i = V 1278 i) ∧ ∀ o, o ≠ 1278 → o ≠ 1279 → o ≠ 1284 → o ≠ 1285 → V' o = V o
theorem KF.rf {V : pV} : KF V V := ⟨fun _ _ => rfl, fun _ _ _ _ _ => rfl⟩
theorem KF.tr {V V1 V2 : pV} (h : KF V V1) (g : KF V1 V2) : KF V V2 := ⟨fun i hi => (g.1 i hi).trans (h.1 i hi), fun o a b c d => (g.2 o a b c d).trans (h.2 o a b c d)⟩
theorem KE.F {V V' : pV} (h : KE V V') : KF V V' := ⟨h.1, fun o a _ c _ => h.2 o a c⟩
theorem KpM.F {V V' : pV} (h : KpM V V') : KF V V' := ⟨fun i _ => by rw [h 1278 (by omega) (by omega)], fun o _ b _ d => h o b d⟩
theorem KF.tx {V V' : pV} {T : List Int32} (h : KF V V') (g : TxM V T) : TxM V' T := g.mv (h.1 10 (by omega)) (h.2 1283 (by omega) (by omega) (by omega) (by omega))
theorem Bm.kf {V V' : pV} {p p' : sS} {H : List sS} {K : Option sS} {T : List Int32} (h : Bm V p H K T) (k : KF V V') (hr : RoC V' p'.1) : Bm V' p' H K T :=
  ⟨hr, h.2.1.mv (k.1 9 (by omega)) (k.2 1282 (by omega) (by omega) (by omega) (by omega)), h.2.2.1.mv (k.1 11 (by omega)) (k.2 1280 (by omega) (by omega) (by omega) (by omega)), k.tx h.2.2.2⟩
theorem KF.p8 {V : pV} {p : Nat} : KF V (sV V 1278 (upd (V 1278) 8 (nI p))) := KM8.up.E.F
theorem e8_sL1 {z : Nat} {T : List Int32} (h60 : T.length ≤ 60) {m : Nat} (hm : m ≤ 6) (hq : ∀ i, i < m → rp T i ≤ T.length ∧ ∃ f st h v, (rsT T (rp T i)).1 = some (f, st, h, v)) {s0 : Nat → Nat} : ∀ (n fuel k : Nat) (X : pX) (s : Nat → Nat), RoC X.1 s → RB s → RoA 1281 X.1 s0 → TxM X.1 T → X.1 1278 8 = nI (rp T k) → k + n = m → ∃ V', f_X8_sailings_22 (fuel + n + 1) (z + 1278) (nI m) (nI k) (hp z X) = (if erR T n k s = nI 0 then f_X8_sailings_22 (fuel + 1) (z + 1278) (nI m) (nI m) (hp z (V', X.2)) else some (erR T n k s, hp z (V', X.2))) ∧ KF X.1 V' ∧ (erR T n k s = nI 0 → RoC V' (adF T n k s) ∧ RB (adF T n k s)) ∧ (erR T n k s ≠ nI 0 → RoC V' s0) := by
  intro n
  induction n with
  | zero =>
    intro fuel k X s hr hB hA hT h8 hk
    have hk : k = m := by omega
    refine ⟨X.1, ?_, KF.rf, fun _ => ⟨hr, hB⟩, fun c => absurd rfl c⟩
    rw [hk]
    exact (if_pos rfl).symm
  | succ n ih =>
    intro fuel k X s hr hB hA hT h8 hk
    have hkm : k < m := by omega
    obtain ⟨hpl, f, st, h, v, e⟩ := hq k hkm
    obtain ⟨V1, a1, a2, a3⟩ := e8_rs (z := z) hT h60 hpl h8
    obtain ⟨d1, d2, d3, d4⟩ := a3 f st h v e
    rw [e] at a1
    have a1 : f_X8_readSailing (z + 1278) (hp z X) = some (nI 1, hp z (V1, X.2)) := a1
    have cT : (m ≤ k) = False := eq_false (by omega)
    have r1 : RoC V1 s := hr.kept (a2.2.2 1279 (by omega) (by omega))
    have k1 := e8_hinders (z := z) (X := (V1, X.2)) r1 hB (nI f) (nI st) (nI h) (nI v)
    have ra1 : RoA 1281 V1 s0 := hA.kept (a2.2.2 1281 (by omega) (by omega))
    rw [erR_s e, adF_s e]
    by_cases c : refM s (nI f) (nI st) (nI h) (nI v) = nI 0
    · rw [if_pos c]
      rw [c] at k1
      have l0 : (nI 0 ≤ nI 0) = True := eq_true (by decide)
      obtain ⟨y1, y2, y3⟩ := adF_RB hq hB hkm e c
      obtain ⟨V2, b1, b2, b3⟩ := e8_addSail (z := z) (X := (V1, X.2)) r1 hB (f := f) (st := st) (h := h) (v := v) y2 y3
      dsimp only at b1
      have t8 : V2 1278 8 = nI (rsT T (rp T k)).2 := by rw [b2 1278 (by omega) (by omega)]; exact a2.1
      have s9 : ∀ o, o ≠ 1278 → sV V2 1278 (upd (V2 1278) 8 (nI (rp T (k + 1)))) o = V2 o := fun o ho => sV_n ho
      have kf : KF X.1 (sV V2 1278 (upd (V2 1278) 8 (nI (rp T (k + 1))))) := (a2.E.F.tr b2.F).tr KF.p8
      obtain ⟨V', i1, i2, i3, i4⟩ := ih fuel (k + 1) (sV V2 1278 (upd (V2 1278) 8 (nI (rp T (k + 1)))), X.2) (newM s f st h v) (b3.kept (s9 1279 (by omega))) y1 ((ra1.kept (b2 1281 (by omega) (by omega))).kept (s9 1281 (by omega))) (kf.tx hT) (by dsimp only; rw [sV_s, pk_us]) (by omega)
      dsimp only at i1 i2
      refine ⟨V', ?_, kf.tr i2, i3, i4⟩
      rw [← i1]
      have E : f_X8_sailings_22 (fuel + (n + 1) + 1) (z + 1278) (nI m) (nI k) (hp z X) = f_X8_sailings_22_body (f_X8_sailings_22 (fuel + n + 1)) (z + 1278) (nI m) (nI k) (hp z X) := rfl
      rw [E]
      simp (disch := first | assumption | omega) only [f_X8_sailings_22_body, m_rx0, m_rx1, m_rx2, m_rx3, m_rx4, m_ix, m_iO isB_3, m_iO isB_184, m_iO isB_365, m_iH, m_iX, m_iD, m_im, m_rm0, e_wi_t, e_wi_f, e_ro_t, e_ro_f, e8_wi_t, e8_wi_f, e8_ro_t, e8_ro_f, zbool_0, zbool_1, zb2_s, zif_t, zopt_n, zopt_s, b_s, znm_e, lit_0, lit_1, lit_2, lit_3, lit_4, lit_5, lit_6, lit_7, lit_8, lit_9, lit_10, lit_11, lit_12, lit_13, lit_17, lit_20, lit_23, lit_24, lit_43, lit_48, lit_51, lit_57, lit_58, lit_59, lit_60, lit_61, lit_63, lit_77, lit_100, lit_140, lit_168, lit_200, lit_393, lit_400, lit_900, lit_969, lit_1000, lit_1041, lit_1045, lit_1093, lit_1168, lit_1200, lit_3279, lit_3333, lit_4372, lit_9999, nI_10, if_false, if_true, nI_leE, cT, a1, m_rm5, m_ld1284, d1, d2, d3, d4, k1, l0, b1, m_gm8, t8, m_pm8, nI_add, rp_s]
    · rw [if_neg c]
      have l0 := ref_neg c
      obtain ⟨V2, b1, b2, b3⟩ := e8_tbk (z := z) (X := (V1, X.2)) ra1
      dsimp only at b1
      refine ⟨V2, ?_, a2.E.F.tr ⟨fun i _ => by rw [b2 1278 (by omega)], fun o _ hb _ _ => b2 o hb⟩, fun q => absurd q c, fun _ => b3⟩
      have E : f_X8_sailings_22 (fuel + (n + 1) + 1) (z + 1278) (nI m) (nI k) (hp z X) = f_X8_sailings_22_body (f_X8_sailings_22 (fuel + n + 1)) (z + 1278) (nI m) (nI k) (hp z X) := rfl
      rw [E, if_neg c]
      clear c
      generalize refM s (nI f) (nI st) (nI h) (nI v) = w at k1 l0 ⊢
      simp (disch := first | assumption | omega) only [f_X8_sailings_22_body, m_rx0, m_rx1, m_rx2, m_rx3, m_rx4, m_ix, m_iO isB_3, m_iO isB_184, m_iO isB_365, m_iH, m_iX, m_iD, m_im, m_rm0, e_wi_t, e_wi_f, e_ro_t, e_ro_f, e8_wi_t, e8_wi_f, e8_ro_t, e8_ro_f, zbool_0, zbool_1, zb2_s, zif_t, zopt_n, zopt_s, b_s, znm_e, lit_0, lit_1, lit_2, lit_3, lit_4, lit_5, lit_6, lit_7, lit_8, lit_9, lit_10, lit_11, lit_12, lit_13, lit_17, lit_20, lit_23, lit_24, lit_43, lit_48, lit_51, lit_57, lit_58, lit_59, lit_60, lit_61, lit_63, lit_77, lit_100, lit_140, lit_168, lit_200, lit_393, lit_400, lit_900, lit_969, lit_1000, lit_1041, lit_1045, lit_1093, lit_1168, lit_1200, lit_3279, lit_3333, lit_4372, lit_9999, nI_10, if_false, if_true, nI_leE, cT, a1, m_rm5, m_ld1284, d1, d2, d3, d4, k1, l0, b1]
theorem e8_sL2 {z : Nat} {T : List Int32} (h60 : T.length ≤ 60) {m : Nat} (hm : m ≤ 6) (hq : ∀ i, i < m → rp T i ≤ T.length ∧ ∃ f st h v, (rsT T (rp T i)).1 = some (f, st, h, v)) : ∀ (n fuel k : Nat) (X : pX) (s : Nat → Nat), RoC X.1 s → RB s → TxM X.1 T → X.1 1278 8 = nI (rp T k) → k + n = m → n < fuel → erR T n k s = nI 0 → ∃ V', f_X8_sailings_131 fuel (z + 1278) (nI m) (nI k) (hp z X) = some (nI m, hp z (V', X.2)) ∧ KF X.1 V' ∧ RoC V' (adF T n k s) := by
  intro n
  induction n with
  | zero =>
    intro fuel k X s hr hB hT h8 hk hf _
    obtain ⟨fuel, rfl⟩ : ∃ f, fuel = f + 1 := ⟨fuel - 1, by omega⟩
    have hk : k = m := by omega
    have cT : (m ≤ k) = True := eq_true (by omega)
    refine ⟨X.1, ?_, KF.rf, hr⟩
    simp (disch := first | assumption | omega) only [f_X8_sailings_131, f_X8_sailings_131_body, m_rx0, m_rx1, m_rx2, m_rx3, m_rx4, m_ix, m_iO isB_3, m_iO isB_184, m_iO isB_365, m_iH, m_iX, m_iD, m_im, m_rm0, e_wi_t, e_wi_f, e_ro_t, e_ro_f, e8_wi_t, e8_wi_f, e8_ro_t, e8_ro_f, zbool_0, zbool_1, zb2_s, zif_t, zopt_n, zopt_s, b_s, znm_e, lit_0, lit_1, lit_2, lit_3, lit_4, lit_5, lit_6, lit_7, lit_8, lit_9, lit_10, lit_11, lit_12, lit_13, lit_17, lit_20, lit_23, lit_24, lit_43, lit_48, lit_51, lit_57, lit_58, lit_59, lit_60, lit_61, lit_63, lit_77, lit_100, lit_140, lit_168, lit_200, lit_393, lit_400, lit_900, lit_969, lit_1000, lit_1041, lit_1045, lit_1093, lit_1168, lit_1200, lit_3279, lit_3333, lit_4372, lit_9999, nI_10, if_false, if_true, nI_leE, cT]
  | succ n ih =>
    intro fuel k X s hr hB hT h8 hk hf he
    obtain ⟨fuel, rfl⟩ : ∃ f, fuel = f + 1 := ⟨fuel - 1, by omega⟩
    have hkm : k < m := by omega
    obtain ⟨hpl, f, st, h, v, e⟩ := hq k hkm
    obtain ⟨V1, a1, a2, a3⟩ := e8_rs (z := z) hT h60 hpl h8
    obtain ⟨d1, d2, d3, d4⟩ := a3 f st h v e
    rw [e] at a1
    have a1 : f_X8_readSailing (z + 1278) (hp z X) = some (nI 1, hp z (V1, X.2)) := a1
    have cT : (m ≤ k) = False := eq_false (by omega)
    have r1 : RoC V1 s := hr.kept (a2.2.2 1279 (by omega) (by omega))
    rw [erR_s e] at he
    rw [adF_s e]
    by_cases c : refM s (nI f) (nI st) (nI h) (nI v) = nI 0
    · rw [if_pos c] at he
      obtain ⟨y1, y2, y3⟩ := adF_RB hq hB hkm e c
      obtain ⟨V2, b1, b2, b3⟩ := e8_addSail (z := z) (X := (V1, X.2)) r1 hB (f := f) (st := st) (h := h) (v := v) y2 y3
      dsimp only at b1
      have t8 : V2 1278 8 = nI (rsT T (rp T k)).2 := by rw [b2 1278 (by omega) (by omega)]; exact a2.1
      have s9 : ∀ o, o ≠ 1278 → sV V2 1278 (upd (V2 1278) 8 (nI (rp T (k + 1)))) o = V2 o := fun o ho => sV_n ho
      have kf : KF X.1 (sV V2 1278 (upd (V2 1278) 8 (nI (rp T (k + 1))))) := (a2.E.F.tr b2.F).tr KF.p8
      obtain ⟨V', i1, i2, i3⟩ := ih fuel (k + 1) (sV V2 1278 (upd (V2 1278) 8 (nI (rp T (k + 1)))), X.2) (newM s f st h v) (b3.kept (s9 1279 (by omega))) y1 (kf.tx hT) (by dsimp only; rw [sV_s, pk_us]) (by omega) (by omega) he
      dsimp only at i1 i2
      rw [rp_s] at i1
      refine ⟨V', ?_, kf.tr i2, i3⟩
      simp (disch := first | assumption | omega) only [f_X8_sailings_131, f_X8_sailings_131_body, m_rx0, m_rx1, m_rx2, m_rx3, m_rx4, m_ix, m_iO isB_3, m_iO isB_184, m_iO isB_365, m_iH, m_iX, m_iD, m_im, m_rm0, e_wi_t, e_wi_f, e_ro_t, e_ro_f, e8_wi_t, e8_wi_f, e8_ro_t, e8_ro_f, zbool_0, zbool_1, zb2_s, zif_t, zopt_n, zopt_s, b_s, znm_e, lit_0, lit_1, lit_2, lit_3, lit_4, lit_5, lit_6, lit_7, lit_8, lit_9, lit_10, lit_11, lit_12, lit_13, lit_17, lit_20, lit_23, lit_24, lit_43, lit_48, lit_51, lit_57, lit_58, lit_59, lit_60, lit_61, lit_63, lit_77, lit_100, lit_140, lit_168, lit_200, lit_393, lit_400, lit_900, lit_969, lit_1000, lit_1041, lit_1045, lit_1093, lit_1168, lit_1200, lit_3279, lit_3333, lit_4372, lit_9999, nI_10, if_false, if_true, nI_leE, cT, a1, m_rm5, m_ld1284, d1, d2, d3, d4, b1, m_gm8, t8, m_pm8, nI_add, i1]
    · rw [if_neg c] at he
      exact absurd he c
