/-! p38: the law's turns -/
def Wk (o : Option (Int32 × zHp)) : Prop := ∃ h, o = some (nI 1, h)
def Gd (X : pX) (p : sS) (H : List sS) (n : Nat) : Prop := Bc X p H none [] ∧ Iv p ∧ (∀ q, q ∈ H → Iv q) ∧ rws X.1 ≤ n
/-- a row of what was told -/
def Rw (V : pV) (t : Nat) (s : Nat → Nat) : Prop := t < rws V ∧ ∀ i, i < 63 → V (1278 + t) i = tv s i
theorem Rw.hi {V V' : pV} {t : Nat} {s : Nat → Nat} (h : Rw V t s) (k : ∀ o, 1278 ≤ o → V' o = V o) : Rw V' t s := ⟨by rw [rws_cg (k 2000 (by omega))]; exact h.1, fun i hi => by rw [k _ (by omega)]; exact h.2 i hi⟩
theorem e_cell {L : Nat} {xs : Nat → Int32} (hL : L ≤ 260) (a : Nat) (ha : a < 100) : ∃ v, ∀ h, f_L_cell L xs (nI a) h = some (v, h) := by
  by_cases c : nI L ≤ nI a
  · have c : Int32.ofNat L ≤ nI a := c
    exact ⟨_, fun h => by unfold f_L_cell; rw [if_pos c]⟩
  · have d : ¬ (nI a < 0 ∨ L ≤ (nI a).toNatClampNeg) := fun w => by
      rcases w with w | w
      · exact nI_pos (by omega) w
      · rw [nI_clamp (by omega)] at w
        exact c (nI_le w (by omega))
    have c : ¬ Int32.ofNat L ≤ nI a := c
    exact ⟨xs (nI a).toNatClampNeg, fun h => by
      unfold f_L_cell zsc
      rw [if_neg c, if_neg d]
      rfl⟩
theorem lw_166 {L : Nat} {xs : Nat → Int32} {z e : Nat} (he : e < 26) {r10 : Nat → Int32 → zHp → Option (Int32 × zHp)} (hr : ∀ X p H, Gd X p H (4 * (e + 1)) → Wk (r10 z (nI (e + 1)) (hp z X))) {X : pX} {p : sS} {H : List sS} (h : Gd X p H (4 * (e + 1))) : Wk (f_L_166 L xs r10 z (nI e) (hp z X)) := by
  obtain ⟨s, σ⟩ := p
  obtain ⟨hb, hI, hH, hn⟩ := h
  have zr := zrem_n (a := e) (b := 2) (by omega) (by omega) (by omega)
  have nz : ¬ nI 1 = nI 0 := by decide
  simp only [f_L_166, f_L_189, lit_0, lit_1, lit_2, lit_3, lit_4, lit_5, lit_6, lit_7, lit_8, lit_9, lit_10, lit_11, lit_12, lit_13, lit_14, lit_15, lit_16, lit_17, lit_18, lit_20, lit_24, lit_26, lit_30, lit_40, lit_45, lit_46, lit_47, lit_48, lit_60, lit_63, lit_64, lit_77, lit_100, lit_140, lit_168, lit_200, lit_300, lit_400, lit_900, lit_1000, lit_1168, lit_1997, lit_3333, lit_9999, lit_10000, zr, b_s, nI_add]
  by_cases c : e % 2 = 1
  · have ec : nI (e % 2) = nI 1 := by rw [c]
    rw [if_pos ec]
    obtain ⟨V1, q1, k1, d1⟩ := e_sailings (z := z) hI hb
    have hb1 := hb.kd k1 d1
    obtain ⟨V2, q2, k2, d2⟩ := e_members (z := z) hI.1 hb1
    rw [q1, zb2_s, if_neg nz, q2, zb2_s, if_neg nz]
    exact hr _ (s, σ) H ⟨hb1.kd k2 d2, hI, hH, by rw [show rws (V2, (V1, X.2).2).1 = rws X.1 from (rws_cg (k2 2000 (by omega) (by omega))).trans (rws_cg (k1 2000 (by omega) (by omega)))]; exact hn⟩
  · have ec : ¬ nI (e % 2) = nI 1 := fun w => c ((nI_eq (by omega) (by omega)).mp w)
    rw [if_neg ec]
    exact hr _ (s, σ) H ⟨hb, hI, hH, hn⟩
/-- the act is taken back and done again -/
theorem lw_92 {L : Nat} {xs : Nat → Int32} {z e : Nat} (he : e < 26) {r10 : Nat → Int32 → zHp → Option (Int32 × zHp)} (hr : ∀ X p H, Gd X p H (4 * (e + 1)) → Wk (r10 z (nI (e + 1)) (hp z X))) {g x r : Int32} {p p' : sS} (h0 : nI 0 ≤ r) (hI : Iv p) (hI' : Iv p')
    (hA : ∀ X H K T, Bc X p H K T → ∃ X1, f_L_act z g x (hp z X) = some (r, hp z X1) ∧ (∀ o, 1278 ≤ o → X1.1 o = X.1 o) ∧ Bc X1 p' (rec4 H p) K T)
    {X : pX} {H : List sS} (hH : ∀ q, q ∈ H → Iv q) (hl : H.length ≤ 4) (hb : Bc X p' (rec4 H p) none []) (hn : rws X.1 ≤ 4 * e + 2) {t0 t1 : Nat} (w0 : Rw X.1 t0 p.1) (w1 : Rw X.1 t1 p'.1) : Wk (f_L_92 L xs r10 z (nI e) g x (z + (1278 + t0)) (nI H.length) r (z + (1278 + t1)) (hp z X)) := by
  have nz : ¬ nI 1 = nI 0 := by decide
  have n4 : (4 : Int32) ≠ 0 := by decide
  have hr0 : ¬ r < 0 := by rw [lit_0]; exact Int32.not_lt.mpr h0
  have mem : ∀ q, q ∈ rec4 H p → Iv q := fun q hq => by
    unfold rec4 at hq
    split at hq
    · rcases List.mem_append.mp hq with w | w
      · exact hH q (List.mem_of_mem_tail w)
      · have : q = p := by simpa using w
        rw [this]; exact hI
    · rcases List.mem_append.mp hq with w | w
      · exact hH q w
      · have : q = p := by simpa using w
        rw [this]; exact hI
  unfold f_L_92
  rw [if_neg hr0, e_low n4, zb2_s]
  by_cases c : lowV g 4 = 0
  · rw [if_pos c]
    obtain ⟨L0, hL0, hL1, hL2⟩ : ∃ L0, rec4 H p = L0 ++ [p] ∧ (L0.length = if H.length = 4 then 3 else H.length) ∧ ∀ q, q ∈ L0 → Iv q := by
      unfold rec4
      by_cases d : H.length = 4
      · rw [if_pos d, if_pos d]
        exact ⟨H.tail, rfl, by rw [List.length_tail]; omega, fun q hq => hH q (List.mem_of_mem_tail hq)⟩
      · rw [if_neg d, if_neg d]
        exact ⟨H, rfl, rfl, hH⟩
    rw [hL0] at hb
    obtain ⟨X1, u1, u2, u3⟩ := e_undo (z := z) hb
    rw [m_ix, zif_t, u1, zb2_s]
    obtain ⟨s, σ⟩ := p
    have rw1 : rws X1.1 = rws X.1 := rws_cg (u2 2000 (by omega))
    obtain ⟨V2, v1, v2, v3, v4, v5⟩ := e_tell (z := z) hI.1 u3 (by omega)
    rw [v1, zb2_s, zopt_s]
    have y0 : Rw V2 t0 s := ⟨by have := w0.1; omega, fun i hi => by rw [v5 _ (by omega) (by have := w0.1; omega), u2 _ (by omega)]; exact w0.2 i hi⟩
    have y1 : Rw V2 t1 p'.1 := ⟨by have := w1.1; omega, fun i hi => by rw [v5 _ (by omega) (by have := w1.1; omega), u2 _ (by omega)]; exact w1.2 i hi⟩
    have sm := e_same (z := z) (X := (V2, X1.2)) (t1 := rws X1.1) (t2 := t0) (by show rws X1.1 < rws V2; omega) y0.1 (fun i hi => (v4 i hi).trans (y0.2 i hi).symm)
    have nz0 : ¬ nI 1 = 0 := by decide
    rw [sm, zb2_s, if_neg nz0]
    have key : ∀ s0 s1, s1 = s0 → Wk (f_L_137 L xs r10 z (nI e) g x r (z + (1278 + t1)) s0 s1 (hp z (V2, X1.2))) := fun s0 s1 es => by
      unfold f_L_137
      rw [if_pos es]
      obtain ⟨X3, a1, a2, a3⟩ := hA (V2, X1.2) L0 none [] v3
      rw [a1, zb2_s, if_pos rfl]
      obtain ⟨s', σ'⟩ := p'
      have rw3 : rws X3.1 = rws V2 := rws_cg (a2 2000 (by omega))
      obtain ⟨V4, x1, x2, x3, x4, x5⟩ := e_tell (z := z) hI'.1 a3 (by omega)
      rw [x1, zb2_s, zopt_s]
      have z1 : Rw V4 t1 s' := ⟨by have := y1.1; omega, fun i hi => by rw [x5 _ (by omega) (by have := y1.1; omega), a2 _ (by omega)]; exact y1.2 i hi⟩
      have sm2 := e_same (z := z) (X := (V4, X3.2)) (t1 := rws X3.1) (t2 := t1) (by show rws X3.1 < rws V4; omega) z1.1 (fun i hi => (x4 i hi).trans (z1.2 i hi).symm)
      rw [sm2, zb2_s, if_neg nz0]
      refine lw_166 he hr (p := (s', σ')) (H := rec4 L0 (s, σ)) ⟨x3, hI', fun q hq => ?_, by show rws V4 ≤ _; omega⟩
      unfold rec4 at hq
      split at hq
      · rcases List.mem_append.mp hq with w | w
        · exact hL2 q (List.mem_of_mem_tail w)
        · have : q = (s, σ) := by simpa using w
          rw [this]; exact hI
      · rcases List.mem_append.mp hq with w | w
        · exact hL2 q w
        · have : q = (s, σ) := by simpa using w
          rw [this]; exact hI
    by_cases d : H.length = 4
    · have ed : nI H.length = 4 := by rw [d]; exact lit_4.symm
      rw [if_pos d] at hL1
      rw [if_pos ed]
      exact key _ _ (by rw [hL1]; exact lit_3.symm)
    · have ed : ¬ nI H.length = 4 := fun w => d ((nI_eq (by omega) (by omega)).mp (w.trans lit_4))
      rw [if_neg d] at hL1
      rw [if_neg ed]
      exact key _ _ (by rw [hL1])
  · rw [if_neg c]
    exact lw_166 he hr ⟨hb, hI', mem, by omega⟩
theorem lw_10 {L : Nat} {xs : Nat → Int32} {z : Nat} (hL : L ≤ 260) : ∀ (n e : Nat) (X : pX) (p : sS) (H : List sS), e + n = 26 → Gd X p H (4 * e) → Wk (f_L_10 L xs (n + 1) z (nI e) (hp z X)) := by
  intro n
  induction n with
  | zero =>
    intro e X p H h1 h
    have h1 : e = 26 := h1
    subst h1
    obtain ⟨s, σ⟩ := p
    obtain ⟨hb, hI, hH, hn⟩ := h
    obtain ⟨⟨V1, q1, k1, d1⟩, _, _⟩ := qn_end (z := z) hI.1 hb
    have hb1 := hb.kd k1 d1
    obtain ⟨_, ⟨V2, q2, k2, d2⟩, _⟩ := qn_end (z := z) hI.1 hb1
    have hb2 := hb1.kd k2 d2
    obtain ⟨_, _, V3, q3, k3, d3⟩ := qn_end (z := z) hI.1 hb2
    simp only [f_L_10, f_L_10_body, f_L_233, lit_0, lit_1, lit_2, lit_3, lit_4, lit_5, lit_6, lit_7, lit_8, lit_9, lit_10, lit_11, lit_12, lit_13, lit_14, lit_15, lit_16, lit_17, lit_18, lit_20, lit_24, lit_26, lit_30, lit_40, lit_45, lit_46, lit_47, lit_48, lit_60, lit_63, lit_64, lit_77, lit_100, lit_140, lit_168, lit_200, lit_300, lit_400, lit_900, lit_1000, lit_1168, lit_1997, lit_3333, lit_9999, lit_10000]
    rw [if_pos (nI_le (Nat.le_refl 26) (by omega)), m_ix, zif_t, q1, zb2_s, if_pos rfl, m_ix, zif_t, q2, zb2_s, if_pos rfl, m_ix, zif_t, q3, zb2_s, if_pos rfl]
    exact ⟨_, rfl⟩
  | succ n ih =>
    intro e X p H h1 h
    have he : e < 26 := by omega
    have hr := fun X p H => ih (e + 1) X p H (by omega)
    obtain ⟨s, σ⟩ := p
    obtain ⟨hb, hI, hH, hn⟩ := h
    have hl : H.length ≤ 4 := by have := hb.2.2.2.2.1.2.2.1; rw [List.length_map] at this; exact this
    have hle : ¬ nI 26 ≤ nI e := no_le he (by omega)
    obtain ⟨g, hg⟩ := e_cell (xs := xs) hL (2 * e) (by omega)
    obtain ⟨x, hx⟩ := e_cell (xs := xs) hL (2 * e + 1) (by omega)
    have n10 : ¬ nI 1 = nI 0 := by decide
    rw [f_L_10]
    simp only [f_L_10_body, lit_0, lit_1, lit_2, lit_3, lit_4, lit_5, lit_6, lit_7, lit_8, lit_9, lit_10, lit_11, lit_12, lit_13, lit_14, lit_15, lit_16, lit_17, lit_18, lit_20, lit_24, lit_26, lit_30, lit_40, lit_45, lit_46, lit_47, lit_48, lit_60, lit_63, lit_64, lit_77, lit_100, lit_140, lit_168, lit_200, lit_300, lit_400, lit_900, lit_1000, lit_1168, lit_1997, lit_3333, lit_9999, lit_10000, if_neg hle, nI_mul, nI_add]
    rw [hg, zb2_s, hx, zb2_s]
    obtain ⟨V1, t1, r1, b1, w1, _⟩ := e_tell (z := z) hI.1 hb (by omega)
    rw [t1, zb2_s, zopt_s]
    obtain ⟨V2, c1, c2, c3⟩ := qn_hist (z := z) hI.1 b1
    have b2 := b1.kd c2 c3
    rw [m_ix, zif_t, c1, zb2_s]
    have y0 : Rw V2 (rws X.1) s := Rw.hi (V := V1) ⟨by omega, w1⟩ (fun o ho => c2 o (by omega) (by omega))
    have e2 : rws V2 = rws X.1 + 1 := (rws_cg (c2 2000 (by omega) (by omega))).trans r1
    rcases ac_act (z := z) hI g x with ⟨r, hr0, A⟩ | ⟨r, p', hr0, hI', A⟩
    · obtain ⟨V3, a1, a2, a3⟩ := A (V2, X.2) H none [] b2
      have b3 := b2.kt a2 a3
      have y3 : Rw V3 (rws X.1) s := y0.hi (fun o ho => a2 o (by omega) (by omega) (by omega))
      have e3 : rws V3 = rws X.1 + 1 := (rws_cg (a2 2000 (by omega) (by omega) (by omega))).trans e2
      rw [a1, zb2_s]
      obtain ⟨V4, t4, r4, b4, w4, o4⟩ := e_tell (z := z) (X := (V3, X.2)) hI.1 b3 (by show rws V3 < _; omega)
      dsimp only at t4 r4 w4 o4
      rw [t4, zb2_s, zopt_s, if_neg (fun w => (Int32.not_lt.mpr w) hr0)]
      have y4 : Rw V4 (rws X.1) s := ⟨by omega, fun i hi => by rw [o4 _ (by omega) (by omega)]; exact y3.2 i hi⟩
      have sm := e_same (z := z) (X := (V4, X.2)) (t1 := rws X.1) (t2 := rws V3) y4.1 (by show rws V3 < rws V4; omega) (fun i hi => (y4.2 i hi).trans (w4 i hi).symm)
      rw [sm, zb2_s, if_neg n10]
      obtain ⟨V5, f1, f2, f3⟩ := qn_hist (z := z) hI.1 b4
      have b5 := b4.kd f2 f3
      rw [m_ix, zif_t, f1, zb2_s, if_pos rfl]
      have hr7 : r < 0 := by rw [lit_0]; exact hr0
      unfold f_L_92
      rw [if_pos hr7]
      exact lw_166 he hr (p := (s, σ)) (H := H) ⟨b5, hI, hH, by show rws V5 ≤ _; rw [rws_cg (f2 2000 (by omega) (by omega))]; show rws V4 ≤ _; omega⟩
    · obtain ⟨X3, a1, a2, a3⟩ := A (V2, X.2) H none [] b2
      have y3 : Rw X3.1 (rws X.1) s := y0.hi a2
      have e3 : rws X3.1 = rws X.1 + 1 := (rws_cg (a2 2000 (by omega))).trans e2
      rw [a1, zb2_s]
      obtain ⟨s', σ'⟩ := p'
      obtain ⟨V4, t4, r4, b4, w4, o4⟩ := e_tell (z := z) hI'.1 a3 (by omega)
      rw [t4, zb2_s, zopt_s, if_pos (show nI 0 ≤ r from hr0)]
      have y4 : Rw V4 (rws X.1) s := ⟨by omega, fun i hi => by rw [o4 _ (by omega) (by omega)]; exact y3.2 i hi⟩
      exact lw_92 (p := (s, σ)) (p' := (s', σ')) he hr hr0 hI hI' A hH hl b4 (by show rws V4 ≤ _; omega) y4 ⟨by show rws X3.1 < rws V4; omega, w4⟩
theorem whole_pure (L : Nat) (xs : Nat → Int32) (hL : L ≤ 260) (sz : Nat) : ∃ o, f_L L xs (sz, fun _ => none) = some (1, o) := by
  have g : Gd X00 (s00, id) [] (4 * 0) := ⟨Bc00, ⟨PS00, Cv00⟩, fun q h => (List.not_mem_nil h).elim, by rw [rws00]; omega⟩
  obtain ⟨h, e⟩ := lw_10 (xs := xs) (z := sz) hL 26 0 X00 (s00, id) [] rfl g
  refine ⟨h, ?_⟩
  rw [made, lit_0, e, lit_1]
