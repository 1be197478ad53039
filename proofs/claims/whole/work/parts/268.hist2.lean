/-! undo, keep, restore; characters of the text -/
theorem snoc_or {α : Type} (l : List α) : l = [] ∨ ∃ L b, l = L ++ [b] := by
  induction l with
  | nil => exact Or.inl rfl
  | cons a l ih =>
    right
    rcases ih with h | ⟨L, b, h⟩
    · exact ⟨[], a, by rw [h]; rfl⟩
    · exact ⟨a :: L, b, by rw [h]; rfl⟩
theorem sm_undo {z : Nat} {X : pX} {p : sS} {H : List sS} {K : Option sS} {T : List Int32} (hp' : Pp p H K T) (hb : Bc X p H K T) : SmT (f_X7_undo z) (f_X8_undo (z + 1278)) z X p H K T := by
  rcases snoc_or H with rfl | ⟨L, q, rfl⟩
  · have g : X.1 546 1 = nI 0 := hb.2.2.2.2.1.2.1
    refine sm_0 (r := -nI 5) hp' hb (by simp (disch := first | assumption | omega) only [f_X7_undo, m_rx0, m_rx1, m_rx2, m_rx3, m_rx4, m_ix, m_iO isB_3, m_iO isB_184, m_iO isB_365, m_iH, m_iX, m_iD, m_im, m_rm0, e_wi_t, e_wi_f, e_ro_t, e_ro_f, e8_wi_t, e8_wi_f, e8_ro_t, e8_ro_f, zbool_0, zbool_1, zb2_s, zif_t, zopt_n, zopt_s, b_s, znm_e, lit_0, lit_1, lit_2, lit_3, lit_4, lit_5, lit_6, lit_7, lit_8, lit_9, lit_10, lit_11, lit_12, lit_13, lit_17, lit_20, lit_23, lit_24, lit_43, lit_48, lit_51, lit_57, lit_58, lit_59, lit_60, lit_61, lit_63, lit_77, lit_100, lit_140, lit_168, lit_200, lit_393, lit_400, lit_900, lit_969, lit_1000, lit_1041, lit_1045, lit_1093, lit_1168, lit_1200, lit_3279, lit_3333, lit_4372, lit_9999, nI_10, if_false, if_true, m_gH1, g]) (fun Y hY => ?_)
    have k : Y.1 1278 9 = nI 0 := hY.2.1.1
    simp (disch := first | assumption | omega) only [f_X8_undo, m_rx0, m_rx1, m_rx2, m_rx3, m_rx4, m_ix, m_iO isB_3, m_iO isB_184, m_iO isB_365, m_iH, m_iX, m_iD, m_im, m_rm0, e_wi_t, e_wi_f, e_ro_t, e_ro_f, e8_wi_t, e8_wi_f, e8_ro_t, e8_ro_f, zbool_0, zbool_1, zb2_s, zif_t, zopt_n, zopt_s, b_s, znm_e, lit_0, lit_1, lit_2, lit_3, lit_4, lit_5, lit_6, lit_7, lit_8, lit_9, lit_10, lit_11, lit_12, lit_13, lit_17, lit_20, lit_23, lit_24, lit_43, lit_48, lit_51, lit_57, lit_58, lit_59, lit_60, lit_61, lit_63, lit_77, lit_100, lit_140, lit_168, lit_200, lit_393, lit_400, lit_900, lit_969, lit_1000, lit_1041, lit_1045, lit_1093, lit_1168, lit_1200, lit_3279, lit_3333, lit_4372, lit_9999, nI_10, if_false, if_true, m_gm9, k]
  · obtain ⟨a, b, c, d, e, f, g⟩ := hb
    have l4 : L.length < 4 := by have := e.2.2.1; simp at this; omega
    have e1 : HiC X (L.map toA ++ [toA q]) := by rw [List.map_append] at e; exact e
    have n1 : X.1 546 1 = nI (L.length + 1) := by rw [e.2.1]; simp
    have nz := ne_eqF (show L.length + 1 ≠ 0 by omega) (by omega) (by omega)
    obtain ⟨V1, k1, k2, k3, k4⟩ := e_back (z := z) a.1 e1
    have n2 : V1 546 1 = nI L.length := by
      have := k3.2.1
      rw [List.length_map] at this
      exact this
    refine ⟨nI L.length, (V1, X.2), q, L, K, T, ?_, fun o ho => k2 o (by omega), ⟨hp'.2.1 q (by simp), fun x hx => hp'.2.1 x (by simp [hx]), hp'.2.2⟩, ⟨k4, b.kept (k2 1 (by omega)) (k2 2 (by omega)), c, d, k3, f.mv (k2 0 (by omega)) rfl (fun o o1 o2 => k2 o (by omega)), g.mv (congrFun (k2 1272 (by omega)) 1) (k2 1273 (by omega))⟩, fun Y hY => ?_⟩
    · simp (disch := first | assumption | omega) only [f_X7_undo, m_rx0, m_rx1, m_rx2, m_rx3, m_rx4, m_ix, m_iO isB_3, m_iO isB_184, m_iO isB_365, m_iH, m_iX, m_iD, m_im, m_rm0, e_wi_t, e_wi_f, e_ro_t, e_ro_f, e8_wi_t, e8_wi_f, e8_ro_t, e8_ro_f, zbool_0, zbool_1, zb2_s, zif_t, zopt_n, zopt_s, b_s, znm_e, lit_0, lit_1, lit_2, lit_3, lit_4, lit_5, lit_6, lit_7, lit_8, lit_9, lit_10, lit_11, lit_12, lit_13, lit_17, lit_20, lit_23, lit_24, lit_43, lit_48, lit_51, lit_57, lit_58, lit_59, lit_60, lit_61, lit_63, lit_77, lit_100, lit_140, lit_168, lit_200, lit_393, lit_400, lit_900, lit_969, lit_1000, lit_1041, lit_1045, lit_1093, lit_1168, lit_1200, lit_3279, lit_3333, lit_4372, lit_9999, nI_10, if_false, if_true, m_gH1, n1, nz, k1, n2]
    · obtain ⟨h1, ⟨h2, h3, h4⟩, h5, h6⟩ := hY
      have n3 : Y.1 1278 9 = nI (L.length + 1) := by rw [h2]; simp
      have e2 : nI (L.length + 1) - nI 1 = nI L.length := nI_pred' _
      have h7 : ∀ j, j < 1093 → Y.1 1282 (1093 * L.length + j) = nI (q.1 j) := fun j hj => h4 L.length q.1 (by simp) j hj
      obtain ⟨V2, j1, j2, j3⟩ := e8_undoL (z := z) (s := q.1) (L := L.map Prod.fst) (by rw [List.length_map]; exact l4) 1093 zN 0 (sV Y.1 1278 (upd (Y.1 1278) 9 (nI L.length)), Y.2) (fun j hj => by
        dsimp only
        rw [sV_n (by omega), List.length_map]; exact h7 j hj) (by dsimp only; rw [sV_s, pk_us, List.length_map]) (fun i hi => by omega) (by omega) (zN_lt (by omega))
      rw [List.length_map] at j1
      have e9 : V2 1278 = upd (Y.1 1278) 9 (nI L.length) := by rw [j2 1278 (by omega)]; dsimp only; exact sV_s
      have kk : ∀ o, o ≠ 1279 → o ≠ 1278 → V2 o = Y.1 o := fun o h1 h2 => by rw [j2 o h1]; dsimp only; rw [sV_n h2]
      refine ⟨V2, ?_, fun o ho => kk o (by omega) (by omega), j3, ⟨by rw [e9, pk_us, List.length_map], by rw [List.length_map]; omega, fun i s hi j hj => ?_⟩, h5.mv (by rw [e9, pk_un (by omega)]) (kk 1280 (by omega) (by omega)), h6.mv (by rw [e9, pk_un (by omega)]) (kk 1283 (by omega) (by omega))⟩
      · simp (disch := first | assumption | omega) only [f_X8_undo, m_rx0, m_rx1, m_rx2, m_rx3, m_rx4, m_ix, m_iO isB_3, m_iO isB_184, m_iO isB_365, m_iH, m_iX, m_iD, m_im, m_rm0, e_wi_t, e_wi_f, e_ro_t, e_ro_f, e8_wi_t, e8_wi_f, e8_ro_t, e8_ro_f, zbool_0, zbool_1, zb2_s, zif_t, zopt_n, zopt_s, b_s, znm_e, lit_0, lit_1, lit_2, lit_3, lit_4, lit_5, lit_6, lit_7, lit_8, lit_9, lit_10, lit_11, lit_12, lit_13, lit_17, lit_20, lit_23, lit_24, lit_43, lit_48, lit_51, lit_57, lit_58, lit_59, lit_60, lit_61, lit_63, lit_77, lit_100, lit_140, lit_168, lit_200, lit_393, lit_400, lit_900, lit_969, lit_1000, lit_1041, lit_1045, lit_1093, lit_1168, lit_1200, lit_3279, lit_3333, lit_4372, lit_9999, nI_10, if_false, if_true, m_gm9, n3, nz, e2, m_pm9, j1]
      · rw [j2 1282 (by omega)]
        dsimp only
        rw [sV_n (by omega)]
        exact h4 i s (by rw [List.map_append, List.getElem?_append_left (getE_lt hi)]; exact hi) j hj
theorem sm_keep {z : Nat} {X : pX} {p : sS} {H : List sS} {K : Option sS} {T : List Int32} (hp' : Pp p H K T) (hb : Bc X p H K T) : SmT (f_X7_keep z) (f_X8_keep (z + 1278)) z X p H K T := by
  obtain ⟨a, b, c, d, e, f, g⟩ := hb
  obtain ⟨V1, k1, k2, k3⟩ := e_copy (z := z) isB_184 isB_3 (by omega) a c
  have n0 : V1 3 2 = nI (p.1 0) := by rw [k2 3 (by omega)]; exact a.2.1.1.1
  have kk : ∀ o, o ≠ 0 → o < 184 ∨ 365 ≤ o → sV V1 0 (upd (V1 0) 5 (nI 1)) o = X.1 o := fun o h1 h2 => (sV_n h1).trans (k2 o (by omega))
  refine ⟨nI (p.1 0), (sV V1 0 (upd (V1 0) 5 (nI 1)), X.2), p, H, some p, T, ?_, fun o ho => kk o (by omega) (by omega), ⟨hp'.1, hp'.2.1, fun q hq => by cases hq; exact hp'.1, hp'.2.2.2⟩, ⟨a.mv rfl (fun o o1 o2 => kk o (by omega) (by omega)), b.kept (kk 1 (by omega) (by omega)) (kk 2 (by omega) (by omega)), c, d, e.mv rfl (fun _ _ => rfl) (fun o o1 o2 => kk o (by omega) (by omega)), ⟨by dsimp only; rw [sV_s, pk_us], k3.mv rfl (fun o o1 o2 => sV_n (by omega))⟩, g.mv (congrFun (kk 1272 (by omega) (by omega)) 1) (kk 1273 (by omega) (by omega))⟩, fun Y hY => ?_⟩
  · have n1 : sV V1 0 (upd (V1 0) 5 (nI 1)) 3 2 = nI (p.1 0) := by rw [sV_n (by omega)]; exact n0
    simp (disch := first | assumption | omega) only [f_X7_keep, m_rx0, m_rx1, m_rx2, m_rx3, m_rx4, m_ix, m_iO isB_3, m_iO isB_184, m_iO isB_365, m_iH, m_iX, m_iD, m_im, m_rm0, e_wi_t, e_wi_f, e_ro_t, e_ro_f, e8_wi_t, e8_wi_f, e8_ro_t, e8_ro_f, zbool_0, zbool_1, zb2_s, zif_t, zopt_n, zopt_s, b_s, znm_e, lit_0, lit_1, lit_2, lit_3, lit_4, lit_5, lit_6, lit_7, lit_8, lit_9, lit_10, lit_11, lit_12, lit_13, lit_17, lit_20, lit_23, lit_24, lit_43, lit_48, lit_51, lit_57, lit_58, lit_59, lit_60, lit_61, lit_63, lit_77, lit_100, lit_140, lit_168, lit_200, lit_393, lit_400, lit_900, lit_969, lit_1000, lit_1041, lit_1045, lit_1093, lit_1168, lit_1200, lit_3279, lit_3333, lit_4372, lit_9999, nI_10, if_false, if_true, k1, m_px5, m_gO2 isB_3, n1]
  · obtain ⟨h1, h2, h3, h4⟩ := hY
    obtain ⟨V2, j1, j2, j3, j4⟩ := e8_keep (z := z) h1
    refine ⟨V2, j1, fun o ho => j2 o (by omega) (by omega), h1.kept (j2 1279 (by omega) (by omega)), h2.mv (by rw [j4, pk_un (by omega)]) (j2 1282 (by omega) (by omega)), ⟨by rw [j4, pk_us], j3⟩, h4.mv (by rw [j4, pk_un (by omega)]) (j2 1283 (by omega) (by omega))⟩
theorem sm_restore {z : Nat} {X : pX} {p : sS} {H : List sS} {K : Option sS} {T : List Int32} (hp' : Pp p H K T) (hb : Bc X p H K T) : SmT (f_X7_restore z) (f_X8_restore (z + 1278)) z X p H K T := by
  cases K with
  | none =>
    have g : X.1 0 5 = nI 0 := hb.2.2.2.2.2.1
    refine sm_0 (r := -nI 5) hp' hb (by simp (disch := first | assumption | omega) only [f_X7_restore, m_rx0, m_rx1, m_rx2, m_rx3, m_rx4, m_ix, m_iO isB_3, m_iO isB_184, m_iO isB_365, m_iH, m_iX, m_iD, m_im, m_rm0, e_wi_t, e_wi_f, e_ro_t, e_ro_f, e8_wi_t, e8_wi_f, e8_ro_t, e8_ro_f, zbool_0, zbool_1, zb2_s, zif_t, zopt_n, zopt_s, b_s, znm_e, lit_0, lit_1, lit_2, lit_3, lit_4, lit_5, lit_6, lit_7, lit_8, lit_9, lit_10, lit_11, lit_12, lit_13, lit_17, lit_20, lit_23, lit_24, lit_43, lit_48, lit_51, lit_57, lit_58, lit_59, lit_60, lit_61, lit_63, lit_77, lit_100, lit_140, lit_168, lit_200, lit_393, lit_400, lit_900, lit_969, lit_1000, lit_1041, lit_1045, lit_1093, lit_1168, lit_1200, lit_3279, lit_3333, lit_4372, lit_9999, nI_10, if_false, if_true, m_gx5, g]) (fun Y hY => ?_)
    have k : Y.1 1278 11 = nI 0 := hY.2.2.1
    simp (disch := first | assumption | omega) only [f_X8_restore, m_rx0, m_rx1, m_rx2, m_rx3, m_rx4, m_ix, m_iO isB_3, m_iO isB_184, m_iO isB_365, m_iH, m_iX, m_iD, m_im, m_rm0, e_wi_t, e_wi_f, e_ro_t, e_ro_f, e8_wi_t, e8_wi_f, e8_ro_t, e8_ro_f, zbool_0, zbool_1, zb2_s, zif_t, zopt_n, zopt_s, b_s, znm_e, lit_0, lit_1, lit_2, lit_3, lit_4, lit_5, lit_6, lit_7, lit_8, lit_9, lit_10, lit_11, lit_12, lit_13, lit_17, lit_20, lit_23, lit_24, lit_43, lit_48, lit_51, lit_57, lit_58, lit_59, lit_60, lit_61, lit_63, lit_77, lit_100, lit_140, lit_168, lit_200, lit_393, lit_400, lit_900, lit_969, lit_1000, lit_1041, lit_1045, lit_1093, lit_1168, lit_1200, lit_3279, lit_3333, lit_4372, lit_9999, nI_10, if_false, if_true, m_gm11, k]
  | some q =>
    have g : X.1 0 5 = nI 1 := hb.2.2.2.2.2.1.1
    have hq := hp'.2.2.1 q rfl
    obtain ⟨V1, t1, q1, q2, q3⟩ := c_rec (z := z) hb
    obtain ⟨a, b, c, d, e, f, gg⟩ := q3
    obtain ⟨V2, k1, k2, k3⟩ := e_copy (z := z) (X := (V1, X.2.1, t1)) isB_3 isB_184 (by omega) f.2 a.1
    dsimp only at k1
    have n0 : V2 3 2 = nI (q.1 0) := k3.2.1.1.1
    refine ⟨nI (q.1 0), (V2, X.2.1, t1), q, rec4 H p, some q, T, ?_, fun o ho => (k2 o (by omega)).trans (q2 o (by omega)), (hp'.rec).st hq, ⟨k3, b.kept (k2 1 (by omega)) (k2 2 (by omega)), c, d, e.mv rfl (fun _ _ => rfl) (fun o o1 o2 => k2 o (by omega)), f.mv (X := (V1, X.2.1, t1)) (k2 0 (by omega)) rfl (fun o o1 o2 => k2 o (by omega)), gg.mv (congrFun (k2 1272 (by omega)) 1) (k2 1273 (by omega))⟩, fun Y hY => ?_⟩
    · simp (disch := first | assumption | omega) only [f_X7_restore, m_rx0, m_rx1, m_rx2, m_rx3, m_rx4, m_ix, m_iO isB_3, m_iO isB_184, m_iO isB_365, m_iH, m_iX, m_iD, m_im, m_rm0, e_wi_t, e_wi_f, e_ro_t, e_ro_f, e8_wi_t, e8_wi_f, e8_ro_t, e8_ro_f, zbool_0, zbool_1, zb2_s, zif_t, zopt_n, zopt_s, b_s, znm_e, lit_0, lit_1, lit_2, lit_3, lit_4, lit_5, lit_6, lit_7, lit_8, lit_9, lit_10, lit_11, lit_12, lit_13, lit_17, lit_20, lit_23, lit_24, lit_43, lit_48, lit_51, lit_57, lit_58, lit_59, lit_60, lit_61, lit_63, lit_77, lit_100, lit_140, lit_168, lit_200, lit_393, lit_400, lit_900, lit_969, lit_1000, lit_1041, lit_1045, lit_1093, lit_1168, lit_1200, lit_3279, lit_3333, lit_4372, lit_9999, nI_10, if_false, if_true, m_gx5, g, q1, k1, m_gO2 isB_3, n0]
    · have k : Y.1 1278 11 = nI 1 := hY.2.2.1.1
      obtain ⟨V3, j1, j2, j3⟩ := m_rec (z := z) hY
      obtain ⟨V4, i1, i2, i3⟩ := e8_rstL (z := z) (s := q.1) 1093 zN 0 (V3, Y.2) j3.2.2.1.2 (fun i hi => by omega) (by omega) (zN_lt (by omega))
      refine ⟨V4, ?_, fun o ho => (i2 o (by omega)).trans (j2 o ho), j3.up (fun o ho => i2 o (by omega)) i3⟩
      simp (disch := first | assumption | omega) only [f_X8_restore, m_rx0, m_rx1, m_rx2, m_rx3, m_rx4, m_ix, m_iO isB_3, m_iO isB_184, m_iO isB_365, m_iH, m_iX, m_iD, m_im, m_rm0, e_wi_t, e_wi_f, e_ro_t, e_ro_f, e8_wi_t, e8_wi_f, e8_ro_t, e8_ro_f, zbool_0, zbool_1, zb2_s, zif_t, zopt_n, zopt_s, b_s, znm_e, lit_0, lit_1, lit_2, lit_3, lit_4, lit_5, lit_6, lit_7, lit_8, lit_9, lit_10, lit_11, lit_12, lit_13, lit_17, lit_20, lit_23, lit_24, lit_43, lit_48, lit_51, lit_57, lit_58, lit_59, lit_60, lit_61, lit_63, lit_77, lit_100, lit_140, lit_168, lit_200, lit_393, lit_400, lit_900, lit_969, lit_1000, lit_1041, lit_1045, lit_1093, lit_1168, lit_1200, lit_3279, lit_3333, lit_4372, lit_9999, nI_10, if_false, if_true, m_gm11, k, j1, i1]
theorem TxC.app {V : pV} {T : List Int32} (h : TxC V T) (c : Int32) : TxC (sV (sV V 1273 (upd (V 1273) T.length c)) 1272 (upd (V 1272) 1 (nI (T.length + 1)))) (T ++ [c]) := by
  refine ⟨by rw [sV_s, pk_us]; simp, fun i a hi => ?_⟩
  rw [sV_n (by omega), sV_s]
  by_cases d : i = T.length
  · subst d
    rw [pk_us]
    simpa using hi
  · rw [pk_un d]
    rw [List.getElem?_append_left (by have := getE_lt hi; simp at this; omega)] at hi
    exact h.2 i a hi
theorem TxM.app {V : pV} {T : List Int32} (h : TxM V T) (c : Int32) : TxM (sV (sV V 1283 (upd (V 1283) T.length c)) 1278 (upd (V 1278) 10 (nI (T.length + 1)))) (T ++ [c]) := by
  refine ⟨by rw [sV_s, pk_us]; simp, fun i a hi => ?_⟩
  rw [sV_n (by omega), sV_s]
  by_cases d : i = T.length
  · subst d
    rw [pk_us]
    simpa using hi
  · rw [pk_un d]
    rw [List.getElem?_append_left (by have := getE_lt hi; simp at this; omega)] at hi
    exact h.2 i a hi
theorem sm_type {z : Nat} {X : pX} {p : sS} {H : List sS} {K : Option sS} {T : List Int32} (hp' : Pp p H K T) (hb : Bc X p H K T) {c : Int32} (hc : vp_nar .char c = c) : SmT (f_X7_type z c) (f_X8_type (z + 1278) c) z X p H K T := by
  have n1 : X.1 1272 1 = nI T.length := hb.2.2.2.2.2.2.1
  have l60 := hp'.2.2.2
  by_cases c1 : T.length = 60
  · have eT : (T.length < 60) = False := eq_false (by omega)
    refine sm_0 (r := -nI 3) hp' hb (by simp (disch := first | assumption | omega) only [f_X7_type, f_X6_append, m_rx0, m_rx1, m_rx2, m_rx3, m_rx4, m_ix, m_iO isB_3, m_iO isB_184, m_iO isB_365, m_iH, m_iX, m_iD, m_im, m_rm0, e_wi_t, e_wi_f, e_ro_t, e_ro_f, e8_wi_t, e8_wi_f, e8_ro_t, e8_ro_f, zbool_0, zbool_1, zb2_s, zif_t, zopt_n, zopt_s, b_s, znm_e, lit_0, lit_1, lit_2, lit_3, lit_4, lit_5, lit_6, lit_7, lit_8, lit_9, lit_10, lit_11, lit_12, lit_13, lit_17, lit_20, lit_23, lit_24, lit_43, lit_48, lit_51, lit_57, lit_58, lit_59, lit_60, lit_61, lit_63, lit_77, lit_100, lit_140, lit_168, lit_200, lit_393, lit_400, lit_900, lit_969, lit_1000, lit_1041, lit_1045, lit_1093, lit_1168, lit_1200, lit_3279, lit_3333, lit_4372, lit_9999, nI_10, if_false, if_true, m_gX1, n1, e_wi_m]) (fun Y hY => ?_)
    have k : Y.1 1278 10 = nI T.length := hY.2.2.2.1
    have eT : (nI T.length = nI 60) = True := eq_true (by rw [c1])
    simp (disch := first | assumption | omega) only [f_X8_type, m_rx0, m_rx1, m_rx2, m_rx3, m_rx4, m_ix, m_iO isB_3, m_iO isB_184, m_iO isB_365, m_iH, m_iX, m_iD, m_im, m_rm0, e_wi_t, e_wi_f, e_ro_t, e_ro_f, e8_wi_t, e8_wi_f, e8_ro_t, e8_ro_f, zbool_0, zbool_1, zb2_s, zif_t, zopt_n, zopt_s, b_s, znm_e, lit_0, lit_1, lit_2, lit_3, lit_4, lit_5, lit_6, lit_7, lit_8, lit_9, lit_10, lit_11, lit_12, lit_13, lit_17, lit_20, lit_23, lit_24, lit_43, lit_48, lit_51, lit_57, lit_58, lit_59, lit_60, lit_61, lit_63, lit_77, lit_100, lit_140, lit_168, lit_200, lit_393, lit_400, lit_900, lit_969, lit_1000, lit_1041, lit_1045, lit_1093, lit_1168, lit_1200, lit_3279, lit_3333, lit_4372, lit_9999, nI_10, if_false, if_true, m_gm10, k, eT]
  · have eT : (T.length < 60) = True := eq_true (by omega)
    have eT2 := ne_eqF c1 (by omega) (by omega)
    obtain ⟨a, b, cc, d, e, f, g⟩ := hb
    have kk : ∀ o, o ≠ 1272 → o ≠ 1273 → sV (sV X.1 1273 (upd (X.1 1273) T.length c)) 1272 (upd (X.1 1272) 1 (nI (T.length + 1))) o = X.1 o := fun o h1 h2 => (sV_n h1).trans (sV_n h2)
    refine ⟨nI (T.length + 1), (sV (sV X.1 1273 (upd (X.1 1273) T.length c)) 1272 (upd (X.1 1272) 1 (nI (T.length + 1))), X.2), p, H, K, T ++ [c], ?_, fun o ho => kk o (by omega) (by omega), ⟨hp'.1, hp'.2.1, hp'.2.2.1, by simp; omega⟩, ⟨a.mv rfl (fun o o1 o2 => kk o (by omega) (by omega)), b.kept (kk 1 (by omega) (by omega)) (kk 2 (by omega) (by omega)), cc, d, e.mv rfl (fun _ _ => rfl) (fun o o1 o2 => kk o (by omega) (by omega)), f.mv (kk 0 (by omega) (by omega)) rfl (fun o o1 o2 => kk o (by omega) (by omega)), g.app c⟩, fun Y hY => ?_⟩
    · have s1 : sV X.1 1273 (upd (X.1 1273) T.length c) 1272 = X.1 1272 := sV_n (by omega)
      simp (disch := first | assumption | omega) only [f_X7_type, f_X6_append, m_rx0, m_rx1, m_rx2, m_rx3, m_rx4, m_ix, m_iO isB_3, m_iO isB_184, m_iO isB_365, m_iH, m_iX, m_iD, m_im, m_rm0, e_wi_t, e_wi_f, e_ro_t, e_ro_f, e8_wi_t, e8_wi_f, e8_ro_t, e8_ro_f, zbool_0, zbool_1, zb2_s, zif_t, zopt_n, zopt_s, b_s, znm_e, lit_0, lit_1, lit_2, lit_3, lit_4, lit_5, lit_6, lit_7, lit_8, lit_9, lit_10, lit_11, lit_12, lit_13, lit_17, lit_20, lit_23, lit_24, lit_43, lit_48, lit_51, lit_57, lit_58, lit_59, lit_60, lit_61, lit_63, lit_77, lit_100, lit_140, lit_168, lit_200, lit_393, lit_400, lit_900, lit_969, lit_1000, lit_1041, lit_1045, lit_1093, lit_1168, lit_1200, lit_3279, lit_3333, lit_4372, lit_9999, nI_10, if_false, if_true, m_gX1, n1, e_wi_n, hc, m_rX0, m_st1273, s1, m_pX1, nI_add, sV_s, pk_us]
    · obtain ⟨h1, h2, h3, h4⟩ := hY
      have k : Y.1 1278 10 = nI T.length := h4.1
      have s1 : sV Y.1 1283 (upd (Y.1 1283) T.length c) 1278 = Y.1 1278 := sV_n (by omega)
      have kk : ∀ o, o ≠ 1278 → o ≠ 1283 → sV (sV Y.1 1283 (upd (Y.1 1283) T.length c)) 1278 (upd (Y.1 1278) 10 (nI (T.length + 1))) o = Y.1 o := fun o h1 h2 => (sV_n h1).trans (sV_n h2)
      refine ⟨sV (sV Y.1 1283 (upd (Y.1 1283) T.length c)) 1278 (upd (Y.1 1278) 10 (nI (T.length + 1))), ?_, fun o ho => kk o (by omega) (by omega), h1.kept (kk 1279 (by omega) (by omega)), h2.mv (by rw [sV_s, pk_un (by omega)]) (kk 1282 (by omega) (by omega)), h3.mv (by rw [sV_s, pk_un (by omega)]) (kk 1280 (by omega) (by omega)), h4.app c⟩
      simp (disch := first | assumption | omega) only [f_X8_type, m_rx0, m_rx1, m_rx2, m_rx3, m_rx4, m_ix, m_iO isB_3, m_iO isB_184, m_iO isB_365, m_iH, m_iX, m_iD, m_im, m_rm0, e_wi_t, e_wi_f, e_ro_t, e_ro_f, e8_wi_t, e8_wi_f, e8_ro_t, e8_ro_f, zbool_0, zbool_1, zb2_s, zif_t, zopt_n, zopt_s, b_s, znm_e, lit_0, lit_1, lit_2, lit_3, lit_4, lit_5, lit_6, lit_7, lit_8, lit_9, lit_10, lit_11, lit_12, lit_13, lit_17, lit_20, lit_23, lit_24, lit_43, lit_48, lit_51, lit_57, lit_58, lit_59, lit_60, lit_61, lit_63, lit_77, lit_100, lit_140, lit_168, lit_200, lit_393, lit_400, lit_900, lit_969, lit_1000, lit_1041, lit_1045, lit_1093, lit_1168, lit_1200, lit_3279, lit_3333, lit_4372, lit_9999, nI_10, if_false, if_true, m_gm10, k, eT2, m_rm4, m_st1283, s1, m_pm10, nI_add, sV_s, pk_us]
theorem sm_clearText {z : Nat} {X : pX} {p : sS} {H : List sS} {K : Option sS} {T : List Int32} (hp' : Pp p H K T) (hb : Bc X p H K T) : SmT (f_X7_clearText z) (f_X8_clearText (z + 1278)) z X p H K T := by
  have n1 : X.1 1272 1 = nI T.length := hb.2.2.2.2.2.2.1
  obtain ⟨a, b, cc, d, e, f, g⟩ := hb
  have kk : ∀ o, o ≠ 1272 → sV X.1 1272 (upd (X.1 1272) 1 (nI 0)) o = X.1 o := fun o h1 => sV_n h1
  refine ⟨nI T.length, (sV X.1 1272 (upd (X.1 1272) 1 (nI 0)), X.2), p, H, K, [], ?_, fun o ho => kk o (by omega), ⟨hp'.1, hp'.2.1, hp'.2.2.1, by simp⟩, ⟨a.mv rfl (fun o o1 o2 => kk o (by omega)), b.kept (kk 1 (by omega)) (kk 2 (by omega)), cc, d, e.mv rfl (fun _ _ => rfl) (fun o o1 o2 => kk o (by omega)), f.mv (kk 0 (by omega)) rfl (fun o o1 o2 => kk o (by omega)), ⟨by dsimp only; rw [sV_s, pk_us]; rfl, fun i a hi => by simp at hi⟩⟩, fun Y hY => ?_⟩
  · simp (disch := first | assumption | omega) only [f_X7_clearText, m_rx0, m_rx1, m_rx2, m_rx3, m_rx4, m_ix, m_iO isB_3, m_iO isB_184, m_iO isB_365, m_iH, m_iX, m_iD, m_im, m_rm0, e_wi_t, e_wi_f, e_ro_t, e_ro_f, e8_wi_t, e8_wi_f, e8_ro_t, e8_ro_f, zbool_0, zbool_1, zb2_s, zif_t, zopt_n, zopt_s, b_s, znm_e, lit_0, lit_1, lit_2, lit_3, lit_4, lit_5, lit_6, lit_7, lit_8, lit_9, lit_10, lit_11, lit_12, lit_13, lit_17, lit_20, lit_23, lit_24, lit_43, lit_48, lit_51, lit_57, lit_58, lit_59, lit_60, lit_61, lit_63, lit_77, lit_100, lit_140, lit_168, lit_200, lit_393, lit_400, lit_900, lit_969, lit_1000, lit_1041, lit_1045, lit_1093, lit_1168, lit_1200, lit_3279, lit_3333, lit_4372, lit_9999, nI_10, if_false, if_true, m_gX1, n1, m_pX1]
  · obtain ⟨h1, h2, h3, h4⟩ := hY
    have k : Y.1 1278 10 = nI T.length := h4.1
    have kk : ∀ o, o ≠ 1278 → sV Y.1 1278 (upd (Y.1 1278) 10 (nI 0)) o = Y.1 o := fun o h1 => sV_n h1
    refine ⟨sV Y.1 1278 (upd (Y.1 1278) 10 (nI 0)), ?_, fun o ho => kk o (by omega), h1.kept (kk 1279 (by omega)), h2.mv (by rw [sV_s, pk_un (by omega)]) (kk 1282 (by omega)), h3.mv (by rw [sV_s, pk_un (by omega)]) (kk 1280 (by omega)), ⟨by rw [sV_s, pk_us]; rfl, fun i a hi => by simp at hi⟩⟩
    simp (disch := first | assumption | omega) only [f_X8_clearText, m_rx0, m_rx1, m_rx2, m_rx3, m_rx4, m_ix, m_iO isB_3, m_iO isB_184, m_iO isB_365, m_iH, m_iX, m_iD, m_im, m_rm0, e_wi_t, e_wi_f, e_ro_t, e_ro_f, e8_wi_t, e8_wi_f, e8_ro_t, e8_ro_f, zbool_0, zbool_1, zb2_s, zif_t, zopt_n, zopt_s, b_s, znm_e, lit_0, lit_1, lit_2, lit_3, lit_4, lit_5, lit_6, lit_7, lit_8, lit_9, lit_10, lit_11, lit_12, lit_13, lit_17, lit_20, lit_23, lit_24, lit_43, lit_48, lit_51, lit_57, lit_58, lit_59, lit_60, lit_61, lit_63, lit_77, lit_100, lit_140, lit_168, lit_200, lit_393, lit_400, lit_900, lit_969, lit_1000, lit_1041, lit_1045, lit_1093, lit_1168, lit_1200, lit_3279, lit_3333, lit_4372, lit_9999, nI_10, if_false, if_true, m_gm10, k, m_pm10]
theorem nar_id (v : Int32) : vp_nar .char ((v.toUInt32 % 65536).toInt32) = (v.toUInt32 % 65536).toInt32 := by
  have e : (v.toUInt32 % 65536) % 65536 = v.toUInt32 % 65536 := by
    apply UInt32.toNat_inj.mp
    rw [UInt32.toNat_mod, UInt32.toNat_mod]
    exact Nat.mod_mod _ _
  simp [vp_nar, narrow, e]
