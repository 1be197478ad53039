/-! p38: an act of the law -/
def lowV (a n : Int32) : Int32 := (a &&& 2147483647) - (a &&& 2147483647) / n * n
theorem e_low {a n : Int32} (hn : n ≠ 0) (h : zHp) : f_L_low a n h = some (lowV a n, h) := by
  unfold f_L_low zrem
  rw [if_neg hn]
  rfl
theorem zb2_id {o : Option (Int32 × zHp)} : zb2 o (fun v h => some (v, h)) = o := by
  cases o with
  | none => rfl
  | some x => rfl
/-- what is left of it when member, sailing and role are found -/
noncomputable def actK (a0 : Nat) (a1 a2 v1 v5 v9 v11 : Int32) (h12 : zHp) : Option (Int32 × zHp) :=
  if 4 ≤ v1 then
    if 6 ≤ v1 then
      if 10 ≤ v1 then
        if v1 = 10 then
          zb2 (f_L_low a2 2 h12) fun v45 h46 =>
          if v45 = 0 then
            zb2 (zif (zis h46 a0 7) (f_X7_climb a0 v5 v11 h46)) fun v49 h50 =>
            some (v49, h50)
          else
            zb2 (zif (zis h46 a0 7) (f_X7_leave a0 v5 v11 h46)) fun v47 h48 =>
            some (v47, h48)
        else
          if v1 = 11 then
            zb2 (f_L_low a2 3 h12) fun v39 h40 =>
            if v39 = 0 then
              zb2 (zif (zis h40 a0 7) (f_X7_cancel a0 v9 h40)) fun v43 h44 =>
              some (v43, h44)
            else
              zb2 (zif (zis h40 a0 7) (f_X7_fill a0 v9 h40)) fun v41 h42 =>
              some (v41, h42)
          else
            if v1 = 12 then
              zb2 (zif (zis h12 a0 7) (f_X7_giveUp a0 v5 v9 h12)) fun v37 h38 =>
              some (v37, h38)
            else
              if v1 = 13 then
                zb2 (f_L_low a2 3 h12) fun v29 h30 =>
                if v29 = 0 then
                  zb2 (zif (zis h30 a0 7) (f_X7_well a0 v5 h30)) fun v35 h36 =>
                  some (v35, h36)
                else
                  zb2 (f_L_low (a2 >>> (4 &&& 31)) 40 h30) fun v31 h32 =>
                  zb2 (zif (zis h32 a0 7) (f_X7_sick a0 v5 (1 + v31) h32)) fun v33 h34 =>
                  some (v33, h34)
              else
                if v1 = 14 then
                  zb2 (f_L_low (a1 >>> (8 &&& 31)) 300 h12) fun v25 h26 =>
                  zb2 (zif (zis h26 a0 7) (f_X7_certify a0 v5 v11 v25 h26)) fun v27 h28 =>
                  some (v27, h28)
                else
                  if v1 = 15 then
                    zb2 (f_L_low a2 5 h12) fun v19 h20 =>
                    zb2 (f_L_low (a2 >>> (3 &&& 31)) 13 h20) fun v21 h22 =>
                    zb2 (zif (zis h22 a0 7) (f_X7_set a0 v19 v21 h22)) fun v23 h24 =>
                    some (v23, h24)
                  else
                    if v1 = 16 then
                      zb2 (f_L_low a2 8 h12) fun v15 h16 =>
                      zb2 (zif (zis h16 a0 7) (f_X7_pass a0 (1 + v15) h16)) fun v17 h18 =>
                      some (v17, h18)
                    else
                      zb2 (zif (zis h12 a0 7) (f_X7_fill a0 v9 h12)) fun v13 h14 =>
                      some (v13, h14)
      else
        zb2 (f_L_low (a1 >>> (7 &&& 31)) 3 h12) fun v51 h52 =>
        if v51 ≤ 0 then
          f_L_act_180 v11 v9 v5 a0 h52
        else
          zb2 (f_L_low (a2 >>> (7 &&& 31)) 2 h52) fun v53 h54 =>
          f_L_act_180 v53 v9 v5 a0 h54
    else
      zb2 (f_L_low (a1 >>> (8 &&& 31)) 200 h12) fun v55 h56 =>
      zb2 (zif (zis h56 a0 7) (f_X7_member a0 v11 (20 + v55) h56)) fun v57 h58 =>
      some (v57, h58)
  else
    zb2 (f_L_low a2 3 h12) fun v59 h60 =>
    zb2 (zif (zis h60 a0 7) (f_X7_count a0 0 h60)) fun v61 h62 =>
    zb2 (f_L_low (a2 >>> (2 &&& 31)) 40 h62) fun v63 h64 =>
    zb2 (f_L_low (a2 >>> (5 &&& 31)) 12 h64) fun v65 h66 =>
    zb2 (f_L_low (a2 >>> (8 &&& 31)) 3 h66) fun v67 h68 =>
    zb2 (f_L_low (a2 >>> (10 &&& 31)) 2 h68) fun v69 h70 =>
    zb2 (f_L_low (a2 >>> (12 &&& 31)) 2 h70) fun v71 h72 =>
    zb2 (zif (zis h72 a0 7) (f_X7_sailing a0 v59 (v61 + v63) (1 + v65) (((1000 * v67) + (100 * v69)) + v71) h72)) fun v73 h74 =>
    some (v73, h74)
theorem KpD.T {V V' : pV} (h : KpD V V') : KpT V V' := fun o a b _ => h o a b
theorem ac_pre {F G : zHp → Option (Int32 × zHp)} {z : Nat} {p : sS} {N M : Int32 → Prop} (hF : Ac N M F z p) (h : ∀ X H K T, Bc X p H K T → ∃ V1, KpD X.1 V1 ∧ Bc (V1, X.2) p H K T ∧ G (hp z X) = F (hp z (V1, X.2))) : Ac N M G z p := by
  rcases hF with ⟨r, hr, g⟩ | ⟨r, p', hr, hI, g⟩
  · refine Or.inl ⟨r, hr, fun X H K T hb => ?_⟩
    obtain ⟨V1, k, b, e⟩ := h X H K T hb
    obtain ⟨V2, f1, f2, f3⟩ := g (V1, X.2) H K T b
    exact ⟨V2, e.trans f1, k.T.tr f2, f3⟩
  · refine Or.inr ⟨r, p', hr, hI, fun X H K T hb => ?_⟩
    obtain ⟨V1, k, b, e⟩ := h X H K T hb
    obtain ⟨X1, f1, f2, f3⟩ := g (V1, X.2) H K T b
    exact ⟨X1, e.trans f1, fun o ho => (f2 o ho).trans (k o (by omega) (by omega)), f3⟩
theorem ac_mk {F G : zHp → Option (Int32 × zHp)} {z : Nat} {p : sS} {N M : Int32 → Prop} (hF : Ac N M F z p) (h : ∀ X, G (hp z X) = F (hp z X)) : Ac N M G z p :=
  ac_pre hF (fun X H K T hb => ⟨X.1, KpD.rf, hb, h X⟩)
theorem ac_180 {z : Nat} {s σ : Nat → Nat} (hI : Iv (s, σ)) (v5 v9 v : Int32) : Ac Ng Nn (fun h => f_L_act_180 v v9 v5 z h) z (s, σ) := by
  rcases ac_give (z := z) hI v5 v9 v with ⟨r, hr, g⟩ | ⟨r, p', hr, hI', g⟩
  · rcases hr with hr | ⟨j, j1, j6, rfl⟩
    · refine Or.inl ⟨r, hr, fun X H K T hb => ?_⟩
      obtain ⟨V1, f1, f2, f3⟩ := g X H K T hb
      refine ⟨V1, ?_, f2, f3⟩
      have hr : r < nI 0 := hr
      have c : r ≤ 0 := by rw [lit_0]; exact Int32.le_of_lt hr
      simp only [f_L_act_180, m_ix, zif_t, f1, zb2_s, if_pos c]
    · have hn : Ng (-nI j) := by
        unfold Ng
        rcases (show j = 1 ∨ j = 2 ∨ j = 3 ∨ j = 4 ∨ j = 5 ∨ j = 6 by omega) with rfl | rfl | rfl | rfl | rfl | rfl <;> decide
      refine Or.inl ⟨-nI j, hn, fun X H K T hb => ?_⟩
      obtain ⟨V1, f1, f2, f3⟩ := g X H K T hb
      refine ⟨V1, ?_, f2, f3⟩
      have c : ¬ nI j ≤ 0 := by rw [lit_0]; exact no_le j1 (by omega)
      simp only [f_L_act_180, m_ix, zif_t, f1, zb2_s, if_neg c]
  · have hr : r = nI 0 := hr
    subst hr
    refine Or.inr ⟨nI 0, p', nn0 (by omega), hI', fun X H K T hb => ?_⟩
    obtain ⟨X1, f1, f2, f3⟩ := g X H K T hb
    refine ⟨X1, ?_, f2, f3⟩
    have c : nI 0 ≤ 0 := by decide
    simp only [f_L_act_180, m_ix, zif_t, f1, zb2_s, if_pos c]
theorem ac_K {z : Nat} {s σ : Nat → Nat} (hI : Iv (s, σ)) (g x v1 v5 v9 v11 : Int32) : Ac Ng Nn (fun h => actK z g x v1 v5 v9 v11 h) z (s, σ) := by
  have n2 : (2 : Int32) ≠ 0 := by decide
  have n3 : (3 : Int32) ≠ 0 := by decide
  have n5 : (5 : Int32) ≠ 0 := by decide
  have n8 : (8 : Int32) ≠ 0 := by decide
  have n12 : (12 : Int32) ≠ 0 := by decide
  have n13 : (13 : Int32) ≠ 0 := by decide
  have n40 : (40 : Int32) ≠ 0 := by decide
  have n200 : (200 : Int32) ≠ 0 := by decide
  have n300 : (300 : Int32) ≠ 0 := by decide
  by_cases c4 : 4 ≤ v1
  · by_cases c6 : 6 ≤ v1
    · by_cases c10 : 10 ≤ v1
      · by_cases d10 : v1 = 10
        · by_cases e : lowV x 2 = 0
          · exact ac_mk (ac_climb hI v5 v11) (fun X => by unfold actK; refine (if_pos c4).trans ?_; refine (if_pos c6).trans ?_; refine (if_pos c10).trans ?_; refine (if_pos d10).trans ?_; rw [e_low n2, zb2_s, if_pos e, m_ix, zif_t, zb2_id])
          · exact ac_mk (ac_leave hI v5 v11) (fun X => by unfold actK; refine (if_pos c4).trans ?_; refine (if_pos c6).trans ?_; refine (if_pos c10).trans ?_; refine (if_pos d10).trans ?_; rw [e_low n2, zb2_s, if_neg e, m_ix, zif_t, zb2_id])
        by_cases d11 : v1 = 11
        · by_cases e : lowV x 3 = 0
          · exact ac_mk (ac_cancel hI v9) (fun X => by unfold actK; refine (if_pos c4).trans ?_; refine (if_pos c6).trans ?_; refine (if_pos c10).trans ?_; refine (if_neg d10).trans ?_; refine (if_pos d11).trans ?_; rw [e_low n3, zb2_s, if_pos e, m_ix, zif_t, zb2_id])
          · exact ac_mk (ac_fill hI v9) (fun X => by unfold actK; refine (if_pos c4).trans ?_; refine (if_pos c6).trans ?_; refine (if_pos c10).trans ?_; refine (if_neg d10).trans ?_; refine (if_pos d11).trans ?_; rw [e_low n3, zb2_s, if_neg e, m_ix, zif_t, zb2_id])
        by_cases d12 : v1 = 12
        · exact ac_mk (ac_giveUp hI v5 v9) (fun X => by unfold actK; refine (if_pos c4).trans ?_; refine (if_pos c6).trans ?_; refine (if_pos c10).trans ?_; refine (if_neg d10).trans ?_; refine (if_neg d11).trans ?_; refine (if_pos d12).trans ?_; rw [m_ix, zif_t, zb2_id])
        by_cases d13 : v1 = 13
        · by_cases e : lowV x 3 = 0
          · exact ac_mk (ac_well hI v5) (fun X => by unfold actK; refine (if_pos c4).trans ?_; refine (if_pos c6).trans ?_; refine (if_pos c10).trans ?_; refine (if_neg d10).trans ?_; refine (if_neg d11).trans ?_; refine (if_neg d12).trans ?_; refine (if_pos d13).trans ?_; rw [e_low n3, zb2_s, if_pos e, m_ix, zif_t, zb2_id])
          · exact ac_mk (ac_sick hI v5 ((1 : Int32) + lowV (x >>> (4 &&& 31)) 40)) (fun X => by unfold actK; refine (if_pos c4).trans ?_; refine (if_pos c6).trans ?_; refine (if_pos c10).trans ?_; refine (if_neg d10).trans ?_; refine (if_neg d11).trans ?_; refine (if_neg d12).trans ?_; refine (if_pos d13).trans ?_; rw [e_low n3, zb2_s, if_neg e, e_low n40, zb2_s, m_ix, zif_t, zb2_id])
        by_cases d14 : v1 = 14
        · exact ac_mk (ac_certify hI v5 v11 (lowV (g >>> (8 &&& 31)) 300)) (fun X => by unfold actK; refine (if_pos c4).trans ?_; refine (if_pos c6).trans ?_; refine (if_pos c10).trans ?_; refine (if_neg d10).trans ?_; refine (if_neg d11).trans ?_; refine (if_neg d12).trans ?_; refine (if_neg d13).trans ?_; refine (if_pos d14).trans ?_; rw [e_low n300, zb2_s, m_ix, zif_t, zb2_id])
        by_cases d15 : v1 = 15
        · exact ac_mk (ac_set hI (lowV x 5) (lowV (x >>> (3 &&& 31)) 13)) (fun X => by unfold actK; refine (if_pos c4).trans ?_; refine (if_pos c6).trans ?_; refine (if_pos c10).trans ?_; refine (if_neg d10).trans ?_; refine (if_neg d11).trans ?_; refine (if_neg d12).trans ?_; refine (if_neg d13).trans ?_; refine (if_neg d14).trans ?_; refine (if_pos d15).trans ?_; rw [e_low n5, zb2_s, e_low n13, zb2_s, m_ix, zif_t, zb2_id])
        by_cases d16 : v1 = 16
        · exact ac_mk (ac_pass hI ((1 : Int32) + lowV x 8)) (fun X => by unfold actK; refine (if_pos c4).trans ?_; refine (if_pos c6).trans ?_; refine (if_pos c10).trans ?_; refine (if_neg d10).trans ?_; refine (if_neg d11).trans ?_; refine (if_neg d12).trans ?_; refine (if_neg d13).trans ?_; refine (if_neg d14).trans ?_; refine (if_neg d15).trans ?_; refine (if_pos d16).trans ?_; rw [e_low n8, zb2_s, m_ix, zif_t, zb2_id])
        · exact ac_mk (ac_fill hI v9) (fun X => by unfold actK; refine (if_pos c4).trans ?_; refine (if_pos c6).trans ?_; refine (if_pos c10).trans ?_; refine (if_neg d10).trans ?_; refine (if_neg d11).trans ?_; refine (if_neg d12).trans ?_; refine (if_neg d13).trans ?_; refine (if_neg d14).trans ?_; refine (if_neg d15).trans ?_; refine (if_neg d16).trans ?_; rw [m_ix, zif_t, zb2_id])
      · by_cases e : lowV (g >>> (7 &&& 31)) 3 ≤ 0
        · exact ac_mk (ac_180 hI v5 v9 v11) (fun X => by unfold actK; refine (if_pos c4).trans ?_; refine (if_pos c6).trans ?_; refine (if_neg c10).trans ?_; rw [e_low n3, zb2_s, if_pos e])
        · exact ac_mk (ac_180 hI v5 v9 (lowV (x >>> (7 &&& 31)) 2)) (fun X => by unfold actK; refine (if_pos c4).trans ?_; refine (if_pos c6).trans ?_; refine (if_neg c10).trans ?_; rw [e_low n3, zb2_s, if_neg e, e_low n2, zb2_s])
    · exact ac_mk (ac_member hI v11 ((20 : Int32) + lowV (g >>> (8 &&& 31)) 200)) (fun X => by unfold actK; refine (if_pos c4).trans ?_; refine (if_neg c6).trans ?_; rw [e_low n200, zb2_s, m_ix, zif_t, zb2_id])
  · refine ac_pre (ac_sailing hI (lowV x 3) (nI (s 0) + lowV (x >>> (2 &&& 31)) 40) ((1 : Int32) + lowV (x >>> (5 &&& 31)) 12) ((((1000 : Int32) * lowV (x >>> (8 &&& 31)) 3) + ((100 : Int32) * lowV (x >>> (10 &&& 31)) 2)) + lowV (x >>> (12 &&& 31)) 2)) (fun X H K T hb => ?_)
    obtain ⟨V1, q1, k1, d1⟩ := qn_count (z := z) hI.1 hb (k := 0) (by omega)
    have q1 : f_X7_count z 0 (hp z X) = some (nI (s 0), hp z (V1, X.2)) := by rw [lit_0]; exact q1
    exact ⟨V1, k1, hb.kd k1 d1, by unfold actK; refine (if_neg c4).trans ?_; rw [e_low n3, zb2_s, m_ix, zif_t, q1, zb2_s, e_low n40, zb2_s, e_low n12, zb2_s, e_low n3, zb2_s, e_low n2, zb2_s, e_low n2, zb2_s, m_ix, zif_t, zb2_id]⟩
theorem ac_act {z : Nat} {s σ : Nat → Nat} (hI : Iv (s, σ)) (g x : Int32) : Ac Ng Nn (f_L_act z g x) z (s, σ) := by
  have hP : PS s σ := hI.1
  have hC : Cv s := hI.2
  have hB := hP.B
  have b1 := hP.W.n48
  have b2 := hP.W.m12
  refine ac_pre (ac_K hI g x (lowV (g >>> (3 &&& 31)) 18) (lowV x (nI (s 2) + 1)) (lowV (x >>> (3 &&& 31)) (nI (s 1) + 1)) (lowV (x >>> (7 &&& 31)) 4)) (fun X H K T hb => ?_)
  obtain ⟨V1, q1, k1, d1⟩ := qn_count (z := z) hP hb (k := 5) (by omega)
  have hb1 := hb.kd k1 d1
  obtain ⟨V2, q2, k2, d2⟩ := qn_count (z := z) hP hb1 (k := 1) (by omega)
  have q1 : f_X7_count z 5 (hp z X) = some (nI (s 2), hp z (V1, X.2)) := by rw [lit_5]; exact q1
  have q2 : f_X7_count z 1 (hp z (V1, X.2)) = some (nI (s 1), hp z (V2, X.2)) := by rw [lit_1]; exact q2
  have n18 : (18 : Int32) ≠ 0 := by decide
  have n4 : (4 : Int32) ≠ 0 := by decide
  have m1 : nI (s 2) + 1 ≠ 0 := by rw [lit_1, nI_add, lit_0]; exact fun e => by have := (nI_eq (by omega) (by omega)).mp e; omega
  have m2 : nI (s 1) + 1 ≠ 0 := by rw [lit_1, nI_add, lit_0]; exact fun e => by have := (nI_eq (by omega) (by omega)).mp e; omega
  refine ⟨V2, k1.tr k2, hb1.kd k2 d2, ?_⟩
  unfold f_L_act
  rw [e_low n18, zb2_s, m_ix, zif_t, q1, zb2_s, e_low m1, zb2_s, m_ix, zif_t, q2, zb2_s, e_low m2, zb2_s, e_low n4, zb2_s]
  rfl
