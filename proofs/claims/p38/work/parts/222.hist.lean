/-! the history -/
theorem isB_dis {B C : Nat} (hb : isB B) (hc : isB C) (h : B ≠ C) : B + 181 ≤ C ∨ C + 181 ≤ B := by
  unfold isB at hb hc; omega
theorem StC.mv {X X' : pX} {B : Nat} {s : Nat → Nat} {u : Nat → Nat → Nat} {ls : Nat → List Nat} (h : StC X B s u ls) (hW : X'.2.1 B = X.2.1 B) (hk : ∀ o, B ≤ o → o < B + 181 → X'.1 o = X.1 o) : StC X' B s u ls := by
  unfold StC
  rw [hW]
  exact ⟨h.1, h.2.1.kept h.1 hk, h.2.2⟩
theorem e_copy {z B C : Nat} {X : pX} (hb : isB B) (hc : isB C) (hne : B ≠ C) {s : Nat → Nat} {u : Nat → Nat → Nat} {ls : Nat → List Nat} (hS : StC X C s u ls) (hw : Ord (X.2.1 B)) : ∃ V', f_X5_copyFrom (z + B) (z + C) (hp z X) = some (hp z (V', X.2)) ∧ (∀ o, (o < B ∨ B + 181 ≤ o) → V' o = X.1 o) ∧ StC (V', X.2) B s u ls := by
  obtain ⟨V', g1, g2, g3⟩ := e_copyO (z := z) hb hc (isB_dis hb hc hne) hw hS.1 (fun q hq => (hS.2.2.2.2 q hq).1) hS.2.1
  exact ⟨V', g1, g2, hw, g3, hS.2.2⟩
abbrev aT : Type := (Nat → Nat) × ((Nat → Nat → Nat) × (Nat → List Nat))
def StA (X : pX) (B : Nat) (a : aT) : Prop := StC X B a.1 a.2.1 a.2.2
def TO (t : Nat → Nat) : Prop := (∀ i, i < 4 → isB (t i) ∧ 548 ≤ t i) ∧ ∀ i j, i < 4 → j < 4 → t i = t j → i = j
def HiC (X : pX) (L : List aT) : Prop := TO X.2.2 ∧ X.1 546 1 = nI L.length ∧ L.length ≤ 4 ∧ (∀ i, i < 4 → Ord (X.2.1 (X.2.2 i))) ∧ ∀ i a, L[i]? = some a → StA X (X.2.2 i) a
def rot (t : Nat → Nat) : Nat → Nat := updN (updN (updN (updN t 0 (t 1)) 1 (t 2)) 2 (t 3)) 3 (t 0)
theorem rot_e (t : Nat → Nat) : rot t 0 = t 1 ∧ rot t 1 = t 2 ∧ rot t 2 = t 3 ∧ rot t 3 = t 0 := by
  refine ⟨?_, ?_, ?_, ?_⟩ <;> simp [rot, updN]
theorem rot_TO {t : Nat → Nat} (h : TO t) : TO (rot t) := by
  obtain ⟨e0, e1, e2, e3⟩ := rot_e t
  have a0 := h.1 0 (by omega)
  have a1 := h.1 1 (by omega)
  have a2 := h.1 2 (by omega)
  have a3 := h.1 3 (by omega)
  have n01 : t 0 ≠ t 1 := fun q => absurd (h.2 0 1 (by omega) (by omega) q) (by omega)
  have n02 : t 0 ≠ t 2 := fun q => absurd (h.2 0 2 (by omega) (by omega) q) (by omega)
  have n03 : t 0 ≠ t 3 := fun q => absurd (h.2 0 3 (by omega) (by omega) q) (by omega)
  have n12 : t 1 ≠ t 2 := fun q => absurd (h.2 1 2 (by omega) (by omega) q) (by omega)
  have n13 : t 1 ≠ t 3 := fun q => absurd (h.2 1 3 (by omega) (by omega) q) (by omega)
  have n23 : t 2 ≠ t 3 := fun q => absurd (h.2 2 3 (by omega) (by omega) q) (by omega)
  refine ⟨fun i hi => ?_, fun i j hi hj q => ?_⟩
  · rcases (show i = 0 ∨ i = 1 ∨ i = 2 ∨ i = 3 by omega) with rfl | rfl | rfl | rfl
    · rw [e0]; exact a1
    · rw [e1]; exact a2
    · rw [e2]; exact a3
    · rw [e3]; exact a0
  · rcases (show i = 0 ∨ i = 1 ∨ i = 2 ∨ i = 3 by omega) with rfl | rfl | rfl | rfl <;> rcases (show j = 0 ∨ j = 1 ∨ j = 2 ∨ j = 3 by omega) with rfl | rfl | rfl | rfl <;> first | rfl | (exfalso; simp only [e0, e1, e2, e3] at q; omega)
theorem e_drop {z : Nat} {X : pX} (ht : TO X.2.2) : f_X1_dropOldest (z + 546) (hp z X) = some (hp z (sV X.1 546 (upd (X.1 546) 1 (nI 3)), X.2.1, rot X.2.2)) := by
  obtain ⟨fuel, hfu⟩ : ∃ f, zN = f + 4 := ⟨zN - 4, by have := zN_eq; omega⟩
  have a0 := (ht.1 0 (by omega)).1
  have a1 := (ht.1 1 (by omega)).1
  have a2 := (ht.1 2 (by omega)).1
  have a3 := (ht.1 3 (by omega)).1
  have s1 : nI 1 - nI 1 = nI 0 := by decide
  have s2 : nI 2 - nI 1 = nI 1 := by decide
  have s3 : nI 3 - nI 1 = nI 2 := by decide
  have l1 : ¬ nI 4 ≤ nI 1 := by decide
  have l2 : ¬ nI 4 ≤ nI 2 := by decide
  have l3 : ¬ nI 4 ≤ nI 3 := by decide
  have l4 : nI 4 ≤ nI 4 := by decide
  have k1 : nI 1 + nI 1 = nI 2 := by decide
  have k2 : nI 2 + nI 1 = nI 3 := by decide
  have k3 : nI 3 + nI 1 = nI 4 := by decide
  have n2 : ∀ v, updN X.2.2 0 v 2 = X.2.2 2 := fun v => updN_n (by omega)
  have n3 : ∀ v v', updN (updN X.2.2 0 v) 1 v' 3 = X.2.2 3 := fun v v' => by rw [updN_n (by omega), updN_n (by omega)]
  unfold f_X1_dropOldest
  rw [hfu]
  simp (disch := first | assumption | omega) only [f_X1_dropOldest_9, f_X1_dropOldest_9_body, m_rH0, m_ldH, m_stT', m_pH1, zb2_s, zif_t, zopt_n, zopt_s, b_s, znm_e, lit_0, lit_1, lit_2, lit_3, lit_4, lit_5, lit_6, lit_7, lit_8, lit_9, lit_10, lit_11, lit_12, lit_13, lit_14, lit_15, lit_16, lit_17, lit_18, lit_20, lit_24, lit_26, lit_30, lit_40, lit_45, lit_46, lit_47, lit_48, lit_60, lit_63, lit_64, lit_77, lit_100, lit_140, lit_168, lit_200, lit_300, lit_400, lit_900, lit_1000, lit_1168, lit_1997, lit_3333, lit_9999, lit_10000, s1, s2, s3, l1, l2, l3, l4, k1, k2, k3, if_false, if_true, n2, n3]
  rfl
def recL (L : List aT) (a : aT) : List aT := if L.length = 4 then L.tail ++ [a] else L ++ [a]
theorem e_rec12 {z : Nat} {X : pX} {a : aT} {L : List aT} (hS : StA X 3 a) (hH : HiC X L) (hl : L.length < 4) : ∃ V', f_X1_record_12 (z + 546) (z + 3) (hp z X) = some (hp z (V', X.2)) ∧ (∀ o, o < 546 ∨ 1272 ≤ o → V' o = X.1 o) ∧ HiC (V', X.2) (L ++ [a]) := by
  obtain ⟨h1, h2, h3, h4, h5⟩ := hH
  have hB := h1.1 L.length hl
  have hbl := isB_lt hB.1
  obtain ⟨V1, g1, g2, g3⟩ := e_copy (z := z) hB.1 isB_3 (by omega) hS (h4 _ hl)
  have k1 : V1 546 1 = nI L.length := by rw [g2 546 (by omega)]; exact h2
  refine ⟨sV V1 546 (upd (V1 546) 1 (V1 546 1 + nI 1)), ?_, fun o ho => by rw [sV_n (by omega)]; exact g2 o (by omega), h1, ?_, by simp; omega, h4, fun i b hi => ?_⟩
  · simp (disch := first | assumption | omega) only [f_X1_record_12, m_rH0, m_gH1, m_pH1, m_ldH, m_iO hB.1, zb2_s, zif_t, zopt_n, zopt_s, b_s, znm_e, lit_0, lit_1, lit_2, lit_3, lit_4, lit_5, lit_6, lit_7, lit_8, lit_9, lit_10, lit_11, lit_12, lit_13, lit_14, lit_15, lit_16, lit_17, lit_18, lit_20, lit_24, lit_26, lit_30, lit_40, lit_45, lit_46, lit_47, lit_48, lit_60, lit_63, lit_64, lit_77, lit_100, lit_140, lit_168, lit_200, lit_300, lit_400, lit_900, lit_1000, lit_1168, lit_1997, lit_3333, lit_9999, lit_10000, h2, g1, e_wi_n, nI_10, if_false]
  · dsimp only; rw [sV_s, pk_us, k1, nI_add]; simp
  · have hi4 : i < 4 := by have := getE_lt hi; simp at this; omega
    have hBi := h1.1 i hi4
    have hbi := isB_lt hBi.1
    by_cases c : i = L.length
    · subst c
      simp at hi
      subst hi
      exact g3.mv rfl (fun o a b => sV_n (by omega))
    · have hne : X.2.2 i ≠ X.2.2 L.length := fun q => c (h1.2 i _ hi4 hl q)
      have hdis := isB_dis hBi.1 hB.1 hne
      rw [List.getElem?_append_left (by have := getE_lt hi; simp at this; omega)] at hi
      exact (h5 i b hi).mv rfl (fun o a b => by dsimp only; rw [sV_n (by omega)]; exact g2 o (by omega))
theorem e_record {z : Nat} {X : pX} {a : aT} {L : List aT} (hS : StA X 3 a) (hH : HiC X L) : ∃ V' t', f_X1_record (z + 546) (z + 3) (hp z X) = some (hp z (V', X.2.1, t')) ∧ (∀ o, o < 546 ∨ 1272 ≤ o → V' o = X.1 o) ∧ HiC (V', X.2.1, t') (recL L a) := by
  have hh := hH
  obtain ⟨h1, h2, h3, h4, h5⟩ := hh
  by_cases c : L.length = 4
  · have e1 := e_drop (z := z) h1
    obtain ⟨r0, r1, r2, r3⟩ := rot_e X.2.2
    have hT : HiC (sV X.1 546 (upd (X.1 546) 1 (nI 3)), X.2.1, rot X.2.2) L.tail := by
      refine ⟨rot_TO h1, by dsimp only; rw [sV_s, pk_us]; simp [c], by simp; omega, fun i hi => ?_, fun i b hi => ?_⟩
      · dsimp only
        rcases (show i = 0 ∨ i = 1 ∨ i = 2 ∨ i = 3 by omega) with rfl | rfl | rfl | rfl
        · rw [r0]; exact h4 1 (by omega)
        · rw [r1]; exact h4 2 (by omega)
        · rw [r2]; exact h4 3 (by omega)
        · rw [r3]; exact h4 0 (by omega)
      · have hi3 : i < 3 := by have := getE_lt hi; simp at this; omega
        rw [List.getElem?_tail] at hi
        have hq := h5 (i + 1) b hi
        have e : rot X.2.2 i = X.2.2 (i + 1) := by
          rcases (show i = 0 ∨ i = 1 ∨ i = 2 by omega) with rfl | rfl | rfl
          · exact r0
          · exact r1
          · exact r2
        have hBi := h1.1 (i + 1) (by omega)
        show StA _ (rot X.2.2 i) b
        rw [e]
        exact hq.mv rfl (fun o a b => sV_n (by omega))
    obtain ⟨V', g1, g2, g3⟩ := e_rec12 (z := z) (X := (sV X.1 546 (upd (X.1 546) 1 (nI 3)), X.2.1, rot X.2.2)) (a := a) (L := L.tail) (hS.mv rfl (fun o a b => sV_n (by omega))) hT (by simp; omega)
    refine ⟨V', rot X.2.2, ?_, fun o ho => by rw [g2 o ho]; exact sV_n (by omega), ?_⟩
    · simp (disch := first | assumption | omega) only [f_X1_record, m_gH1, m_iH, zb2_s, zif_t, zopt_n, zopt_s, b_s, znm_e, lit_0, lit_1, lit_2, lit_3, lit_4, lit_5, lit_6, lit_7, lit_8, lit_9, lit_10, lit_11, lit_12, lit_13, lit_14, lit_15, lit_16, lit_17, lit_18, lit_20, lit_24, lit_26, lit_30, lit_40, lit_45, lit_46, lit_47, lit_48, lit_60, lit_63, lit_64, lit_77, lit_100, lit_140, lit_168, lit_200, lit_300, lit_400, lit_900, lit_1000, lit_1168, lit_1997, lit_3333, lit_9999, lit_10000, h2, nI_ltE, e1, g1]
      rw [if_neg (by omega)]
    · unfold recL; rw [if_pos c]; exact g3
  · obtain ⟨V', g1, g2, g3⟩ := e_rec12 (z := z) hS hH (by omega)
    refine ⟨V', X.2.2, ?_, g2, ?_⟩
    · simp (disch := first | assumption | omega) only [f_X1_record, m_gH1, m_iH, zb2_s, zif_t, zopt_n, zopt_s, b_s, znm_e, lit_0, lit_1, lit_2, lit_3, lit_4, lit_5, lit_6, lit_7, lit_8, lit_9, lit_10, lit_11, lit_12, lit_13, lit_14, lit_15, lit_16, lit_17, lit_18, lit_20, lit_24, lit_26, lit_30, lit_40, lit_45, lit_46, lit_47, lit_48, lit_60, lit_63, lit_64, lit_77, lit_100, lit_140, lit_168, lit_200, lit_300, lit_400, lit_900, lit_1000, lit_1168, lit_1997, lit_3333, lit_9999, lit_10000, h2, nI_ltE, g1]
      rw [if_pos (by omega)]
    · unfold recL; rw [if_neg c]; exact g3
theorem e_back {z : Nat} {X : pX} {a : aT} {L : List aT} (hw : Ord (X.2.1 3)) (hH : HiC X (L ++ [a])) : ∃ V', f_X1_takeBack (z + 546) (z + 3) (hp z X) = some (hp z (V', X.2)) ∧ (∀ o, o < 3 ∨ (184 ≤ o ∧ o < 546) ∨ 1272 ≤ o → V' o = X.1 o) ∧ HiC (V', X.2) L ∧ StA (V', X.2) 3 a := by
  obtain ⟨h1, h2, h3, h4, h5⟩ := hH
  simp at h2 h3
  have hB := h1.1 L.length (by omega)
  have hbl := isB_lt hB.1
  have hq := h5 L.length a (by simp)
  have hq1 : StC (sV X.1 546 (upd (X.1 546) 1 (nI L.length)), X.2) (X.2.2 L.length) a.1 a.2.1 a.2.2 := hq.mv rfl (fun o a b => sV_n (by omega))
  obtain ⟨V', g1, g2, g3⟩ := e_copy (z := z) isB_3 hB.1 (by omega) hq1 hw
  have b3 := m_iO (z := z) (X := (sV X.1 546 (upd (X.1 546) 1 (nI L.length)), X.2)) isB_3
  refine ⟨V', ?_, fun o ho => by rw [g2 o (by omega)]; exact sV_n (by omega), ⟨h1, ?_, by omega, h4, fun i b hi => ?_⟩, g3⟩
  · simp (disch := first | assumption | omega) only [f_X1_takeBack, m_rH0, m_gH1, m_pH1, m_ldH, b3, zb2_s, zif_t, zopt_n, zopt_s, b_s, znm_e, lit_0, lit_1, lit_2, lit_3, lit_4, lit_5, lit_6, lit_7, lit_8, lit_9, lit_10, lit_11, lit_12, lit_13, lit_14, lit_15, lit_16, lit_17, lit_18, lit_20, lit_24, lit_26, lit_30, lit_40, lit_45, lit_46, lit_47, lit_48, lit_60, lit_63, lit_64, lit_77, lit_100, lit_140, lit_168, lit_200, lit_300, lit_400, lit_900, lit_1000, lit_1168, lit_1997, lit_3333, lit_9999, lit_10000, h2, nI_leE, nI_ltE, nI_pred', sV_s, pk_us, g1]
    rw [if_neg (by omega), if_neg (by omega)]
  · have e : V' 546 = upd (X.1 546) 1 (nI L.length) := by
      have q := g2 546 (by omega)
      dsimp only at q
      rw [q, sV_s]
    show V' 546 1 = _
    rw [e, pk_us]
  · have hi4 : i < 4 := by have := getE_lt hi; omega
    have hBi := h1.1 i hi4
    exact (h5 i b (by rw [List.getElem?_append_left (getE_lt hi)]; exact hi)).mv rfl (fun o a b => by dsimp only; rw [g2 o (by omega)]; exact sV_n (by omega))
