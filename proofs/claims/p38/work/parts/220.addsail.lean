/-! a sailing is put among the others -/
def piI (n p i : Nat) : Nat := if i = p then n else if p < i ∧ i ≤ n then i - 1 else i
def insW (w : Nat → Nat) (n p : Nat) : Nat → Nat := fun i => w (piI n p i)
def insU (u : Nat → Nat → Nat) (n p : Nat) (f : Nat → Nat) : Nat → Nat → Nat := fun i => if i = p then f else u (piI n p i)
def shW (w : Nat → Nat) (n r : Nat) : Nat → Nat := fun i => if r < i ∧ i ≤ n then w (i - 1) else w i
theorem piI_lt {n p i : Nat} (hn : n < 48) (hi : i < 48) : piI n p i < 48 := by
  unfold piI
  split
  · exact hn
  · split <;> omega
theorem piI_inj {n p i j : Nat} (hp : p ≤ n) (h : piI n p i = piI n p j) : i = j := by
  unfold piI at h
  by_cases a : i = p
  · rw [if_pos a] at h
    by_cases b : j = p
    · omega
    · rw [if_neg b] at h
      split at h <;> omega
  · rw [if_neg a] at h
    by_cases b : j = p
    · rw [if_pos b] at h
      split at h <;> omega
    · rw [if_neg b] at h
      split at h <;> split at h <;> omega
theorem shW_ins {w : Nat → Nat} {n r : Nat} : updN (shW w n r) r (w n) = insW w n r := by
  funext i
  unfold updN shW insW piI
  by_cases c : i = r
  · rw [if_pos c, if_pos c]
  · rw [if_neg c, if_neg c]
    split <;> rfl
theorem shW_s {w : Nat → Nat} {n r : Nat} (hr : r < n) : updN (shW w n (r + 1)) (r + 1) (w r) = shW w n r := by
  funext i
  unfold updN shW
  by_cases c : i = r + 1
  · rw [if_pos c, if_pos (by omega), c]; rfl
  · rw [if_neg c]
    by_cases d : r + 1 < i ∧ i ≤ n
    · rw [if_pos d, if_pos (by omega)]
    · rw [if_neg d, if_neg (by omega)]
theorem shW_n {w : Nat → Nat} {n : Nat} : shW w n n = w := by
  funext i; unfold shW; rw [if_neg (by omega)]
theorem e_addL {z B : Nat} (hb : isB B) {w : Nat → Nat} {n st : Nat} {u : Nat → Nat → Nat} (hn : n < 48) (hw : ∀ i, i < 48 → w i < 48) (hst : st < 100000) (hu : ∀ i, i < n → u i 2 < 100000) : ∀ (r fuel : Nat) (X : pX), r ≤ n → r < fuel → X.2.1 B = shW w n r → (∀ i, i < n → X.1 (B + (5 + 3 * w i)) 2 = nI (u i 2)) → ∃ p, f_X5_addSailing_46 fuel (z + B) (nI st) (nI n) (z + (B + (5 + 3 * w n))) (nI r) (hp z X) = some (nI n, hp z (sV X.1 B (upd (X.1 B) 3 (X.1 B 3 + nI 1)), sW X.2.1 B (insW w n p), X.2.2)) ∧ p ≤ r ∧ (∀ i, p ≤ i → i < r → st < u i 2) ∧ (∀ i, p = i + 1 → u i 2 ≤ st) := by
  intro r
  induction r with
  | zero =>
    intro fuel X h1 h2 hX hV
    obtain ⟨fuel, rfl⟩ : ∃ f, fuel = f + 1 := ⟨fuel - 1, by omega⟩
    have hwn := hw n hn
    refine ⟨0, ?_, Nat.le_refl _, fun i _ h => by omega, fun i h => by omega⟩
    have e := shW_ins (w := w) (n := n) (r := 0)
    simp (disch := first | assumption | omega) only [f_X5_addSailing_46, f_X5_addSailing_46_body, f_X5_addSailing_89, m_rO5, m_stS, m_gO3, m_pO3, zb2_s, zif_t, zopt_n, zopt_s, b_s, znm_e, lit_0, lit_1, lit_2, lit_3, lit_4, lit_5, lit_6, lit_7, lit_8, lit_9, lit_10, lit_11, lit_12, lit_13, lit_14, lit_15, lit_16, lit_17, lit_18, lit_20, lit_24, lit_26, lit_30, lit_40, lit_45, lit_46, lit_47, lit_48, lit_60, lit_63, lit_64, lit_77, lit_100, lit_140, lit_168, lit_200, lit_300, lit_400, lit_900, lit_1000, lit_1168, lit_1997, lit_3333, lit_9999, lit_10000, nI_leE, Nat.le_refl, if_true, hX, e]
  | succ r ih =>
    intro fuel X h1 h2 hX hV
    obtain ⟨fuel, rfl⟩ : ∃ f, fuel = f + 1 := ⟨fuel - 1, by omega⟩
    have hwn := hw n hn
    have hwr := hw r (by omega)
    have e1 : X.2.1 B r = w r := by rw [hX]; unfold shW; rw [if_neg (by omega)]
    have v1 := hV r (by omega)
    have b1 := hu r (by omega)
    by_cases c : u r 2 ≤ st
    · refine ⟨r + 1, ?_, Nat.le_refl _, fun i _ h => by omega, fun i hi => (by have e : i = r := (by omega); rw [e]; exact c)⟩
      have e := shW_ins (w := w) (n := n) (r := r + 1)
      rw [← hX] at e
      simp (disch := first | assumption | omega) only [f_X5_addSailing_46, f_X5_addSailing_46_body, f_X5_addSailing_89, m_rO5, m_stS, m_gO3, m_pO3, m_ldS, m_gS2, zb2_s, zif_t, zopt_n, zopt_s, b_s, znm_e, lit_0, lit_1, lit_2, lit_3, lit_4, lit_5, lit_6, lit_7, lit_8, lit_9, lit_10, lit_11, lit_12, lit_13, lit_14, lit_15, lit_16, lit_17, lit_18, lit_20, lit_24, lit_26, lit_30, lit_40, lit_45, lit_46, lit_47, lit_48, lit_60, lit_63, lit_64, lit_77, lit_100, lit_140, lit_168, lit_200, lit_300, lit_400, lit_900, lit_1000, lit_1168, lit_1997, lit_3333, lit_9999, lit_10000, nI_leE, nI_pred', e1, v1, e]
      rw [if_neg (by omega), if_pos c]
    · have e := shW_s (w := w) (n := n) (r := r) (by omega)
      rw [← hX] at e
      obtain ⟨p, q1, q2, q3, q4⟩ := ih fuel (X.1, sW X.2.1 B (shW w n r), X.2.2) (by omega) (by omega) sW_s hV
      refine ⟨p, ?_, by omega, fun i a b => by
        rcases Nat.lt_or_ge i r with d | d
        · exact q3 i a d
        · obtain rfl : i = r := by omega
          omega, q4⟩
      simp only [sW_sW] at q1
      simp (disch := first | assumption | omega) only [f_X5_addSailing_46, f_X5_addSailing_46_body, f_X5_addSailing_89, m_rO5, m_stS, m_gO3, m_pO3, m_ldS, m_gS2, zb2_s, zif_t, zopt_n, zopt_s, b_s, znm_e, lit_0, lit_1, lit_2, lit_3, lit_4, lit_5, lit_6, lit_7, lit_8, lit_9, lit_10, lit_11, lit_12, lit_13, lit_14, lit_15, lit_16, lit_17, lit_18, lit_20, lit_24, lit_26, lit_30, lit_40, lit_45, lit_46, lit_47, lit_48, lit_60, lit_63, lit_64, lit_77, lit_100, lit_140, lit_168, lit_200, lit_300, lit_400, lit_900, lit_1000, lit_1168, lit_1997, lit_3333, lit_9999, lit_10000, nI_leE, nI_pred', nI_m1, e1, v1, e, q1]
      rw [if_neg (by omega), if_neg c]
theorem newR_G {n f st h v : Nat} (hn : n < 100000) (hf : f < 6) (hst : st + h ≤ 1100) (hv : v < 100000) : SaG (newR n f st h v) := by
  have hd : ∀ q, dgt v q < 10 := fun q => by
    match q with
    | 0 => show v / 10 / 10 / 10 % 10 < 10; omega
    | 1 => show v / 10 / 10 % 10 < 10; omega
    | 2 => show v / 10 % 10 < 10; omega
    | k + 3 => show v % 10 < 10; omega
  refine ⟨⟨fun i => ?_, fun m hm => ?_, fun q hq => ?_⟩, hf, ?_, ?_, ?_⟩
  · have d0 := hd 0
    have d1 := hd 1
    have d2 := hd 2
    have d3 := hd 3
    unfold newR
    split <;> omega
  · rw [newR_20 (by omega)]; omega
  · have e : tkR (newR n f st h v) q = 0 := cA_all0 12 0 (fun i _ hi => decide_eq_false (by rw [newR_20 (by omega)]; omega))
    rw [e]; exact Nat.zero_le _
  · show st ≤ st + h; omega
  · exact hst
  · show 0 < 4; omega
theorem e_addSail {z : Nat} {X : pX} {B : Nat} (hb : isB B) {s : Nat → Nat} {u : Nat → Nat → Nat} {ls : Nat → List Nat} (hS : StC X B s u ls) {f st h v : Nat} (hn : s 1 < 48) (h0 : ∀ m, m < 12 → u (s 1) (20 + m) = 0) (hf : f < 6) (hst : st + h ≤ 1100) (hv : v < 100000) (hd : DuE X.1) : ∃ V' p, f_X5_addSailing (z + B) (nI f) (nI st) (nI h) (nI v) (hp z X) = some (nI (s 1), hp z (V', sW X.2.1 B (insW (X.2.1 B) (s 1) p), X.2.2)) ∧ KpB B X.1 V' ∧ DuE V' ∧ StC (V', sW X.2.1 B (insW (X.2.1 B) (s 1) p), X.2.2) B (updN s 1 (s 1 + 1)) (insU u (s 1) p (newR (s 1) f st h v)) ls ∧ p ≤ s 1 ∧ (∀ i, p ≤ i → i < s 1 → st < u i 2) ∧ (∀ i, p = i + 1 → u i 2 ≤ st) := by
  have hbl := isB_lt hb
  obtain ⟨hw, hR, hU, hG, hL⟩ := hS
  have hwn := hw.1 (s 1) hn
  have hs := hR.2.1 (s 1) hn
  have s1 : X.1 B 3 = nI (s 1) := hR.1.2.1
  obtain ⟨V1, c1, c2, c3⟩ := e_come (z := z) (X := X) hb hwn (n := s 1) (f := f) (st := st) (h := h) (v := v) hv (fun m hm => by rw [hs.2.2 m hm, h0 m hm])
  obtain ⟨p, g1, g2, g3, g4⟩ := e_addL (z := z) hb (w := X.2.1 B) (n := s 1) (st := st) (u := u) hn hw.1 (by omega) (fun i hi => (hU i (by omega)).1.1 2) (s 1) zN (V1, X.2) (Nat.le_refl _) (zN_lt (by omega)) shW_n.symm (fun i hi => by
    have hwi := hw.1 i (by omega)
    have hne : X.2.1 B i ≠ X.2.1 B (s 1) := fun q => by have := hw.2 i (s 1) (by omega) hn q; omega
    dsimp only
    rw [c2 _ (by omega) (by omega)]
    exact (hR.2.1 i (by omega)).1 2 (by omega))
  have k1 : V1 B = X.1 B := c2 _ (by omega) (by omega)
  refine ⟨sV V1 B (upd (V1 B) 3 (V1 B 3 + nI 1)), p, ?_, ?_, ?_, ⟨?_, ⟨?_, fun r hr => ?_, fun k hk => ?_, fun q hq => ?_⟩, fun r hr => ?_, ?_, fun q hq => ?_⟩, g2, g3, g4⟩
  · simp (disch := first | assumption | omega) only [f_X5_addSailing, m_gO3, m_rO5, m_ldS, m_iS, zb2_s, zif_t, zopt_n, zopt_s, b_s, znm_e, lit_0, lit_1, lit_2, lit_3, lit_4, lit_5, lit_6, lit_7, lit_8, lit_9, lit_10, lit_11, lit_12, lit_13, lit_14, lit_15, lit_16, lit_17, lit_18, lit_20, lit_24, lit_26, lit_30, lit_40, lit_45, lit_46, lit_47, lit_48, lit_60, lit_63, lit_64, lit_77, lit_100, lit_140, lit_168, lit_200, lit_300, lit_400, lit_900, lit_1000, lit_1168, lit_1997, lit_3333, lit_9999, lit_10000, s1, nI_ltE, c1]
    rw [if_neg (by omega), if_pos hn]
    exact g1
  · intro o o1 o2 o3
    rw [sV_n (by omega)]; exact c2 o (by omega) (by omega)
  · exact hd.kept (by rw [sV_n (by omega)]; exact c2 _ (by omega) (by omega)) (by rw [sV_n (by omega)]; exact c2 _ (by omega) (by omega))
  · dsimp only; rw [sW_s]
    exact ⟨fun r hr => hw.1 _ (piI_lt hn hr), fun r q hr hq e => piI_inj g2 (hw.2 _ _ (piI_lt hn hr) (piI_lt hn hq) e)⟩
  · have h := hR.1
    refine ⟨?_, ?_, ?_, fun i hi => ?_⟩
    · dsimp only; rw [sV_s, pk_un (by omega), updN_n (by omega), k1]; exact h.1
    · dsimp only; rw [sV_s, pk_us, k1, s1, updN_s, nI_add]
    · dsimp only; rw [sV_s, pk_un (by omega), updN_n (by omega), k1]; exact h.2.2.1
    · dsimp only; rw [sV_n (by omega), updN_n (by omega), c2 _ (by omega) (by omega)]; exact h.2.2.2 i hi
  · dsimp only; rw [sW_s]
    unfold insU insW
    have hpl := piI_lt (p := p) hn hr
    by_cases c : r = p
    · rw [if_pos c]
      have e : piI (s 1) p r = s 1 := if_pos c
      rw [e]
      exact c3.kept (sV_n (by omega)) (sV_n (by omega)) (sV_n (by omega))
    · rw [if_neg c]
      have hne0 : piI (s 1) p r ≠ s 1 := fun q => c (piI_inj g2 (q.trans (show s 1 = piI (s 1) p p from (if_pos rfl).symm)))
      have hwi := hw.1 _ hpl
      have hne : X.2.1 B (piI (s 1) p r) ≠ X.2.1 B (s 1) := fun q => hne0 (hw.2 _ _ hpl hn q)
      exact ((hR.2.1 _ hpl).kept (c2 _ (by omega) (by omega)) (c2 _ (by omega) (by omega)) (c2 _ (by omega) (by omega))).kept (sV_n (by omega)) (sV_n (by omega)) (sV_n (by omega))
  · have h := (hR.2.2.1 k hk).kept (c2 (B + (149 + 2 * k)) (by omega) (by omega)) (c2 (B + (150 + 2 * k)) (by omega) (by omega))
    refine ⟨fun q hq => ?_, ?_, ?_⟩
    · dsimp only; rw [sV_n (by omega), updN_n (by omega)]; exact h.1 q hq
    · dsimp only; rw [sV_n (by omega), updN_n (by omega)]; exact h.2.1
    · dsimp only; rw [sV_n (by omega), updN_n (by omega)]; exact h.2.2
  · exact ((hR.2.2.2 q hq).kept (c2 _ (by omega) (by omega)) (c2 _ (by omega) (by omega))).kept (sV_n (by omega)) (sV_n (by omega))
  · unfold insU
    split
    · exact newR_G (by omega) hf hst hv
    · exact hU _ (piI_lt hn hr)
  · obtain ⟨a, b, c, ⟨d1, d2, d3, d4, d5⟩, e⟩ := hG
    refine ⟨?_, ?_, ?_, ⟨?_, ?_, ?_, ?_, ?_⟩, fun k hk q hq => ?_⟩
    · rw [updN_n (by omega)]; exact a
    · rw [updN_s]; omega
    all_goals first | (rw [updN_n (by omega)]; assumption) | (rw [updN_n (by omega)]; exact e k hk q hq)
  · rw [updN_n (by omega)]; exact hL q hq
