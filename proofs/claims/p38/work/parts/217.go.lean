/-! going on, calling off -/
/-- a sailing that is called off -/
def offN (u : Nat → Nat) : Nat → Nat := fun i => if i = 5 then 2 else if 20 ≤ i ∧ i < 32 then 0 else u i
def depN (u : Nat → Nat) : Nat → Nat := if ned u = tkU u then updN u 5 1 else offN u
def setU (u : Nat → Nat → Nat) (r : Nat) (f : Nat → Nat) : Nat → Nat → Nat := fun r' => if r' = r then f else u r'
theorem setU_s {u : Nat → Nat → Nat} {r : Nat} {f : Nat → Nat} : setU u r f r = f := if_pos rfl
theorem setU_n {u : Nat → Nat → Nat} {r r' : Nat} {f : Nat → Nat} (h : r' ≠ r) : setU u r f r' = u r' := if_neg h
/-- one sailing's record is another -/
theorem StC.rec {X : pX} {B : Nat} {s : Nat → Nat} {u : Nat → Nat → Nat} {ls : Nat → List Nat} (hb : isB B) (hS : StC X B s u ls) {r : Nat} (hr : r < 48) {f : Nat → Nat} {V' : pV} (hk : ∀ o, o ≠ B + (5 + 3 * X.2.1 B r) → o ≠ B + (6 + 3 * X.2.1 B r) → o ≠ B + (7 + 3 * X.2.1 B r) → V' o = X.1 o) (hf : SaC V' B (X.2.1 B r) f) (hg : SaG f) : StC (V', X.2) B s (setU u r f) ls := by
  obtain ⟨hw, hR, hU, hG, hL⟩ := hS
  have hw1 := hw.1 r hr
  refine ⟨hw, ⟨hR.1.kept (hk _ (by omega) (by omega) (by omega)) (hk _ (by omega) (by omega) (by omega)), fun r' hr' => ?_, fun k hk2 => (hR.2.2.1 k hk2).kept (hk _ (by omega) (by omega) (by omega)) (hk _ (by omega) (by omega) (by omega)), fun q hq => (hR.2.2.2 q hq).kept (hk _ (by omega) (by omega) (by omega)) (hk _ (by omega) (by omega) (by omega))⟩, fun r' hr' => ?_, hG, hL⟩
  · have hw2 := hw.1 r' hr'
    by_cases c : r' = r
    · subst c
      rw [setU_s]; exact hf
    · rw [setU_n c]
      have hne : X.2.1 B r' ≠ X.2.1 B r := fun q => c (hw.2 r' r hr' hr q)
      exact (hR.2.1 r' hr').kept (hk _ (by omega) (by omega) (by omega)) (hk _ (by omega) (by omega) (by omega)) (hk _ (by omega) (by omega) (by omega))
  · by_cases c : r' = r
    · subst c
      rw [setU_s]; exact hg
    · rw [setU_n c]; exact hU r' hr'
theorem cA_all0 {p : Nat → Bool} : ∀ (n k : Nat), (∀ i, k ≤ i → i < k + n → p i = false) → cA p k n = 0
  | 0, _, _ => rfl
  | n + 1, k, h => by rw [cA_f (h k (by omega) (by omega))]; exact cA_all0 n (k + 1) (fun i a b => h i (by omega) (by omega))
theorem offN_G {u : Nat → Nat} (h : SaG u) : SaG (offN u) := by
  obtain ⟨⟨a1, a2, a3⟩, b1, b2, b3, b4⟩ := h
  refine ⟨⟨fun i => ?_, fun i hi => ?_, fun q hq => ?_⟩, ?_, ?_, ?_, ?_⟩
  · unfold offN
    have := a1 i
    split
    · omega
    · split <;> omega
  · unfold offN; rw [if_neg (by omega), if_pos (by omega)]; omega
  · have e : tkR (offN u) q = 0 := cA_all0 12 0 (fun i _ hi => decide_eq_false (by unfold offN; rw [if_neg (by omega), if_pos (by omega)]; omega))
    rw [e]; exact Nat.zero_le _
  · unfold offN; rw [if_neg (by omega), if_neg (by omega)]; exact b1
  · unfold offN; rw [if_neg (by omega), if_neg (by omega), if_neg (by omega), if_neg (by omega)]; exact b2
  · unfold offN; rw [if_neg (by omega), if_neg (by omega)]; exact b3
  · unfold offN; rw [if_pos rfl]; omega
theorem up5_G {u : Nat → Nat} (h : SaG u) : SaG (updN u 5 1) := by
  obtain ⟨⟨a1, a2, a3⟩, b1, b2, b3, b4⟩ := h
  refine ⟨⟨fun i => ?_, fun i hi => ?_, fun q hq => ?_⟩, ?_, ?_, ?_, ?_⟩
  · unfold updN; have := a1 i; split <;> omega
  · rw [updN_n (by omega)]; exact a2 i hi
  · have e : tkR (updN u 5 1) q = tkR u q := cA_congr 12 0 (fun i _ _ => by rw [updN_n (by omega)])
    rw [e, updN_n (by omega)]; exact a3 q hq
  · rw [updN_n (by omega)]; exact b1
  · rw [updN_n (by omega), updN_n (by omega)]; exact b2
  · rw [updN_n (by omega)]; exact b3
  · rw [updN_s]; omega
theorem SaC_off {V : pV} {B j : Nat} {u : Nat → Nat} (h : SaC V B j u) : SaC (sV (sV V (B + (5 + 3 * j)) (upd (V (B + (5 + 3 * j))) 5 (nI 2))) (B + (7 + 3 * j)) (clr (V (B + (7 + 3 * j))) 0 12)) B j (offN u) := by
  refine ⟨fun i hi => ?_, fun q hq => ?_, fun m hm => ?_⟩
  · rw [sV_n (by omega), sV_s]
    by_cases c : i = 5
    · rw [c, pk_us]; rfl
    · rw [pk_un c, h.1 i hi]; unfold offN; rw [if_neg c, if_neg (by omega)]
  · rw [sV_n (by omega), sV_n (by omega), h.2.1 q hq]; unfold offN; rw [if_neg (by omega), if_neg (by omega)]
  · rw [sV_s]; unfold clr offN; rw [if_pos (by omega), if_neg (by omega), if_pos (by omega)]; rfl
theorem SaC_5 {V : pV} {B j v : Nat} {u : Nat → Nat} (h : SaC V B j u) : SaC (sV V (B + (5 + 3 * j)) (upd (V (B + (5 + 3 * j))) 5 (nI v))) B j (updN u 5 v) := by
  refine ⟨fun i hi => ?_, fun q hq => ?_, fun m hm => ?_⟩
  · rw [sV_s]
    by_cases c : i = 5
    · rw [c, pk_us, updN_s]
    · rw [pk_un c, h.1 i hi, updN_n c]
  · rw [sV_n (by omega), h.2.1 q hq, updN_n (by omega)]
  · rw [sV_n (by omega), h.2.2 m hm, updN_n (by omega)]
/-- a sailing of a State is called off -/
theorem e_off {z : Nat} {X : pX} {B : Nat} (hb : isB B) {s : Nat → Nat} {u : Nat → Nat → Nat} {ls : Nat → List Nat} (hS : StC X B s u ls) {r : Nat} (hr : r < 48) (hd : DuE X.1) : ∃ V', f_X4_callOff (z + (B + (5 + 3 * X.2.1 B r))) (hp z X) = some (nI (tkU (u r)), hp z (V', X.2)) ∧ KpB B X.1 V' ∧ DuE V' ∧ StC (V', X.2) B s (setU u r (offN (u r))) ls := by
  have hbl := isB_lt hb
  have hw1 := hS.1.1 r hr
  have hs := hS.2.1.2.1 r hr
  have g := e_callOff (z := z) hb hw1 hs (hS.ug r hr).1.1
  refine ⟨_, g, fun o o1 o2 o3 => by rw [sV_n (by omega), sV_n (by omega)], hd.kept (by rw [sV_n (by omega), sV_n (by omega)]) (by rw [sV_n (by omega), sV_n (by omega)]), hS.rec hb hr (fun o o1 o2 o3 => by rw [sV_n o3, sV_n o1]) (SaC_off hs) (offN_G (hS.ug r hr))⟩
theorem e_dep {z : Nat} {X : pX} {B : Nat} (hb : isB B) {s : Nat → Nat} {u : Nat → Nat → Nat} {ls : Nat → List Nat} (hS : StC X B s u ls) {r : Nat} (hr : r < 48) (hd : DuE X.1) : ∃ V', f_X4_depart (z + (B + (5 + 3 * X.2.1 B r))) (hp z X) = some (hp z (V', X.2)) ∧ KpB B X.1 V' ∧ DuE V' ∧ StC (V', X.2) B s (setU u r (depN (u r))) ls := by
  have hbl := isB_lt hb
  have hw1 := hS.1.1 r hr
  have hs := hS.2.1.2.1 r hr
  have hG := hS.ug r hr
  have g := e_depart (z := z) hb hw1 hs hG.1.1
  unfold depN
  by_cases c : ned (u r) = tkU (u r)
  · rw [if_pos c] at g
    rw [if_pos c]
    exact ⟨_, g, fun o o1 o2 o3 => by rw [sV_n (by omega)], hd.kept (by rw [sV_n (by omega)]) (by rw [sV_n (by omega)]), hS.rec hb hr (fun o o1 o2 o3 => by rw [sV_n o1]) (SaC_5 hs) (up5_G hG)⟩
  · rw [if_neg c] at g
    rw [if_neg c]
    exact ⟨_, g, fun o o1 o2 o3 => by rw [sV_n (by omega), sV_n (by omega)], hd.kept (by rw [sV_n (by omega), sV_n (by omega)]) (by rw [sV_n (by omega), sV_n (by omega)]), hS.rec hb hr (fun o o1 o2 o3 => by rw [sV_n o3, sV_n o1]) (SaC_off hs) (offN_G hG)⟩
/-- the sailings after going on until the hour T: those of ranks below k -/
def goU (u : Nat → Nat → Nat) (T k r : Nat) : Nat → Nat := if r < k ∧ (u r 5 = 0 ∧ u r 2 < T) then depN (u r) else u r
theorem goU_0 {u : Nat → Nat → Nat} {T : Nat} : goU u T 0 = u := by funext r; unfold goU; rw [if_neg (by omega)]
theorem goU_k {u : Nat → Nat → Nat} {T k : Nat} : goU u T k k = u k := by unfold goU; rw [if_neg (by omega)]
theorem goU_t {u : Nat → Nat → Nat} {T k : Nat} (h : u k 5 = 0 ∧ u k 2 < T) : goU u T (k + 1) = setU (goU u T k) k (depN (u k)) := by
  funext r
  unfold setU goU
  by_cases c : r = k
  · subst c
    rw [if_pos ⟨by omega, h⟩, if_pos rfl]
  · rw [if_neg c]
    by_cases d : r < k ∧ (u r 5 = 0 ∧ u r 2 < T)
    · rw [if_pos d, if_pos ⟨by omega, d.2⟩]
    · rw [if_neg d, if_neg (fun e => d ⟨by omega, e.2⟩)]
theorem goU_f {u : Nat → Nat → Nat} {T k : Nat} (h : ¬ (u k 5 = 0 ∧ u k 2 < T)) : goU u T (k + 1) = goU u T k := by
  funext r
  unfold goU
  by_cases d : r < k ∧ (u r 5 = 0 ∧ u r 2 < T)
  · rw [if_pos d, if_pos ⟨by omega, d.2⟩]
  · rw [if_neg d, if_neg (fun e => d ⟨by
      rcases Nat.lt_or_ge r k with g | g
      · exact g
      · obtain rfl : r = k := by omega
        exact absurd e.2 h, e.2⟩)]
theorem StC.now {X : pX} {B : Nat} {s : Nat → Nat} {u : Nat → Nat → Nat} {ls : Nat → List Nat} (hb : isB B) (hS : StC X B s u ls) {v : Nat} (hv : v ≤ 1000) : StC (sV X.1 B (upd (X.1 B) 2 (nI v)), X.2) B (updN s 0 v) u ls := by
  obtain ⟨hw, hR, hU, hG, hL⟩ := hS
  refine ⟨hw, ⟨?_, fun r hr => (hR.2.1 r hr).kept (sV_n (by omega)) (sV_n (by omega)) (sV_n (by omega)), fun k hk => ?_, fun q hq => (hR.2.2.2 q hq).kept (sV_n (by omega)) (sV_n (by omega))⟩, hU, ?_, fun q hq => ?_⟩
  · have h := hR.1
    refine ⟨?_, ?_, ?_, fun i hi => ?_⟩
    · dsimp only; rw [sV_s, pk_us, updN_s]
    · dsimp only; rw [sV_s, pk_un (by omega), updN_n (by omega)]; exact h.2.1
    · dsimp only; rw [sV_s, pk_un (by omega), updN_n (by omega)]; exact h.2.2.1
    · dsimp only; rw [sV_n (by omega), updN_n (by omega)]; exact h.2.2.2 i hi
  · have h := hR.2.2.1 k hk
    refine ⟨fun q hq => ?_, ?_, ?_⟩
    · dsimp only; rw [sV_n (by omega), updN_n (by omega)]; exact h.1 q hq
    · dsimp only; rw [sV_n (by omega), updN_n (by omega)]; exact h.2.1
    · dsimp only; rw [sV_n (by omega), updN_n (by omega)]; exact h.2.2
  · obtain ⟨a, b, c, ⟨d1, d2, d3, d4, d5⟩, e⟩ := hG
    refine ⟨?_, ?_, ?_, ⟨?_, ?_, ?_, ?_, ?_⟩, fun k hk q hq => ?_⟩
    · rw [updN_s]; exact hv
    all_goals first | (rw [updN_n (by omega)]; assumption) | (rw [updN_n (by omega)]; exact e k hk q hq)
  · rw [updN_n (by omega)]; exact hL q hq
theorem e_goL {z : Nat} {B : Nat} (hb : isB B) {s : Nat → Nat} {u : Nat → Nat → Nat} {ls : Nat → List Nat} : ∀ (n fuel k : Nat) (X : pX), StC X B s (goU u (s 0) k) ls → DuE X.1 → k + n = 48 → n < fuel → ∃ V', f_X5_goOn_21 fuel (z + B) (z + (B + 2)) (nI 48) (nI k) (hp z X) = some (nI (s 0), hp z (V', X.2)) ∧ KpB B X.1 V' ∧ DuE V' ∧ StC (V', X.2) B s (goU u (s 0) 48) ls := by
  intro n
  induction n with
  | zero =>
    intro fuel k X hS hd h1 h2
    obtain ⟨fuel, rfl⟩ : ∃ f, fuel = f + 1 := ⟨fuel - 1, by omega⟩
    obtain rfl : k = 48 := by omega
    have s0 : X.1 B 2 = nI (s 0) := hS.2.1.1.1
    refine ⟨X.1, ?_, KpB.rf, hd, hS⟩
    simp (disch := first | assumption | omega) only [f_X5_goOn_21, f_X5_goOn_21_body, m_gO2, zb2_s, zif_t, zopt_n, zopt_s, b_s, znm_e, lit_0, lit_1, lit_2, lit_3, lit_4, lit_5, lit_6, lit_7, lit_8, lit_9, lit_10, lit_11, lit_12, lit_13, lit_14, lit_15, lit_16, lit_17, lit_18, lit_20, lit_24, lit_26, lit_30, lit_40, lit_45, lit_46, lit_47, lit_48, lit_60, lit_63, lit_64, lit_77, lit_100, lit_140, lit_168, lit_200, lit_300, lit_400, lit_900, lit_1000, lit_1168, lit_1997, lit_3333, lit_9999, lit_10000, nI_leE, Nat.le_refl, if_true, s0]
  | succ n ih =>
    intro fuel k X hS hd h1 h2
    obtain ⟨fuel, rfl⟩ : ∃ f, fuel = f + 1 := ⟨fuel - 1, by omega⟩
    have hk : k < 48 := by omega
    have hw1 := hS.1.1 k hk
    have hs := hS.2.1.2.1 k hk
    rw [goU_k] at hs
    have hK := (hS.ug k hk).1
    rw [goU_k] at hK
    have g0 := e_isOpen (z := z) hb hw1 hs hK.1
    have k2 := hs.1 2 (by decide)
    have c2 := hK.1 2
    have s0 : X.1 B 2 = nI (s 0) := hS.2.1.1.1
    have b0 := hS.2.2.2.1.1
    by_cases hc : u k 5 = 0 ∧ u k 2 < s 0
    · obtain ⟨V1, g1, g2, g3, g4⟩ := e_dep (z := z) hb hS hk hd
      rw [goU_k, ← goU_t hc] at g4
      obtain ⟨V', q1, q2, q3, q4⟩ := ih fuel (k + 1) (V1, X.2) g4 g3 (by omega) (by omega)
      refine ⟨V', ?_, g2.tr q2, q3, q4⟩
      simp (disch := first | assumption | omega) only [f_X5_goOn_21, f_X5_goOn_21_body, f_X5_goOn_58, m_ldS, m_iS, m_gS2, m_gO2, zb2_s, zif_t, zopt_n, zopt_s, b_s, znm_e, lit_0, lit_1, lit_2, lit_3, lit_4, lit_5, lit_6, lit_7, lit_8, lit_9, lit_10, lit_11, lit_12, lit_13, lit_14, lit_15, lit_16, lit_17, lit_18, lit_20, lit_24, lit_26, lit_30, lit_40, lit_45, lit_46, lit_47, lit_48, lit_60, lit_63, lit_64, lit_77, lit_100, lit_140, lit_168, lit_200, lit_300, lit_400, lit_900, lit_1000, lit_1168, lit_1997, lit_3333, lit_9999, lit_10000, nI_leE, bI_0, g0, k2, s0, g1, nI_add, q1]
      rw [if_neg (by omega), if_neg (by simp [hc.1]), if_neg (by omega)]
    · rw [← goU_f hc] at hS
      obtain ⟨V', q1, q2, q3, q4⟩ := ih fuel (k + 1) X hS hd (by omega) (by omega)
      refine ⟨V', ?_, q2, q3, q4⟩
      simp (disch := first | assumption | omega) only [f_X5_goOn_21, f_X5_goOn_21_body, f_X5_goOn_58, m_ldS, m_iS, m_gS2, m_gO2, zb2_s, zif_t, zopt_n, zopt_s, b_s, znm_e, lit_0, lit_1, lit_2, lit_3, lit_4, lit_5, lit_6, lit_7, lit_8, lit_9, lit_10, lit_11, lit_12, lit_13, lit_14, lit_15, lit_16, lit_17, lit_18, lit_20, lit_24, lit_26, lit_30, lit_40, lit_45, lit_46, lit_47, lit_48, lit_60, lit_63, lit_64, lit_77, lit_100, lit_140, lit_168, lit_200, lit_300, lit_400, lit_900, lit_1000, lit_1168, lit_1997, lit_3333, lit_9999, lit_10000, nI_leE, bI_0, g0, k2, s0, nI_add, q1]
      rw [if_neg (by omega)]
      by_cases e : u k 5 = 0
      · rw [if_neg (by simp [e]), if_pos (by omega)]
      · rw [if_pos (by simp [e])]
theorem e_goOn {z : Nat} {X : pX} {B : Nat} (hb : isB B) {s : Nat → Nat} {u : Nat → Nat → Nat} {ls : Nat → List Nat} (hS : StC X B s u ls) {h : Nat} (hh : s 0 + h ≤ 1000) (hd : DuE X.1) : ∃ V', f_X5_goOn (z + B) (nI h) (hp z X) = some (nI (s 0 + h), hp z (V', X.2)) ∧ KpB B X.1 V' ∧ DuE V' ∧ StC (V', X.2) B (updN s 0 (s 0 + h)) (goU u (s 0 + h) 48) ls := by
  have hbl := isB_lt hb
  have s0 : X.1 B 2 = nI (s 0) := hS.2.1.1.1
  have hS1 := hS.now hb hh
  obtain ⟨V', q1, q2, q3, q4⟩ := e_goL (z := z) hb (s := updN s 0 (s 0 + h)) (u := u) 48 zN 0 _ (by rw [goU_0]; exact hS1) (hd.kept (by dsimp only; rw [sV_n (by omega)]) (by dsimp only; rw [sV_n (by omega)])) rfl (zN_lt (by omega))
  rw [updN_s] at q1 q4
  refine ⟨V', ?_, fun o o1 o2 o3 => by rw [q2 o o1 o2 o3]; dsimp only; rw [sV_n (by omega)], q3, q4⟩
  simp (disch := first | assumption | omega) only [f_X5_goOn, m_gO2, m_pO2, m_rO5, m_lnS, zb2_s, zif_t, zopt_n, zopt_s, b_s, znm_e, lit_0, lit_1, lit_2, lit_3, lit_4, lit_5, lit_6, lit_7, lit_8, lit_9, lit_10, lit_11, lit_12, lit_13, lit_14, lit_15, lit_16, lit_17, lit_18, lit_20, lit_24, lit_26, lit_30, lit_40, lit_45, lit_46, lit_47, lit_48, lit_60, lit_63, lit_64, lit_77, lit_100, lit_140, lit_168, lit_200, lit_300, lit_400, lit_900, lit_1000, lit_1168, lit_1997, lit_3333, lit_9999, lit_10000, s0, nI_add]
  exact q1
