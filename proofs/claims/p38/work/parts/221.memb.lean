/-! members come, ladders change, settings and certificates change -/
theorem nodup_f {k : Nat} : ∀ (l : List Nat), l.Nodup → l.length ≤ (l.filter (fun x => !decide (x = k))).length + 1
  | [], _ => Nat.zero_le _
  | a :: l, h => by
    have h2 := List.nodup_cons.mp h
    by_cases c : a = k
    · subst c
      have e : List.filter (fun x => !decide (x = a)) (a :: l) = l := by
        rw [List.filter_cons_of_neg (by simp)]
        exact List.filter_eq_self.mpr (fun x hx => by
          have : x ≠ a := fun q => h2.1 (q ▸ hx)
          simp [this])
      rw [e]; simp
    · rw [List.filter_cons_of_pos (by simp [c])]
      have := nodup_f (k := k) l h2.2
      simp only [List.length_cons]
      omega
theorem nodup_len : ∀ (k : Nat) (l : List Nat), l.Nodup → (∀ x, x ∈ l → x < k) → l.length ≤ k
  | 0, [], _, _ => Nat.le_refl _
  | 0, a :: l, _, h => by have := h a List.mem_cons_self; omega
  | k + 1, l, h, hx => by
    have h1 := nodup_f (k := k) l h
    have h2 := nodup_len k (l.filter (fun x => !decide (x = k))) (List.Pairwise.filter _ h) (fun x q => by
      have q := List.mem_filter.mp q
      have a := hx x q.1
      have b : x ≠ k := by simpa using q.2
      omega)
    omega
theorem nodup_lt {k m : Nat} {l : List Nat} (h : l.Nodup) (hx : ∀ x, x ∈ l → x < k) (hm : m < k) : (l.filter (fun x => !decide (x = m))).length < k := by
  have h1 : (m :: l.filter (fun x => !decide (x = m))).Nodup := List.nodup_cons.mpr ⟨fun q => by
    have q := (List.mem_filter.mp q).2
    simp at q, List.Pairwise.filter _ h⟩
  have h2 := nodup_len k _ h1 (fun x q => by
    rcases List.mem_cons.mp q with e | e
    · omega
    · exact hx x (List.mem_filter.mp e).1)
  simp only [List.length_cons] at h2
  omega
def setL (ls : Nat → List Nat) (q : Nat) (ll : List Nat) : Nat → List Nat := fun q' => if q' = q then ll else ls q'
theorem setL_s {ls : Nat → List Nat} {q : Nat} {ll : List Nat} : setL ls q ll q = ll := if_pos rfl
theorem setL_n {ls : Nat → List Nat} {q q' : Nat} {ll : List Nat} (h : q' ≠ q) : setL ls q ll q' = ls q' := if_neg h
theorem StC.lad {X : pX} {B : Nat} {s : Nat → Nat} {u : Nat → Nat → Nat} {ls : Nat → List Nat} (hb : isB B) (hS : StC X B s u ls) {q : Nat} (hq : q < 4) {ll : List Nat} {V' : pV} (hk : ∀ o, o ≠ B + (173 + 2 * q) → o ≠ B + (174 + 2 * q) → V' o = X.1 o) (hl : LadC V' B q ll) (h1 : ll.length ≤ 12) (h2 : ∀ x, x ∈ ll → x < s 2) : StC (V', X.2) B s u (setL ls q ll) := by
  obtain ⟨hw, hR, hU, hG, hL⟩ := hS
  refine ⟨hw, ⟨hR.1.kept (hk _ (by omega) (by omega)) (hk _ (by omega) (by omega)), fun r hr => ?_, fun k hk2 => (hR.2.2.1 k hk2).kept (hk _ (by omega) (by omega)) (hk _ (by omega) (by omega)), fun q' hq' => ?_⟩, hU, hG, fun q' hq' => ?_⟩
  · have hw1 := hw.1 r hr
    exact (hR.2.1 r hr).kept (hk _ (by omega) (by omega)) (hk _ (by omega) (by omega)) (hk _ (by omega) (by omega))
  · by_cases c : q' = q
    · subst c; rw [setL_s]; exact hl
    · rw [setL_n c]; exact (hR.2.2.2 q' hq').kept (hk _ (by omega) (by omega)) (hk _ (by omega) (by omega))
  · by_cases c : q' = q
    · subst c; rw [setL_s]; exact ⟨h1, h2⟩
    · rw [setL_n c]; exact hL q' hq'
theorem e_put {z : Nat} {X : pX} {B : Nat} (hb : isB B) {s : Nat → Nat} {u : Nat → Nat → Nat} {ls : Nat → List Nat} (hS : StC X B s u ls) {q m : Nat} (hq : q < 4) (hm : m < s 2) (hn : (ls q).Nodup) (hd : DuE X.1) : ∃ V', f_X2_putLast (z + (B + (173 + 2 * q))) (nI m) (hp z X) = some (nI (((ls q).filter (fun x => !decide (x = m))).length + 1), hp z (V', X.2)) ∧ KpB B X.1 V' ∧ DuE V' ∧ StC (V', X.2) B s u (setL ls q ((ls q).filter (fun x => !decide (x = m)) ++ [m])) := by
  have hbl := isB_lt hb
  have hl := hS.2.2.2.2 q hq
  have b2 := hS.2.2.2.1.2.2.1
  have hlt := nodup_lt hn hl.2 hm
  obtain ⟨V', g1, g2, g3⟩ := e_putLast (z := z) hb hq (hS.2.1.2.2.2 q hq) hl.1 (m := m) (by omega) (fun x hx => by have := hl.2 x hx; omega) hn (by omega)
  exact ⟨V', g1, fun o o1 o2 o3 => g2 o (by omega) (by omega), hd.kept (g2 _ (by omega) (by omega)) (g2 _ (by omega) (by omega)), hS.lad hb hq g2 g3 (by simp; omega) (fun x hx => by
    rcases List.mem_append.mp hx with e | e
    · exact hl.2 x (List.mem_filter.mp e).1
    · simp at e; omega)⟩
theorem e_off1 {z : Nat} {X : pX} {B : Nat} (hb : isB B) {s : Nat → Nat} {u : Nat → Nat → Nat} {ls : Nat → List Nat} (hS : StC X B s u ls) {q m : Nat} (hq : q < 4) (hm : m < s 2) (hn : (ls q).Nodup) (hd : DuE X.1) : ∃ V', f_X2_takeOff (z + (B + (173 + 2 * q))) (nI m) (hp z X) = some (nI ((ls q).filter (fun x => !decide (x = m))).length, hp z (V', X.2)) ∧ KpB B X.1 V' ∧ DuE V' ∧ StC (V', X.2) B s u (setL ls q ((ls q).filter (fun x => !decide (x = m)))) := by
  have hbl := isB_lt hb
  have hl := hS.2.2.2.2 q hq
  have b2 := hS.2.2.2.1.2.2.1
  have hle := List.length_filter_le (fun x => !decide (x = m)) (ls q)
  obtain ⟨V', g1, g2, g3⟩ := e_takeOff (z := z) hb hq (hS.2.1.2.2.2 q hq) hl.1 (m := m) (by omega) (fun x hx => by have := hl.2 x hx; omega) hn
  exact ⟨V', g1, fun o o1 o2 o3 => g2 o (by omega) (by omega), hd.kept (g2 _ (by omega) (by omega)) (g2 _ (by omega) (by omega)), hS.lad hb hq g2 g3 (by omega) (fun x hx => hl.2 x (List.mem_filter.mp hx).1)⟩
theorem StC.cert {X : pX} {B : Nat} {s : Nat → Nat} {u : Nat → Nat → Nat} {ls : Nat → List Nat} (hb : isB B) (hS : StC X B s u ls) {m q v : Nat} (hm : m < 12) (hq : q < 4) (hv : v < 100000) : StC (sV X.1 (B + (150 + 2 * m)) (upd (X.1 (B + (150 + 2 * m))) q (nI v)), X.2) B (updN s (969 + 6 * m + q) v) u ls := by
  obtain ⟨hw, hR, hU, hG, hL⟩ := hS
  refine ⟨hw, ⟨?_, fun r hr => ?_, fun k hk => ?_, fun q hq => (hR.2.2.2 q hq).kept (sV_n (by omega)) (sV_n (by omega))⟩, hU, ?_, fun q hq => ?_⟩
  · have h := hR.1
    refine ⟨?_, ?_, ?_, fun i hi => ?_⟩
    · dsimp only; rw [sV_n (by omega), updN_n (by omega)]; exact h.1
    · dsimp only; rw [sV_n (by omega), updN_n (by omega)]; exact h.2.1
    · dsimp only; rw [sV_n (by omega), updN_n (by omega)]; exact h.2.2.1
    · dsimp only; rw [sV_n (by omega), updN_n (by omega)]; exact h.2.2.2 i hi
  · have hw1 := hw.1 r hr
    exact (hR.2.1 r hr).kept (sV_n (by omega)) (sV_n (by omega)) (sV_n (by omega))
  · have h := hR.2.2.1 k hk
    refine ⟨fun q' hq' => ?_, ?_, ?_⟩
    · dsimp only
      by_cases c : k = m
      · subst c
        rw [sV_s]
        by_cases d : q' = q
        · rw [d, pk_us, updN_s]
        · rw [pk_un d, updN_n (by omega)]; exact h.1 q' hq'
      · rw [sV_n (by omega), updN_n (by omega)]; exact h.1 q' hq'
    · dsimp only; rw [sV_n (by omega), updN_n (by omega)]; exact h.2.1
    · dsimp only; rw [sV_n (by omega), updN_n (by omega)]; exact h.2.2
  · obtain ⟨a, b, c, ⟨d1, d2, d3, d4, d5⟩, e⟩ := hG
    refine ⟨?_, ?_, ?_, ⟨?_, ?_, ?_, ?_, ?_⟩, fun k hk q' hq' => ?_⟩
    all_goals first | (rw [updN_n (by omega)]; assumption) | skip
    by_cases c1 : 969 + 6 * k + q' = 969 + 6 * m + q
    · rw [c1, updN_s]; exact hv
    · rw [updN_n c1]; exact e k hk q' hq'
  · rw [updN_n (by omega)]; exact hL q hq
theorem e_cert {z : Nat} {X : pX} {B : Nat} (hb : isB B) {s : Nat → Nat} {u : Nat → Nat → Nat} {ls : Nat → List Nat} (hS : StC X B s u ls) {m q v : Nat} (hm : m < 12) (hq : q < 4) (hv : v < 100000) (hd : DuE X.1) : ∃ V', f_X3_replaceCertificate (z + (B + (149 + 2 * m))) (nI q) (nI v) (hp z X) = some (nI (s (969 + 6 * m + q)), hp z (V', X.2)) ∧ KpB B X.1 V' ∧ DuE V' ∧ StC (V', X.2) B (updN s (969 + 6 * m + q) v) u ls := by
  have hbl := isB_lt hb
  have g := e_replCert (z := z) (X := X) hb hm hq (nI v)
  rw [(hS.2.1.2.2.1 m hm).1 q hq] at g
  exact ⟨_, g, fun o o1 o2 o3 => sV_n (by omega), hd.kept (sV_n (by omega)) (sV_n (by omega)), hS.cert hb hm hq hv⟩
/-- a setting -/
theorem StC.setg {X : pX} {B : Nat} {s : Nat → Nat} {u : Nat → Nat → Nat} {ls : Nat → List Nat} (hb : isB B) (hS : StC X B s u ls) {i v : Nat} (hi : i < 5) (hg : SG (updN s (4 + i) v)) : StC (sV X.1 (B + 1) (upd (X.1 (B + 1)) i (nI v)), X.2) B (updN s (4 + i) v) u ls := by
  obtain ⟨hw, hR, hU, hG, hL⟩ := hS
  refine ⟨hw, ⟨?_, fun r hr => (hR.2.1 r hr).kept (sV_n (by omega)) (sV_n (by omega)) (sV_n (by omega)), fun k hk => ?_, fun q hq => (hR.2.2.2 q hq).kept (sV_n (by omega)) (sV_n (by omega))⟩, hU, hg, fun q hq => ?_⟩
  · have h := hR.1
    refine ⟨?_, ?_, ?_, fun i' hi' => ?_⟩
    · dsimp only; rw [sV_n (by omega), updN_n (by omega)]; exact h.1
    · dsimp only; rw [sV_n (by omega), updN_n (by omega)]; exact h.2.1
    · dsimp only; rw [sV_n (by omega), updN_n (by omega)]; exact h.2.2.1
    · dsimp only; rw [sV_s]
      by_cases c : i' = i
      · rw [c, pk_us, updN_s]
      · rw [pk_un c, updN_n (by omega)]; exact h.2.2.2 i' hi'
  · have h := hR.2.2.1 k hk
    refine ⟨fun q hq => ?_, ?_, ?_⟩
    · dsimp only; rw [sV_n (by omega), updN_n (by omega)]; exact h.1 q hq
    · dsimp only; rw [sV_n (by omega), updN_n (by omega)]; exact h.2.1
    · dsimp only; rw [sV_n (by omega), updN_n (by omega)]; exact h.2.2
  · rw [updN_n (by omega)]; exact hL q hq
/-- one more member -/
theorem StC.memb {X : pX} {B : Nat} {s : Nat → Nat} {u : Nat → Nat → Nat} {ls : Nat → List Nat} (hb : isB B) (hS : StC X B s u ls) (hm : s 2 < 12) : StC (sV X.1 B (upd (X.1 B) 4 (nI (s 2 + 1))), X.2) B (updN s 2 (s 2 + 1)) u ls := by
  obtain ⟨hw, hR, hU, hG, hL⟩ := hS
  refine ⟨hw, ⟨?_, fun r hr => (hR.2.1 r hr).kept (sV_n (by omega)) (sV_n (by omega)) (sV_n (by omega)), fun k hk => ?_, fun q hq => (hR.2.2.2 q hq).kept (sV_n (by omega)) (sV_n (by omega))⟩, hU, ?_, fun q hq => ?_⟩
  · have h := hR.1
    refine ⟨?_, ?_, ?_, fun i hi => ?_⟩
    · dsimp only; rw [sV_s, pk_un (by omega), updN_n (by omega)]; exact h.1
    · dsimp only; rw [sV_s, pk_un (by omega), updN_n (by omega)]; exact h.2.1
    · dsimp only; rw [sV_s, pk_us, updN_s]
    · dsimp only; rw [sV_n (by omega), updN_n (by omega)]; exact h.2.2.2 i hi
  · have h := hR.2.2.1 k hk
    refine ⟨fun q hq => ?_, ?_, ?_⟩
    · dsimp only; rw [sV_n (by omega), updN_n (by omega)]; exact h.1 q hq
    · dsimp only; rw [sV_n (by omega), updN_n (by omega)]; exact h.2.1
    · dsimp only; rw [sV_n (by omega), updN_n (by omega)]; exact h.2.2
  · obtain ⟨a, b, c, ⟨d1, d2, d3, d4, d5⟩, e⟩ := hG
    refine ⟨?_, ?_, ?_, ⟨?_, ?_, ?_, ?_, ?_⟩, fun k hk q' hq' => ?_⟩
    · rw [updN_n (by omega)]; exact a
    · rw [updN_n (by omega)]; exact b
    · rw [updN_s]; omega
    all_goals first | (rw [updN_n (by omega)]; assumption) | (rw [updN_n (by omega)]; exact e k hk q' hq')
  · rw [updN_s]
    exact ⟨(hL q hq).1, fun x hx => by have := (hL q hq).2 x hx; omega⟩
theorem e_addMem {z : Nat} {X : pX} {B : Nat} (hb : isB B) {s : Nat → Nat} {u : Nat → Nat → Nat} {ls : Nat → List Nat} (hS : StC X B s u ls) {q v : Nat} (hm : s 2 < 12) (hq : q < 4) (hv : v < 100000) (hn : (ls q).Nodup) (hd : DuE X.1) : ∃ V', f_X5_addMember (z + B) (nI q) (nI v) (hp z X) = some (nI (s 2), hp z (V', X.2)) ∧ KpB B X.1 V' ∧ DuE V' ∧ StC (V', X.2) B (updN (updN s 2 (s 2 + 1)) (969 + 6 * s 2 + q) v) u (setL ls q (ls q ++ [s 2])) := by
  have hbl := isB_lt hb
  have s2 : X.1 B 4 = nI (s 2) := hS.2.1.1.2.2.1
  have hS1 := hS.memb hb hm
  obtain ⟨V2, g1, g2, g3, g4⟩ := e_cert (z := z) hb hS1 (m := s 2) (q := q) (v := v) hm hq hv (hd.kept (sV_n (by omega)) (sV_n (by omega)))
  obtain ⟨V3, k1, k2, k3, k4⟩ := e_put (z := z) hb g4 (q := q) (m := s 2) hq (by rw [updN_n (by omega), updN_s]; omega) hn g3
  have e : (ls q).filter (fun x => !decide (x = s 2)) = ls q := List.filter_eq_self.mpr (fun x hx => by
    have := (hS.2.2.2.2 q hq).2 x hx
    have : x ≠ s 2 := by omega
    simp [this])
  rw [e] at k1 k4
  refine ⟨V3, ?_, fun o o1 o2 o3 => by rw [k2 o o1 o2 o3]; dsimp only; rw [g2 o o1 o2 o3]; exact sV_n (by omega), k3, k4⟩
  simp (disch := first | assumption | omega) only [f_X5_addMember, m_gO4, m_pO4, m_rO6, m_rO7, m_ldM, m_ldL, m_iM, m_iL, zb2_s, zif_t, zopt_n, zopt_s, b_s, znm_e, lit_0, lit_1, lit_2, lit_3, lit_4, lit_5, lit_6, lit_7, lit_8, lit_9, lit_10, lit_11, lit_12, lit_13, lit_14, lit_15, lit_16, lit_17, lit_18, lit_20, lit_24, lit_26, lit_30, lit_40, lit_45, lit_46, lit_47, lit_48, lit_60, lit_63, lit_64, lit_77, lit_100, lit_140, lit_168, lit_200, lit_300, lit_400, lit_900, lit_1000, lit_1168, lit_1997, lit_3333, lit_9999, lit_10000, s2, e_isMem_n hm, e_isRole_n hq, nI_10, if_false, nI_add, g1, k1]
