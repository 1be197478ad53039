/-! p38: certificates, and sickness, of those who have places -/
def Cw (s : Nat → Nat) : Prop := ∀ k m q, k < s 1 → m < 12 → q < 4 → recS s k 5 = 0 → recS s k (20 + m) = q + 1 → recS s k 3 ≤ s (969 + 6 * m + q) ∧ s (969 + 6 * m + 4) ≤ recS s k 2
def Sd (s : Nat → Nat) : Prop := ∀ k, k < s 1 → recS s k 5 = 1 → ned (recS s k) = tkU (recS s k)
def Cv (s : Nat → Nat) : Prop := Cw s ∧ Sd s
theorem ned_cg {u v : Nat → Nat} (h : ∀ i, 10 ≤ i → i < 14 → u i = v i) : ned u = ned v := by
  unfold ned
  rw [h 10 (by omega) (by omega), h 11 (by omega) (by omega), h 12 (by omega) (by omega), h 13 (by omega) (by omega)]
theorem Sd_of {s s' : Nat → Nat} (h : Sd s) (hk : ∀ k, k < s' 1 → recS s' k 5 = 1 → k < s 1 ∧ recS s k 5 = 1 ∧ (∀ i, 10 ≤ i → i < 14 → recS s' k i = recS s k i) ∧ ∀ m, m < 12 → recS s' k (20 + m) = recS s k (20 + m)) : Sd s' := fun k a d => by
  obtain ⟨h1, h2, h3, h4⟩ := hk k a d
  rw [ned_cg h3, tkU_cg h4]
  exact h k h1 h2
theorem Sd_cg {s s' : Nat → Nat} (hW : W0 s) (h : Sd s) (e1 : s' 1 = s 1) (h9 : ∀ i, 9 ≤ i → i < 969 → s' i = s i) : Sd s' := Sd_of h (fun k a d => by
  have n48 := hW.n48
  have hk : k < 48 := by omega
  rw [rec_hi h9 hk (Or.inl (by omega))] at d
  exact ⟨by omega, d, fun i x y => rec_hi h9 hk (Or.inl (by omega)), fun m hm => rec_hi h9 hk (Or.inr ⟨by omega, by omega⟩)⟩)
theorem Sd_pl {s : Nat → Nat} {k m v : Nat} (hW : W0 s) (h : Sd s) (hm : m < 12) (hk : k < s 1) (h5 : recS s k 5 = 0) : Sd (updN s (393 + 12 * k + m) v) := Sd_of h (fun k' a d => by
  have n48 := hW.n48
  have hk48 : k < 48 := by omega
  rw [updN_n (by omega)] at a
  have hk' : k' < 48 := by omega
  rw [rec_pl_lo hk48 hk' hm (by omega)] at d
  have ne : k' ≠ k := fun e => by rw [e] at d; omega
  exact ⟨a, d, fun i x y => rec_pl_lo hk48 hk' hm (by omega), fun m' hm' => by rw [rec_pl hm hm', if_neg (fun w => ne w.1)]⟩)
def Iv (p : sS) : Prop := PS p.1 p.2 ∧ Cv p.1
theorem Cw_of {s s' : Nat → Nat} (h : Cw s) (hk : ∀ k m q, k < s' 1 → m < 12 → q < 4 → recS s' k 5 = 0 → recS s' k (20 + m) = q + 1 → k < s 1 ∧ recS s k 5 = 0 ∧ recS s k (20 + m) = q + 1 ∧ recS s' k 3 = recS s k 3 ∧ recS s' k 2 = recS s k 2 ∧ s (969 + 6 * m + q) ≤ s' (969 + 6 * m + q) ∧ s' (969 + 6 * m + 4) ≤ s (969 + 6 * m + 4)) : Cw s' := fun k m q a b c d e => by
  obtain ⟨a1, a2, a3, a4, a5, a6, a7⟩ := hk k m q a b c d e
  obtain ⟨h1, h2⟩ := h k m q a1 b c a2 a3
  omega
theorem Cw_cg {s s' : Nat → Nat} (hW : W0 s) (h : Cw s) (e1 : s' 1 = s 1) (h9 : ∀ i, 9 ≤ i → i < 969 → s' i = s i) (hc : ∀ m w, m < 12 → w < 5 → s' (969 + 6 * m + w) = s (969 + 6 * m + w)) : Cw s' := Cw_of h (fun k m q a b c d e => by
  have n48 := hW.n48
  have hk : k < 48 := by omega
  rw [rec_hi h9 hk (Or.inl (by omega))] at d
  rw [rec_hi h9 hk (Or.inr ⟨by omega, by omega⟩)] at e
  exact ⟨by omega, d, e, rec_hi h9 hk (Or.inl (by omega)), rec_hi h9 hk (Or.inl (by omega)), Nat.le_of_eq (hc m q b (by omega)).symm, Nat.le_of_eq (hc m 4 b (by omega))⟩)
theorem Cv_cg {s s' : Nat → Nat} (hW : W0 s) (h : Cv s) (e1 : s' 1 = s 1) (h9 : ∀ i, 9 ≤ i → i < 969 → s' i = s i) (hc : ∀ m w, m < 12 → w < 5 → s' (969 + 6 * m + w) = s (969 + 6 * m + w)) : Cv s' := ⟨Cw_cg hW h.1 e1 h9 hc, Sd_cg hW h.2 e1 h9⟩
theorem Cv_lad {s s' : Nat → Nat} (hW : W0 s) (h : Cv s) (o : ∀ i, i < 1041 → s' i = s i) : Cv s' := Cv_cg hW h (o 1 (by omega)) (fun i _ b => o i (by omega)) (fun m w a b => o _ (by omega))
/-- a place that can be taken -/
theorem Cw_pl {s : Nat → Nat} {m k q : Nat} (hW : W0 s) (h : Cw s) (hm : m < 12) (hk : k < s 1) (hq : q < 4) (hr : rsnM s m k q = 0) : Cw (updN s (393 + 12 * k + m) (q + 1)) := by
  obtain ⟨r1, r2, r3, r4, r5, r6, _⟩ := rsnM_0 hr
  have n48 := hW.n48
  have hk48 : k < 48 := by omega
  intro k' m' q' a b c d e
  rw [updN_n (by omega)] at a
  have hk' : k' < 48 := by omega
  rw [rec_pl_lo hk48 hk' hm (by omega)] at d
  rw [rec_pl hm b] at e
  rw [rec_pl_lo hk48 hk' hm (by omega), rec_pl_lo hk48 hk' hm (by omega), updN_n (by omega), updN_n (by omega)]
  by_cases g : k' = k ∧ m' = m
  · rw [if_pos g] at e
    obtain ⟨g1, g2⟩ := g
    subst g1 g2
    have e : q = q' := by omega
    subst e
    exact ⟨r4, by omega⟩
  · rw [if_neg g] at e
    exact h k' m' q' a b c d e
theorem Cv_pl {s : Nat → Nat} {m k q : Nat} (hW : W0 s) (h : Cv s) (hm : m < 12) (hk : k < s 1) (hq : q < 4) (hr : rsnM s m k q = 0) : Cv (updN s (393 + 12 * k + m) (q + 1)) := ⟨Cw_pl hW h.1 hm hk hq hr, Sd_pl hW h.2 hm hk (rsnM_0 hr).1⟩
theorem Cw_up {s : Nat → Nat} {k m : Nat} (hW : W0 s) (h : Cw s) (hm : m < 12) (hk : k < s 1) : Cw (updN s (393 + 12 * k + m) 0) := Cw_of h (fun k' m' q a b c d e => by
  have n48 := hW.n48
  have hk48 : k < 48 := by omega
  rw [updN_n (by omega)] at a
  have hk' : k' < 48 := by omega
  rw [rec_pl_lo hk48 hk' hm (by omega)] at d
  rw [rec_pl hm b] at e
  rw [rec_pl_lo hk48 hk' hm (by omega), rec_pl_lo hk48 hk' hm (by omega), updN_n (by omega), updN_n (by omega)]
  by_cases g : k' = k ∧ m' = m
  · rw [if_pos g] at e; omega
  · rw [if_neg g] at e
    exact ⟨a, d, e, rfl, rfl, Nat.le_refl _, Nat.le_refl _⟩)
theorem Cv_up {s : Nat → Nat} {k m : Nat} (hW : W0 s) (h : Cv s) (hm : m < 12) (hk : k < s 1) (h5 : recS s k 5 = 0) : Cv (updN s (393 + 12 * k + m) 0) := ⟨Cw_up hW h.1 hm hk, Sd_pl hW h.2 hm hk h5⟩
theorem Cv_cv {s : Nat → Nat} {m k q : Nat} (hW : W0 s) (h : Cv s) (hm : m < s 2) (hk : k < s 1) (hq : q < 4) (hr : rsnM s m k q = 0) : Cv (cvR s k q (some m)) := by
  have m12 := hW.m12
  have n48 := hW.n48
  have h5 : recS s k 5 ≠ 2 := by have := (rsnM_0 hr).1; omega
  have g := Cv_pl hW h (by omega) hk hq hr
  exact Cv_cg (W0_pl hW hk hm (by omega) h5) g ((updN_n (by omega)).trans (updN_n (by omega))) (fun i a b => (updN_n (by omega)).trans (updN_n (by omega))) (fun m' w a b => (updN_n (by omega)).trans (updN_n (by omega)))
/-- one cover -/
theorem Cv_c1 {s σ : Nat → Nat} {k q : Nat} (hP : PS s σ) (h : Cv s) (hk : k < s 1) (hq : q < 4) : Cv (cM1 k q s) ∧ PS (cM1 k q s) σ ∧ cM1 k q s 1 = s 1 := by
  obtain ⟨r, hr1, hrk, _⟩ := at_n hP hk
  obtain ⟨_, _, c3, c4⟩ := cv1_eq (ls := lsS s) (a := (s, UU s σ)) hP EqA_rf hr1 hq rfl
  rw [hrk] at c3 c4
  refine ⟨?_, c3, c4 1 (by omega)⟩
  unfold cM1
  cases e : covM s (lsS s q) k q with
  | none => exact h
  | some m =>
    obtain ⟨e1, e2⟩ := covM_s e
    exact Cv_cv hP.W h ((hP.1.2.2.2.1 q hq).2 m e1) hk hq e2
theorem Cv_cN {σ : Nat → Nat} {k q : Nat} (hq : q < 4) : ∀ (n : Nat) (s : Nat → Nat), PS s σ → Cv s → k < s 1 → Cv (cMN k q n s) ∧ PS (cMN k q n s) σ ∧ cMN k q n s 1 = s 1
  | 0, s, hP, h, _ => ⟨h, hP, rfl⟩
  | n + 1, s, hP, h, hk => by
    obtain ⟨a, b, c⟩ := Cv_c1 hP h hk hq
    obtain ⟨a', b', c'⟩ := Cv_cN (k := k) hq n (cM1 k q s) b a (by omega)
    exact ⟨a', b', c'.trans c⟩
theorem Cv_cA {σ : Nat → Nat} {k : Nat} : ∀ (n q : Nat) (s : Nat → Nat), q + n = 4 → PS s σ → Cv s → k < s 1 → Cv (cMA k q n s)
  | 0, _, s, _, _, h, _ => h
  | n + 1, q, s, hq, hP, h, hk => by
    obtain ⟨a, b, c⟩ := Cv_cN (k := k) (q := q) (by omega) (recS s k (10 + q) - tkM s k q) s hP h hk
    exact Cv_cA n (q + 1) _ (by omega) b a (by omega)
theorem Cv_st {gv σ : Nat → Nat} {k : Nat} {a : (Nat → Nat) × Nat} (hP : PS a.1 σ) (h : Cv a.1) (hk : k < a.1 1) (hg : gv k ≤ 4) : Cv (stM gv k a).1 ∧ PS (stM gv k a).1 σ ∧ (stM gv k a).1 1 = a.1 1 ∧ (stM gv k a).2 ≤ a.2 + 1 := by
  rcases (show gv k = 0 ∨ ∃ q, gv k = q + 1 by
    cases e : gv k with
    | zero => exact Or.inl rfl
    | succ q => exact Or.inr ⟨q, rfl⟩) with e | ⟨q, e⟩
  · rw [stM_0 e]
    exact ⟨h, hP, rfl, by omega⟩
  · rw [stM_s e]
    obtain ⟨x, y, z⟩ := Cv_c1 (q := q) hP h hk (by omega)
    refine ⟨x, y, z, ?_⟩
    dsimp only
    cases (!(covM a.1 (lsS a.1 q) k q).isSome) <;> simp
theorem Cv_FT {gv σ : Nat → Nat} {a : (Nat → Nat) × Nat} (hg : ∀ k, k < 48 → gv k ≤ 4) (hP : PS a.1 σ) (h : Cv a.1) : ∀ r, r ≤ a.1 1 → Cv (FT gv σ r a).1 ∧ PS (FT gv σ r a).1 σ ∧ (FT gv σ r a).1 1 = a.1 1 ∧ (FT gv σ r a).2 ≤ a.2 + r
  | 0, _ => ⟨h, hP, rfl, Nat.le_refl _⟩
  | r + 1, hr => by
    obtain ⟨x, y, z, w⟩ := Cv_FT hg hP h r (by omega)
    have n48 := hP.W.n48
    have hk := hP.2.1.1 r (by omega)
    obtain ⟨x', y', z', w'⟩ := Cv_st (gv := gv) (k := σ r) y x (by omega) (hg _ (by omega))
    exact ⟨x', y', z'.trans z, by show (stM gv (σ r) (FT gv σ r a)).2 ≤ _; omega⟩
theorem Cv_sick {s σ : Nat → Nat} {m h : Nat} (hP : PS s σ) (hC : Cv s) (hm : m < s 2) (hh : h < 1000) : Cv (sickM s m h).1 ∧ (sickM s m h).2 ≤ 48 := by
  have b1 := hP.W.n48
  have b2 := hP.W.m12
  have b0 := hP.sg.1
  obtain ⟨U, hU⟩ : ∃ U, U = s 0 + h := ⟨_, rfl⟩
  obtain ⟨s1, hs1⟩ : ∃ s1, s1 = updN s (969 + 6 * m + 4) U := ⟨_, rfl⟩
  have n1 : ∀ i, i ≠ 969 + 6 * m + 4 → s1 i = s i := fun i hi => by rw [hs1]; exact updN_n hi
  have P1 : PS s1 σ := PS_mem hP (by rw [hs1]; exact hP.B.mem (by omega) (by omega) (by omega)) (fun i a b => n1 i (by omega)) (by rw [hs1]; exact IVm_up hP.1.2.2.1 hm (by omega) (by omega))
  have r1 : ∀ k i, k < 48 → (i < 20 ∨ (20 ≤ i ∧ i < 32)) → recS s1 k i = recS s k i := fun k i a b => rec_hi (fun j x y => n1 j (by omega)) a b
  obtain ⟨s2, hs2⟩ : ∃ s2, s2 = gmR s1 m U (s 1) := ⟨_, rfl⟩
  have n2 : ∀ i, i < 393 ∨ 969 ≤ i → s2 i = s1 i := fun i hi => by rw [hs2]; exact gmR_n _ (fun k' hk' => by omega)
  have p2 : ∀ k m', m' < 12 → recS s2 k (20 + m') = if m' = m ∧ k < s 1 ∧ gmB s1 m U k = true then 0 else recS s1 k (20 + m') := fun k m' hm' => by rw [hs2]; exact gmR_pl (by omega) hm'
  have l2 : ∀ k i, k < 48 → i < 20 → recS s2 k i = recS s1 k i := fun k i a b => rec_lo (fun w hw => n2 _ (by omega)) b
  have B2 : RB s2 := by rw [hs2]; exact P1.B.gm (by omega) _ (by omega)
  have P2 : PS s2 σ := by
    refine PS_less P1 B2 (n2 1 (by omega)) (fun i hi => ?_) (fun k w hk _ hw => n2 _ (by omega)) (fun k hk => by rw [l2 k 5 (by have := n1 1 (by omega); omega) (by omega)]; exact id) (fun k hk => ?_) (fun k m' hk hm' => ?_) (fun k m' hk hm' c => ?_)
    · exact n2 i (by omega)
    · have e1 := n1 1 (by omega)
      rw [l2 k 5 (by omega) (by omega), n2 0 (by omega)]
      exact (P1.W.2.2.1 k hk).2
    · rw [p2 k m' hm']
      split
      · exact Or.inl rfl
      · exact Or.inr rfl
    · rw [l2 k 5 hk (by omega)] at c
      rw [p2 k m' hm']
      split
      · rfl
      · exact P1.W.2.1 k m' hk hm' (Or.inr (Or.inr c))
  have e1 : s2 1 = s 1 := (n2 1 (by omega)).trans (n1 1 (by omega))
  have e0 : s1 0 = s 0 := n1 0 (by omega)
  have hg : ∀ k, k < 48 → gmN s1 m U k ≤ 4 := fun k hk => by
    unfold gmN
    cases c : gmB s1 m U k with
    | false => exact Nat.zero_le _
    | true => exact rec_le4 P1.B hk (by omega)
  have C3 : Cw s2 := by
    intro k m' q a b c d e
    rw [e1] at a
    have hk : k < 48 := by omega
    rw [l2 k 5 hk (by omega), r1 k 5 hk (by omega)] at d
    rw [p2 k m' b] at e
    rw [l2 k 3 hk (by omega), r1 k 3 hk (by omega), l2 k 2 hk (by omega), r1 k 2 hk (by omega), n2 _ (by omega), n2 _ (by omega)]
    by_cases g : m' = m ∧ k < s 1 ∧ gmB s1 m U k = true
    · rw [if_pos g] at e; omega
    · rw [if_neg g, r1 k _ hk (by omega)] at e
      obtain ⟨h1, h2⟩ := hC.1 k m' q a b c d e
      rw [n1 (969 + 6 * m' + q) (by omega)]
      refine ⟨h1, ?_⟩
      by_cases f : m' = m
      · subst f
        have ho := (hP.W.2.2.1 k a).2 d
        have hn : ¬ gmB s1 m' U k = true := fun w => g ⟨rfl, a, w⟩
        have hx : ¬ (recS s1 k 5 = 0 ∧ s1 0 ≤ recS s1 k 2 ∧ recS s1 k 2 < U ∧ recS s1 k (20 + m') ≠ 0) := fun w => hn (decide_eq_true w)
        rw [r1 k 5 hk (by omega), r1 k 2 hk (by omega), r1 k (20 + m') hk (by omega), e0] at hx
        have : ¬ recS s k 2 < U := fun w => hx ⟨d, ho, w, by omega⟩
        rw [hs1, updN_s]
        omega
      · rw [n1 (969 + 6 * m' + 4) (by omega)]
        exact h2
  have S2 : Sd s2 := Sd_of hC.2 (fun k a d => by
    rw [e1] at a
    have hk : k < 48 := by omega
    rw [l2 k 5 hk (by omega), r1 k 5 hk (by omega)] at d
    refine ⟨a, d, fun i x y => by rw [l2 k i hk (by omega), r1 k i hk (by omega)], fun m' hm' => ?_⟩
    rw [p2 k m' hm', if_neg (fun w => by
      have := (of_decide_eq_true w.2.2).1
      rw [r1 k 5 hk (by omega)] at this
      omega), r1 k _ hk (by omega)])
  have C2 : Cv s2 := ⟨C3, S2⟩
  have hall := skO_all (b := (s2, 0)) (H := s 0) (n := h) hg P2 (fun k hk w => by
    have hk : k < s2 1 := hk
    have w2 : gmB s1 m U k = true := by
      unfold gmN at w
      cases c : gmB s1 m U k with
      | true => rfl
      | false => rw [c] at w; exact absurd rfl w
    have w3 := of_decide_eq_true w2
    show s 0 ≤ recS s2 k 2 ∧ recS s2 k 2 < s 0 + h
    rw [l2 k 2 (by omega) (by omega)]
    omega)
  have eM : sickM s m h = skO (gmN s1 m U) (s 0) h (s2, 0) := by rw [hs2, hs1, hU]; rfl
  obtain ⟨x, _, _, w⟩ := Cv_FT (gv := gmN s1 m U) (a := (s2, 0)) hg P2 C2 (s2 1) (Nat.le_refl _)
  rw [eM, hall]
  dsimp only at w ⊢
  exact ⟨x, by omega⟩
theorem Cw_pass {s σ : Nat → Nat} {h : Nat} (hP : PS s σ) (hC : Cw s) (hh : s 0 + h ≤ 1000) : Cw (passN h s) := by
  obtain ⟨p1, p2, p3, p4⟩ := passN_ok h s hP hh
  have n48 := hP.W.n48
  refine Cw_of hC (fun k m q a b c d e => ?_)
  rw [p3 1 (by omega)] at a
  have hk : k < 48 := by omega
  rw [p4 k 5 hk (by omega)] at d
  rw [p4 k _ hk (by omega)] at e
  rw [p4 k 3 hk (by omega), p4 k 2 hk (by omega), p3 _ (by omega), p3 _ (by omega)]
  by_cases g : k < s 1 ∧ (recS s k 5 = 0 ∧ recS s k 2 < s 0 + h)
  · rw [if_pos g] at d
    exact absurd d dep_5
  · rw [if_neg g] at d e
    rw [if_neg g, if_neg g]
    exact ⟨a, d, e, rfl, rfl, Nat.le_refl _, Nat.le_refl _⟩
theorem Cv_pass {s σ : Nat → Nat} {h : Nat} (hP : PS s σ) (hC : Cv s) (hh : s 0 + h ≤ 1000) : Cv (passN h s) := by
  refine ⟨Cw_pass hP hC.1 hh, fun k a d => ?_⟩
  obtain ⟨p1, p2, p3, p4⟩ := passN_ok h s hP hh
  have n48 := hP.W.n48
  rw [p3 1 (by omega)] at a
  have hk : k < 48 := by omega
  rw [p4 k 5 hk (by omega)] at d
  by_cases g : k < s 1 ∧ (recS s k 5 = 0 ∧ recS s k 2 < s 0 + h)
  · rw [if_pos g] at d
    have c : ned (recS s k) = tkU (recS s k) := by
      unfold depN at d
      split at d
      · assumption
      · rw [off_5] at d; omega
    have e : ∀ i, i < 32 → recS (passN h s) k i = updN (recS s k) 5 1 i := fun i hi => by
      rw [p4 k i hk hi, if_pos g]
      unfold depN
      rw [if_pos c]
    rw [ned_cg (v := recS s k) (fun i x y => by rw [e i (by omega)]; exact updN_n (by omega)), tkU_cg (v := recS s k) (fun m hm => by rw [e _ (by omega)]; exact updN_n (by omega))]
    exact c
  · rw [if_neg g] at d
    have e : ∀ i, i < 32 → recS (passN h s) k i = recS s k i := fun i hi => by rw [p4 k i hk hi, if_neg g]
    rw [ned_cg (v := recS s k) (fun i x y => e i (by omega)), tkU_cg (v := recS s k) (fun m hm => e _ (by omega))]
    exact hC.2 k a d
theorem Cw_off {s σ : Nat → Nat} {k : Nat} (hP : PS s σ) (hC : Cw s) (hk : k < s 1) : Cw (clrM (updN s (9 + 8 * k + 0) 2) k 12) := by
  have n48 := hP.W.n48
  have hk48 : k < 48 := by omega
  have o : ∀ i, (i < 9 ∨ 969 ≤ i) → clrM (updN s (9 + 8 * k + 0) 2) k 12 i = s i := fun i hi => (clrM_out (by omega)).trans (updN_n (by omega))
  refine Cw_of hC (fun k' m q a b c d e => ?_)
  rw [o 1 (by omega)] at a
  have hk' : k' < 48 := by omega
  rw [rec_off hk48 hk' (by omega)] at d e
  rw [rec_off hk48 hk' (by omega), rec_off hk48 hk' (by omega), o _ (by omega), o _ (by omega)]
  by_cases g : k' = k
  · rw [if_pos g] at d
    rw [off_5] at d
    omega
  · rw [if_neg g] at d e
    rw [if_neg g, if_neg g]
    exact ⟨a, d, e, rfl, rfl, Nat.le_refl _, Nat.le_refl _⟩
theorem Cv_off {s σ : Nat → Nat} {k : Nat} (hP : PS s σ) (hC : Cv s) (hk : k < s 1) : Cv (clrM (updN s (9 + 8 * k + 0) 2) k 12) := by
  refine ⟨Cw_off hP hC.1 hk, Sd_of hC.2 (fun k' a d => ?_)⟩
  have n48 := hP.W.n48
  have hk48 : k < 48 := by omega
  rw [clrM_out (by omega), updN_n (by omega)] at a
  have hk' : k' < 48 := by omega
  rw [rec_off hk48 hk' (by omega)] at d
  by_cases g : k' = k
  · rw [if_pos g, off_5] at d
    omega
  · rw [if_neg g] at d
    exact ⟨a, d, fun i x y => by rw [rec_off hk48 hk' (by omega), if_neg g], fun m hm => by rw [rec_off hk48 hk' (by omega), if_neg g]⟩
theorem Cw_new {s σ : Nat → Nat} {f st h v : Nat} (hP : PS s σ) (hC : Cw s) (hn : s 1 < 48) (hv : v < 10000) : Cw (newM s f st h v) := by
  refine Cw_of hC (fun k m q a b c d e => ?_)
  have h0 : ∀ m, m < 12 → recS s (s 1) (20 + m) = 0 := fun m hm => hP.W.2.1 _ _ hn hm (Or.inl (Nat.le_refl _))
  rw [newM_1] at a
  have hk : k < 48 := by omega
  rw [rec_new hn hv h0 hk (by omega)] at d e
  rw [rec_new hn hv h0 hk (by omega), rec_new hn hv h0 hk (by omega), newM_o (by omega) (by omega), newM_o (by omega) (by omega)]
  by_cases g : k = s 1
  · rw [if_pos g] at e
    have : newR (s 1) f st h v (20 + m) = 0 := by rw [Nat.add_comm]; rfl
    omega
  · rw [if_neg g] at d e
    rw [if_neg g, if_neg g]
    exact ⟨by omega, d, e, rfl, rfl, Nat.le_refl _, Nat.le_refl _⟩
theorem Cv_new {s σ : Nat → Nat} {f st h v : Nat} (hP : PS s σ) (hC : Cv s) (hn : s 1 < 48) (hv : v < 10000) : Cv (newM s f st h v) := by
  refine ⟨Cw_new hP hC.1 hn hv, Sd_of hC.2 (fun k a d => ?_)⟩
  have h0 : ∀ m, m < 12 → recS s (s 1) (20 + m) = 0 := fun m hm => hP.W.2.1 _ _ hn hm (Or.inl (Nat.le_refl _))
  rw [newM_1] at a
  have hk : k < 48 := by omega
  rw [rec_new hn hv h0 hk (by omega)] at d
  by_cases g : k = s 1
  · rw [if_pos g] at d
    have : newR (s 1) f st h v 5 = 0 := rfl
    omega
  · rw [if_neg g] at d
    exact ⟨by omega, d, fun i x y => by rw [rec_new hn hv h0 hk (by omega), if_neg g], fun m hm => by rw [rec_new hn hv h0 hk (by omega), if_neg g]⟩
theorem Cw_memb {s σ : Nat → Nat} {q v : Nat} (hP : PS s σ) (hC : Cw s) (hq : q < 4) (hm : s 2 < 12) (l12 : s (1041 + q) < 12) : Cw (memM s q v) := by
  have n48 := hP.W.n48
  have o : ∀ i, i < 1041 → i ≠ 2 → i ≠ 969 + 6 * s 2 + q → memM s q v i = s i := fun i a b c => by
    unfold memM
    rw [appM_o hq (by rw [updN_n (by omega), updN_n (by omega)]; exact l12) a, updN_n c, updN_n b]
  refine Cw_of hC (fun k m q' a b c d e => ?_)
  rw [o 1 (by omega) (by omega) (by omega)] at a
  have hk : k < 48 := by omega
  have r1 : ∀ i, (i < 20 ∨ (20 ≤ i ∧ i < 32)) → recS (memM s q v) k i = recS s k i := fun i hi => rec_hi (fun j x y => o j (by omega) (by omega) (by omega)) hk hi
  rw [r1 5 (by omega)] at d
  rw [r1 _ (by omega)] at e
  have hms : m < s 2 := by
    rcases Nat.lt_or_ge m (s 2) with x | x
    · exact x
    · have := hP.W.2.1 k m hk b (Or.inr (Or.inl x)); omega
  exact ⟨a, d, e, r1 3 (by omega), r1 2 (by omega), Nat.le_of_eq (o _ (by omega) (by omega) (by omega)).symm, Nat.le_of_eq (o _ (by omega) (by omega) (by omega))⟩
theorem Cv_memb {s σ : Nat → Nat} {q v : Nat} (hP : PS s σ) (hC : Cv s) (hq : q < 4) (hm : s 2 < 12) (l12 : s (1041 + q) < 12) : Cv (memM s q v) := by
  have o : ∀ i, i < 1041 → i ≠ 2 → i ≠ 969 + 6 * s 2 + q → memM s q v i = s i := fun i a b c => by
    unfold memM
    rw [appM_o hq (by rw [updN_n (by omega), updN_n (by omega)]; exact l12) a, updN_n c, updN_n b]
  exact ⟨Cw_memb hP hC.1 hq hm l12, Sd_cg hP.W hC.2 (o 1 (by omega) (by omega) (by omega)) (fun i a b => o i (by omega) (by omega) (by omega))⟩
theorem Cw_cert {s σ : Nat → Nat} {m q v : Nat} (hP : PS s σ) (hC : Cw s) (hm : m < 12) (hq : q < 4) (hn : oA (fun k => decide (recS s k 5 = 0 ∧ v < recS s k 3 ∧ recS s k (20 + m) = q + 1)) 0 (s 1) = false) : Cw (updN s (969 + 6 * m + q) v) := by
  have n48 := hP.W.n48
  intro k m' q' a b c d e
  rw [updN_n (by omega)] at a
  have hk : k < 48 := by omega
  have r1 : ∀ i, (i < 20 ∨ (20 ≤ i ∧ i < 32)) → recS (updN s (969 + 6 * m + q) v) k i = recS s k i := fun i hi => rec_hi (fun j x y => updN_n (by omega)) hk hi
  rw [r1 5 (by omega)] at d
  rw [r1 _ (by omega)] at e
  rw [r1 3 (by omega), r1 2 (by omega), updN_n (j := 969 + 6 * m' + 4) (by omega)]
  obtain ⟨h1, h2⟩ := hC k m' q' a b c d e
  refine ⟨?_, h2⟩
  by_cases g : 969 + 6 * m' + q' = 969 + 6 * m + q
  · rw [g, updN_s]
    have g1 : m' = m := by omega
    have g2 : q' = q := by omega
    subst g1 g2
    rcases Nat.lt_or_ge v (recS s k 3) with x | x
    · exfalso
      have : oA (fun k => decide (recS s k 5 = 0 ∧ v < recS s k 3 ∧ recS s k (20 + m') = q' + 1)) 0 (s 1) = true := oA_iff.mpr ⟨k, Nat.zero_le _, by omega, decide_eq_true ⟨d, x, e⟩⟩
      rw [hn] at this
      cases this
    · exact x
  · rw [updN_n g]; exact h1
theorem Cv_cert {s σ : Nat → Nat} {m q v : Nat} (hP : PS s σ) (hC : Cv s) (hm : m < 12) (hq : q < 4) (hn : oA (fun k => decide (recS s k 5 = 0 ∧ v < recS s k 3 ∧ recS s k (20 + m) = q + 1)) 0 (s 1) = false) : Cv (updN s (969 + 6 * m + q) v) := ⟨Cw_cert hP hC.1 hm hq hn, Sd_cg hP.W hC.2 (updN_n (by omega)) (fun i a b => updN_n (by omega))⟩
theorem Cw_well {s σ : Nat → Nat} {m : Nat} (hP : PS s σ) (hC : Cw s) (hm : m < 12) : Cw (updN s (969 + 6 * m + 4) 0) := by
  have n48 := hP.W.n48
  refine Cw_of hC (fun k m' q a b c d e => ?_)
  rw [updN_n (by omega)] at a
  have hk : k < 48 := by omega
  have r1 : ∀ i, (i < 20 ∨ (20 ≤ i ∧ i < 32)) → recS (updN s (969 + 6 * m + 4) 0) k i = recS s k i := fun i hi => rec_hi (fun j x y => updN_n (by omega)) hk hi
  rw [r1 5 (by omega)] at d
  rw [r1 _ (by omega)] at e
  refine ⟨a, d, e, r1 3 (by omega), r1 2 (by omega), Nat.le_of_eq (updN_n (by omega)).symm, ?_⟩
  by_cases g : 969 + 6 * m' + 4 = 969 + 6 * m + 4
  · rw [g, updN_s]; omega
  · rw [updN_n g]; exact Nat.le_refl _
theorem Cv_well {s σ : Nat → Nat} {m : Nat} (hP : PS s σ) (hC : Cv s) (hm : m < 12) : Cv (updN s (969 + 6 * m + 4) 0) := ⟨Cw_well hP hC.1 hm, Sd_cg hP.W hC.2 (updN_n (by omega)) (fun i a b => updN_n (by omega))⟩
theorem Cw00 : Cw s00 := fun k m q a => by
  rw [show s00 1 = 0 from s00_z (by omega)] at a
  omega

theorem Cv00 : Cv s00 := ⟨Cw00, fun k a => by
  rw [show s00 1 = 0 from s00_z (by omega)] at a
  omega⟩