/-! a row in order; the class's sailings by rank of it -/
def emp : Nat → Nat := fun i => if i = 5 then 3 else 0
def UU (s σ : Nat → Nat) : Nat → Nat → Nat := fun r => if r < s 1 then recS s (σ r) else emp
theorem UU_lt {s σ : Nat → Nat} {r : Nat} (h : r < s 1) : UU s σ r = recS s (σ r) := if_pos h
theorem UU_ge {s σ : Nat → Nat} {r : Nat} (h : s 1 ≤ r) : UU s σ r = emp := if_neg (by omega)
theorem emp_n {i : Nat} (h : i ≠ 5) : emp i = 0 := if_neg h
def IVz (s : Nat → Nat) : Prop := ∀ k m, k < 48 → m < 12 → (s 1 ≤ k ∨ s 2 ≤ m ∨ recS s k 5 = 2) → recS s k (20 + m) = 0
def IVs (s : Nat → Nat) : Prop := (∀ k, k < s 1 → 1 ≤ s (9 + 8 * k + 3) ∧ (recS s k 5 = 0 → s 0 ≤ recS s k 2)) ∧ ∀ k j, k < s 1 → j < s 1 → k ≠ j → recS s k 5 ≠ 2 → recS s j 5 ≠ 2 → recS s k 1 = recS s j 1 → recS s k 3 ≤ recS s j 2 ∨ recS s j 3 ≤ recS s k 2
def W0 (s : Nat → Nat) : Prop := RB s ∧ IVz s ∧ IVs s
def IVf (s : Nat → Nat) : Prop := ∀ k, k < s 1 → FK s k
def IVm (s : Nat → Nat) : Prop := (∀ m, s 2 ≤ m → m < 12 → s (969 + 6 * m + 4) = 0 ∧ s (969 + 6 * m + 5) = 0) ∧ s 3 = sA (fun m => s (969 + 6 * m + 5)) 0 12
def IVl (s : Nat → Nat) : Prop := ∀ q, q < 4 → (lsS s q).Nodup ∧ ∀ x, x ∈ lsS s q → x < s 2
def IVr (s : Nat → Nat) : Prop := ∀ m, m < s 2 → (∀ h, dcN s m h ≤ 1) ∧ RAll s (fD (dcN s m))
/-- a row in order -/
def IV (s : Nat → Nat) : Prop := W0 s ∧ IVf s ∧ IVm s ∧ IVl s ∧ IVr s
def PS (s σ : Nat → Nat) : Prop := IV s ∧ Prm σ (s 1) ∧ Srt (fun k => recS s k 2) σ (s 1)
theorem W0.n48 {s : Nat → Nat} (h : W0 s) : s 1 ≤ 48 := h.1.1.2.1
theorem W0.m12 {s : Nat → Nat} (h : W0 s) : s 2 ≤ 12 := h.1.1.2.2.1
theorem rec_lo {s s' : Nat → Nat} {k i : Nat} (h : ∀ w, w < 8 → s' (9 + 8 * k + w) = s (9 + 8 * k + w)) (hi : i < 20) : recS s' k i = recS s k i := by
  have h0 := h 0 (by omega)
  have h1 := h 1 (by omega)
  have h2 := h 2 (by omega)
  have h3 := h 3 (by omega)
  have h4 := h 4 (by omega)
  have h5 := h 5 (by omega)
  have h6 := h 6 (by omega)
  have h7 := h 7 (by omega)
  rcases (show i = 0 ∨ i = 1 ∨ i = 2 ∨ i = 3 ∨ i = 4 ∨ i = 5 ∨ i = 6 ∨ i = 7 ∨ i = 8 ∨ i = 9 ∨ i = 10 ∨ i = 11 ∨ i = 12 ∨ i = 13 ∨ 14 ≤ i by omega) with rfl | rfl | rfl | rfl | rfl | rfl | rfl | rfl | rfl | rfl | rfl | rfl | rfl | rfl | c
  · rfl
  · exact h1
  · exact h2
  · show s' (9 + 8 * k + 2) + s' (9 + 8 * k + 3) = s (9 + 8 * k + 2) + s (9 + 8 * k + 3)
    rw [h2, h3]
  · show 1000 * s' (9 + 8 * k + 4) + 100 * s' (9 + 8 * k + 5) + 10 * s' (9 + 8 * k + 6) + s' (9 + 8 * k + 7) = 1000 * s (9 + 8 * k + 4) + 100 * s (9 + 8 * k + 5) + 10 * s (9 + 8 * k + 6) + s (9 + 8 * k + 7)
    rw [h4, h5, h6, h7]
  · exact h0
  · rfl
  · rfl
  · rfl
  · rfl
  · exact h4
  · exact h5
  · exact h6
  · exact h7
  · obtain ⟨j, rfl⟩ : ∃ j, i = j + 14 := ⟨i - 14, by omega⟩
    show (if 20 ≤ j + 14 ∧ j + 14 < 32 then _ else 0) = (if 20 ≤ j + 14 ∧ j + 14 < 32 then _ else 0)
    rw [if_neg (by omega), if_neg (by omega)]
theorem rec_pl_lo {s : Nat → Nat} {k k' m v i : Nat} (hk : k < 48) (hk' : k' < 48) (hm : m < 12) (hi : i < 20) : recS (updN s (393 + 12 * k + m) v) k' i = recS s k' i :=
  rec_lo (fun w hw => updN_n (by omega)) hi
theorem rec_pl {s : Nat → Nat} {k k' m v i : Nat} (hm : m < 12) (hi : i < 12) : recS (updN s (393 + 12 * k + m) v) k' (20 + i) = if k' = k ∧ i = m then v else recS s k' (20 + i) := by
  rw [recS_20 hi, recS_20 hi]
  by_cases c : k' = k ∧ i = m
  · rw [if_pos c, c.1, c.2, updN_s]
  · rw [if_neg c, updN_n (by omega)]
/-- numbers of a row that do not count for sailings -/
theorem rec_hi {s s' : Nat → Nat} {k : Nat} (h : ∀ i, 9 ≤ i → i < 969 → s' i = s i) (hk : k < 48) {i : Nat} (hi : i < 20 ∨ (20 ≤ i ∧ i < 32)) : recS s' k i = recS s k i := by
  rcases hi with hi | hi
  · exact rec_lo (fun w hw => h _ (by omega) (by omega)) hi
  · obtain ⟨m, rfl⟩ : ∃ m, i = 20 + m := ⟨i - 20, by omega⟩
    rw [recS_20 (by omega), recS_20 (by omega), h _ (by omega) (by omega)]
theorem tkR_M {s : Nat → Nat} (hW : W0 s) {k q : Nat} (hk : k < 48) : tkR (recS s k) q = tkM s k q := by
  unfold tkR tkM
  rw [cA_sA, cA_sA]
  exact sA_part (n := s 2) (m := 12) hW.m12 (fun m a b => by
    have e := hW.2.1 k m hk b (Or.inr (Or.inl a))
    simp [e])
theorem rec_le4 {s : Nat → Nat} (hB : RB s) {k m : Nat} (hk : k < 48) (hm : m < 12) : recS s k (20 + m) ≤ 4 := by
  rw [recS_20 hm]; exact hB.2.2.1 k hk m hm
theorem tkU_O {s : Nat → Nat} (hW : W0 s) {k : Nat} (hk : k < 48) : tkU (recS s k) = tkO s k := by
  rw [tkU_R (fun m hm => rec_le4 hW.1 hk hm), tkR_M hW hk, tkR_M hW hk, tkR_M hW hk, tkR_M hW hk]
  rfl
theorem fr_fo {s : Nat → Nat} (hW : W0 s) {k : Nat} (hk : k < 48) : fr (recS s k) = fo s k := by
  unfold fr fo
  rw [tkU_O hW hk]
theorem rec_Sm {s : Nat → Nat} (hB : RB s) {k : Nat} (hk : k < 48) : Sm (recS s k) := by
  intro i
  have b := hB.2.1 k hk
  rcases (show i = 0 ∨ i = 1 ∨ i = 2 ∨ i = 3 ∨ i = 4 ∨ i = 5 ∨ i = 6 ∨ i = 7 ∨ i = 8 ∨ i = 9 ∨ i = 10 ∨ i = 11 ∨ i = 12 ∨ i = 13 ∨ 14 ≤ i by omega) with rfl | rfl | rfl | rfl | rfl | rfl | rfl | rfl | rfl | rfl | rfl | rfl | rfl | rfl | c
  · show k < 100000; omega
  · show s (9 + 8 * k + 1) < 100000; omega
  · show s (9 + 8 * k + 2) < 100000; omega
  · show s (9 + 8 * k + 2) + s (9 + 8 * k + 3) < 100000; omega
  · show 1000 * s (9 + 8 * k + 4) + 100 * s (9 + 8 * k + 5) + 10 * s (9 + 8 * k + 6) + s (9 + 8 * k + 7) < 100000; omega
  · show s (9 + 8 * k + 0) < 100000; omega
  · show 0 < 100000; omega
  · show 0 < 100000; omega
  · show 0 < 100000; omega
  · show 0 < 100000; omega
  · show s (9 + 8 * k + 4) < 100000; omega
  · show s (9 + 8 * k + 5) < 100000; omega
  · show s (9 + 8 * k + 6) < 100000; omega
  · show s (9 + 8 * k + 7) < 100000; omega
  · by_cases d : i < 32 ∧ 20 ≤ i
    · obtain ⟨m, rfl⟩ : ∃ m, i = 20 + m := ⟨i - 20, by omega⟩
      have := rec_le4 hB (k := k) (m := m) hk (by omega)
      omega
    · obtain ⟨j, rfl⟩ : ∃ j, i = j + 14 := ⟨i - 14, by omega⟩
      show (if 20 ≤ j + 14 ∧ j + 14 < 32 then _ else 0) < 100000
      rw [if_neg (by omega)]; omega
theorem rec_G {s : Nat → Nat} (hW : W0 s) {k : Nat} (hk : k < 48) (hf : FK s k) : SaG (recS s k) := by
  have b := hW.1.2.1 k hk
  refine ⟨⟨rec_Sm hW.1 hk, fun m hm => rec_le4 hW.1 hk hm, fun q hq => ?_⟩, ?_, ?_, ?_, ?_⟩
  · rw [tkR_M hW hk]; exact hf q hq
  · show s (9 + 8 * k + 1) < 6; omega
  · show s (9 + 8 * k + 2) ≤ s (9 + 8 * k + 2) + s (9 + 8 * k + 3); omega
  · show s (9 + 8 * k + 2) + s (9 + 8 * k + 3) ≤ 1100; omega
  · show s (9 + 8 * k + 0) < 4; omega
theorem emp_le (i : Nat) : emp i ≤ 3 := by unfold emp; split <;> omega
theorem emp_G : SaG emp := by
  refine ⟨⟨fun i => by have := emp_le i; omega, fun m hm => by have := emp_le (20 + m); omega, fun q hq => ?_⟩, ?_, ?_, ?_, ?_⟩
  · unfold tkR
    rw [cA_all0 12 0 (fun m _ _ => by rw [emp_n (by omega)]; simp)]
    exact Nat.zero_le _
  · rw [emp_n (by omega)]; omega
  · rw [emp_n (by omega)]; exact Nat.zero_le _
  · rw [emp_n (by omega)]; omega
  · show 3 < 4; omega
theorem PS.W {s σ : Nat → Nat} (h : PS s σ) : W0 s := h.1.1
theorem PS.B {s σ : Nat → Nat} (h : PS s σ) : RB s := h.1.1.1
theorem PS.ug {s σ : Nat → Nat} (h : PS s σ) : UG (UU s σ) := by
  intro r hr
  have b := h.W.n48
  rcases Nat.lt_or_ge r (s 1) with c | c
  · rw [UU_lt c]
    have := h.2.1.1 r c
    exact rec_G h.W (by omega) (h.1.2.1 _ this)
  · rw [UU_ge c]; exact emp_G
theorem lsF_len {s : Nat → Nat} {q : Nat} : ∀ (n i : Nat), (lsF s q i n).length = n
  | 0, _ => rfl
  | n + 1, i => by show (lsF s q (i + 1) n).length + 1 = n + 1; rw [lsF_len n (i + 1)]
theorem lsS_len {s : Nat → Nat} {q : Nat} : (lsS s q).length = s (1041 + q) := lsF_len _ _
theorem PS.lg {s σ : Nat → Nat} (h : PS s σ) : LG s (lsS s) := fun q hq => ⟨by rw [lsS_len]; exact (h.B.2.2.2 q hq).1, (h.1.2.2.2.1 q hq).2⟩
theorem PS.sg {s σ : Nat → Nat} (h : PS s σ) : SG s := h.B.1
def EqH (a s : Nat → Nat) : Prop := ∀ i, i < 9 ∨ (969 ≤ i ∧ i < 1041) → a i = s i
def EqU (u v : Nat → Nat → Nat) : Prop := ∀ r i, r < 48 → (i < 6 ∨ (10 ≤ i ∧ i < 14) ∨ (20 ≤ i ∧ i < 32)) → u r i = v r i
theorem stc_cg {X : pX} {B : Nat} {a s : Nat → Nat} {u v : Nat → Nat → Nat} {ls ll : Nat → List Nat} (h : StC X B a u ls) (hs : EqH a s) (hu : EqU u v) (hl : ∀ q, q < 4 → ls q = ll q) (gU : UG v) (gS : SG s) (gL : LG s ll) : StC X B s v ll := by
  obtain ⟨hw, ⟨h1, h2, h3, h4⟩, -, -, -⟩ := h
  refine ⟨hw, ⟨⟨?_, ?_, ?_, fun i hi => ?_⟩, fun r hr => ⟨fun i hi => ?_, fun q hq => ?_, fun m hm => ?_⟩, fun k hk => ⟨fun q hq => ?_, ?_, ?_⟩, fun q hq => ?_⟩, gU, gS, gL⟩
  · rw [← hs 0 (by omega)]; exact h1.1
  · rw [← hs 1 (by omega)]; exact h1.2.1
  · rw [← hs 2 (by omega)]; exact h1.2.2.1
  · rw [← hs (4 + i) (by omega)]; exact h1.2.2.2 i hi
  · rw [← hu r i hr (by omega)]; exact (h2 r hr).1 i hi
  · rw [← hu r (10 + q) hr (by omega)]; exact (h2 r hr).2.1 q hq
  · rw [← hu r (20 + m) hr (by omega)]; exact (h2 r hr).2.2 m hm
  · rw [← hs (969 + 6 * k + q) (by omega)]; exact (h3 k hk).1 q hq
  · rw [← hs (969 + 6 * k + 4) (by omega)]; exact (h3 k hk).2.1
  · rw [← hs (969 + 6 * k + 5) (by omega)]; exact (h3 k hk).2.2
  · rw [← hl q hq]; exact h4 q hq
/-- a State holds a row -/
def Rc (X : pX) (B : Nat) (s σ : Nat → Nat) : Prop := StC X B s (UU s σ) (lsS s)
theorem Rc_of {X : pX} {B : Nat} {a s σ : Nat → Nat} {u : Nat → Nat → Nat} {ls : Nat → List Nat} (h : StC X B a u ls) (hP : PS s σ) (hs : EqH a s) (hu : EqU u (UU s σ)) (hl : ∀ q, q < 4 → ls q = lsS s q) : Rc X B s σ :=
  stc_cg h hs hu hl hP.ug hP.sg hP.lg
/-! duties by rank and by number -/
theorem dF1_cg {u v : Nat → Nat → Nat} {P Q : Nat → Bool} (hP : ∀ r, r < 48 → P r = Q r) (hu : ∀ r i, r < 48 → 1 ≤ i → i ≤ 3 → u r i = v r i) : ∀ (n k : Nat) (d : dS), k + n = 48 → dF1 u P k n d = dF1 v Q k n d
  | 0, _, _, _ => rfl
  | n + 1, k, d, h => by
    have h1 := hP k (by omega)
    cases c : P k with
    | true => rw [dF1_t c, dF1_t (h1 ▸ c), dF1_cg hP hu n (k + 1) _ (by omega), hu k 1 (by omega) (by omega) (by omega), hu k 2 (by omega) (by omega) (by omega), hu k 3 (by omega) (by omega) (by omega)]
    | false => rw [dF1_f c, dF1_f (h1 ▸ c), dF1_cg hP hu n (k + 1) _ (by omega)]
theorem dF2_cg {u v : Nat → Nat → Nat} {P Q : Nat → Bool} (hP : ∀ r, r < 48 → P r = Q r) (hu : ∀ r i, r < 48 → 1 ≤ i → i ≤ 3 → u r i = v r i) : ∀ (n k : Nat) (d : dS), k + n = 48 → dF2 u P k n d = dF2 v Q k n d
  | 0, _, _, _ => rfl
  | n + 1, k, d, h => by
    have h1 := hP k (by omega)
    cases c : P k with
    | true => rw [dF2_t c, dF2_t (h1 ▸ c), dF2_cg hP hu n (k + 1) _ (by omega), hu k 1 (by omega) (by omega) (by omega), hu k 2 (by omega) (by omega) (by omega)]
    | false => rw [dF2_f c, dF2_f (h1 ▸ c), dF2_cg hP hu n (k + 1) _ (by omega)]
theorem dAll_cg {u v : Nat → Nat → Nat} {hv : Nat} {P Q : Nat → Bool} (hP : ∀ r, r < 48 → P r = Q r) (hu : ∀ r i, r < 48 → 1 ≤ i → i ≤ 3 → u r i = v r i) : dAll u hv P = dAll v hv Q := by
  unfold dAll
  rw [dF1_cg hP hu 48 0 d0 rfl, dF2_cg hP hu 48 0 _ rfl]
theorem sel_lt {s σ : Nat → Nat} (hW : W0 s) (hp : Prm σ (s 1)) {m r : Nat} (hm : m < 12) (hr : r < s 1) : selD (UU s σ) m none r = hdB s m (σ r) := by
  have b := hW.n48
  have b2 := hp.1 r hr
  unfold selD hdB
  rw [UU_lt hr]
  by_cases c : recS s (σ r) (20 + m) = 0
  · simp [c]
  · have : recS s (σ r) 5 ≠ 2 := fun e => c (hW.2.1 _ m (by omega) hm (Or.inr (Or.inr e)))
    simp [c, this]
theorem sel_ge {s σ : Nat → Nat} {m r : Nat} (hr : s 1 ≤ r) : selD (UU s σ) m none r = false := by
  unfold selD
  rw [UU_ge hr, emp_n (by omega)]
  simp
theorem sel_ok {s σ : Nat → Nat} (hW : W0 s) (hp : Prm σ (s 1)) {m : Nat} (hm : m < 12) : SelOk (UU s σ) (selD (UU s σ) m none) := by
  have b := hW.n48
  have lt : ∀ r, selD (UU s σ) m none r = true → r < s 1 := fun r h => by
    rcases Nat.lt_or_ge r (s 1) with c | c
    · exact c
    · rw [sel_ge c] at h; exact absurd h (by decide)
  refine ⟨fun r _ h => ?_, fun r q _ _ h g hne hf => ?_⟩
  · have hr := lt r h
    have hk := hp.1 r hr
    have c := hW.1.2.1 (σ r) (by omega)
    have d := (hW.2.2.1 (σ r) hk).1
    rw [UU_lt hr]
    refine ⟨?_, ?_, ?_⟩
    · show s (9 + 8 * σ r + 1) < 6; omega
    · show s (9 + 8 * σ r + 2) < s (9 + 8 * σ r + 2) + s (9 + 8 * σ r + 3); omega
    · show s (9 + 8 * σ r + 2) + s (9 + 8 * σ r + 3) ≤ 1000; omega
  · have hr := lt r h
    have hq := lt q g
    rw [sel_lt hW hp hm hr] at h
    rw [sel_lt hW hp hm hq] at g
    rw [UU_lt hr, UU_lt hq] at hf ⊢
    have h := of_decide_eq_true h
    have g := of_decide_eq_true g
    exact hW.2.2.2 _ _ (hp.1 r hr) (hp.1 q hq) (fun e => hne (hp.2 r q hr hq e)) h.2 g.2 hf
theorem link_eq {s σ : Nat → Nat} (hW : W0 s) (hp : Prm σ (s 1)) {m r : Nat} (hm : m < 12) (hr : r < s 1) : liB (UU s σ) (selD (UU s σ) m none) r = oA (lkB s m (σ r)) 0 (s 1) := by
  unfold liB
  refine oA_num hW.n48 hp (fun q hq => ?_) (fun q a b => by rw [sel_ge a]; rfl)
  rw [sel_lt hW hp hm hq, UU_lt hq, UU_lt hr]
  rfl
theorem bg_eq {s σ : Nat → Nat} (hW : W0 s) (hp : Prm σ (s 1)) {m r : Nat} (hm : m < 12) (hr : r < s 1) : bgR (UU s σ) (s 7) (selD (UU s σ) m none) r = bgN s m (σ r) := by
  unfold bgR bgN
  rw [link_eq hW hp hm hr, UU_lt hr]
theorem dc_eq {s σ : Nat → Nat} (hW : W0 s) (hp : Prm σ (s 1)) {m : Nat} (hm : m < 12) : dRN (UU s σ) (s 7) (selD (UU s σ) m none) = dcN s m := by
  funext h
  unfold dRN dcN
  refine cA_num hW.n48 hp (fun r hr => ?_) (fun r a b => by unfold dcR; rw [sel_ge a]; rfl)
  unfold dcR dcB
  rw [sel_lt hW hp hm hr, bg_eq hW hp hm hr, UU_lt hr]
/-- the class's hours of duty and the reference's -/
theorem dut {s σ : Nat → Nat} (hW : W0 s) (hp : Prm σ (s 1)) {m : Nat} (hm : m < 12) : BadS (dAll (UU s σ) (s 7) (selD (UU s σ) m none)) (dcN s m) ∨ (GoodS (dAll (UU s σ) (s 7) (selD (UU s σ) m none)) (dcN s m) ∧ ∀ h, (dAll (UU s σ) (s 7) (selD (UU s σ) m none)).1 h = 7 ↔ s 7 = 1 ∧ 1 ≤ haN (UU s σ) (selD (UU s σ) m none) 48 h) := by
  have h := duty_math (sel_ok hW hp hm) (hv := s 7) hW.1.1.2.2.2.1.2.2.2.1
  rw [dc_eq hW hp hm] at h
  exact h
