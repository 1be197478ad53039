/-! p38: what tell tells -/
theorem shp_row {z o : Nat} {f : Nat → Int32} {w : Nat → Nat → Nat} {t : Nat → Nat} (h : 1278 ≤ o) : shp z f w t o = .inl (0, 64, f) := by
  unfold shp
  rw [if_neg (by omega), if_neg (by omega), if_neg (by omega), if_neg (by omega), if_neg (by omega), if_neg (by omega), if_neg (by omega), if_neg (by omega), if_neg (by omega), if_neg (by omega)]
theorem m_ldW {z : Nat} {X : pX} {t i : Nat} (ht : t < rws X.1) (hi : i < 64) : zld (hp z X) (z + (1278 + t)) 0 (nI i) = some (X.1 (1278 + t) i) := by
  unfold zld zar
  rw [hp_atR (by omega), shp_row (by omega)]
  simp only [if_true]
  rw [if_neg (nI_in hi (by omega)), nI_clamp (by omega)]
theorem m_stW {z : Nat} {X : pX} {t i : Nat} {v : Int32} (ht : t < rws X.1) (h7 : t < 700) (hi : i < 64) : zst (hp z X) (z + (1278 + t)) 0 (nI i) v = some (hp z (sV X.1 (1278 + t) (upd (X.1 (1278 + t)) i v), X.2)) := by
  unfold zst zar
  rw [hp_atR (by omega), shp_row (by omega)]
  simp only [if_true]
  rw [if_neg (nI_in hi (by omega)), nI_clamp (by omega), hp_setR (by omega) (by omega) (shp_row (by omega))]
/-- a new row -/
def nwV (V : pV) : pV := sV (sV V (1278 + rws V) (fun _ => 0)) 2000 (fun _ => nI (rws V + 1))
theorem nw_rws {V : pV} (h : rws V < 700) : rws (nwV V) = rws V + 1 := by
  show (sV (sV V (1278 + rws V) (fun _ => 0)) 2000 (fun _ => nI (rws V + 1)) 2000 0).toNatClampNeg = _
  rw [sV_s, nI_clamp (by omega)]
theorem nw_o {V : pV} {o : Nat} (h1 : o ≠ 2000) (h2 : o ≠ 1278 + rws V) : nwV V o = V o := (sV_n h1).trans (sV_n h2)
theorem nw_add {z : Nat} {X : pX} (h : rws X.1 < 700) : zadd (hp z X) (.inl (0, 64, fun _ => 0)) = hp z (nwV X.1, X.2) := by
  unfold zadd hp
  dsimp only
  rw [nw_rws h]
  refine Prod.ext (by dsimp only; omega) ?_
  funext a
  dsimp only
  by_cases c : a = z + (1278 + rws X.1)
  · have e : a - z = 1278 + rws X.1 := by omega
    rw [if_pos c, if_pos ⟨by omega, by omega⟩, e, shp_row (by omega)]
    have e2 : nwV X.1 (1278 + rws X.1) = fun _ => 0 := (sV_n (by omega)).trans sV_s
    rw [e2]
  · rw [if_neg c]
    by_cases d : z ≤ a ∧ a < z + (1278 + rws X.1)
    · rw [if_pos d, if_pos ⟨by omega, by omega⟩, nw_o (by omega) (by omega)]
    · rw [if_neg d, if_neg (by omega)]
/-- only the duties' rows and one row of numbers changed -/
def KpR (o : Nat) (V V' : pV) : Prop := ∀ q, q ≠ 1 → q ≠ 2 → q ≠ o → V' q = V q
theorem KpR.tr {o : Nat} {V V1 V2 : pV} (h : KpR o V V1) (g : KpR o V1 V2) : KpR o V V2 := fun q a b c => (g q a b c).trans (h q a b c)
theorem KpD.R {o : Nat} {V V' : pV} (h : KpD V V') : KpR o V V' := fun q a b _ => h q a b
theorem KpR.st {t : Nat} {V : pV} {f : Nat → Int32} : KpR (1278 + t) V (sV V (1278 + t) f) := fun q _ _ c => sV_n c
theorem KpR.rws {o : Nat} {V V' : pV} (h : KpR o V V') (ho : o ≠ 2000) : rws V' = rws V := rws_cg (h 2000 (by omega) (by omega) (by omega))
theorem Bc.kr {o : Nat} {X : pX} {V' : pV} {p : sS} {H : List sS} {K : Option sS} {T : List Int32} (h : Bc X p H K T) (ho : 1278 ≤ o) (hk : KpR o X.1 V') (hd : DuE V') : Bc (V', X.2) p H K T := by
  obtain ⟨a, b, c, d, e, f, g⟩ := h
  refine ⟨a.mv rfl (fun o o1 o2 => hk o (by omega) (by omega) (by omega)), hd, c, d, e.mv rfl (fun _ _ => rfl) (fun o o1 o2 => hk o (by omega) (by omega) (by omega)), f.mv (hk 0 (by omega) (by omega) (by omega)) rfl (fun o o1 o2 => hk o (by omega) (by omega) (by omega)), g.mv (congrFun (hk 1272 (by omega) (by omega) (by omega)) 1) (hk 1273 (by omega) (by omega) (by omega))⟩
theorem DuE.st {t : Nat} {V : pV} {f : Nat → Int32} (h : DuE V) : DuE (sV V (1278 + t) f) := h.kept (sV_n (by omega)) (sV_n (by omega))
-- the numbers
def slA (s : Nat → Nat) (k w : Nat) : Int32 := if k < s 1 then nI (slV s k w) else -nI 1
def crA (s : Nat → Nat) (k R : Nat) : Int32 := if k < s 1 then (match crN s k R with | none => -nI 5 | some i => nI (i % 12)) else -nI 1
def meA (s : Nat → Nat) (m w : Nat) : Int32 := if m < s 2 then (match w with | 0 => skV s m | 1 => nI (cA (fun k => decide (recS s k 5 = 0 ∧ recS s k (20 + m) ≠ 0)) 0 (s 1)) | _ => nI (s (969 + 6 * m + 5))) else -nI 1
def tv (s : Nat → Nat) (j : Nat) : Int32 :=
  if j < 10 then nI (cntV s j)
  else if j < 15 then nI (s (4 + (j - 10)))
  else if j < 30 then (nI 10000 * slA s (j - 15) 0 + nI 1000 * slA s (j - 15) 6) + slA s (j - 15) 3
  else if j < 45 then nI 1000 * crA s (j - 30) 0 + crA s (j - 30) 1
  else if (j - 45) % 3 = 0 then meA s ((j - 45) / 3) 0
  else if (j - 45) % 3 = 1 then nI 100 * meA s ((j - 45) / 3) 1 + meA s ((j - 45) / 3) 2
  else oI (lsS s ((j - 45) / 3 % 4))[(j - 45) / 3 / 4]?
theorem tv_0 {s : Nat → Nat} {k : Nat} (h : k < 10) : tv s k = nI (cntV s k) := if_pos h
theorem tv_1 {s : Nat → Nat} {k : Nat} (h : k < 5) : tv s (10 + k) = nI (s (4 + k)) := by
  unfold tv
  rw [if_neg (by omega), if_pos (by omega), show 10 + k - 10 = k by omega]
theorem tv_2 {s : Nat → Nat} {k : Nat} (h : k < 15) : tv s (15 + k) = (nI 10000 * slA s k 0 + nI 1000 * slA s k 6) + slA s k 3 := by
  unfold tv
  rw [if_neg (by omega), if_neg (by omega), if_pos (by omega), show 15 + k - 15 = k by omega]
theorem tv_3 {s : Nat → Nat} {k : Nat} (h : k < 15) : tv s (30 + k) = nI 1000 * crA s k 0 + crA s k 1 := by
  unfold tv
  rw [if_neg (by omega), if_neg (by omega), if_neg (by omega), if_pos (by omega), show 30 + k - 30 = k by omega]
theorem tv_4 {s : Nat → Nat} {m : Nat} : tv s (45 + 3 * m) = meA s m 0 := by
  unfold tv
  rw [if_neg (by omega), if_neg (by omega), if_neg (by omega), if_neg (by omega), if_pos (by omega), show (45 + 3 * m - 45) / 3 = m by omega]
theorem tv_5 {s : Nat → Nat} {m : Nat} : tv s (46 + 3 * m) = nI 100 * meA s m 1 + meA s m 2 := by
  unfold tv
  rw [if_neg (by omega), if_neg (by omega), if_neg (by omega), if_neg (by omega), if_neg (by omega), if_pos (by omega), show (46 + 3 * m - 45) / 3 = m by omega]
theorem tv_6 {s : Nat → Nat} {m : Nat} : tv s (47 + 3 * m) = oI (lsS s (m % 4))[m / 4]? := by
  unfold tv
  rw [if_neg (by omega), if_neg (by omega), if_neg (by omega), if_neg (by omega), if_neg (by omega), if_neg (by omega), show (47 + 3 * m - 45) / 3 = m by omega]
theorem an_sl {z : Nat} {X : pX} {s σ : Nat → Nat} {H : List sS} {K : Option sS} {T : List Int32} (hP : PS s σ) (hb : Bc X (s, σ) H K T) {k w : Nat} (hk : k < 2 ^ 31) (hw : w = 0 ∨ w = 2 ∨ w = 3 ∨ w = 5 ∨ w = 6) : An (f_X7_sailingOf z (nI k) (nI w)) z X (slA s k w) := by
  unfold slA
  by_cases c : k < s 1
  · rw [if_pos c]; exact qn_sail hP hb c hw
  · rw [if_neg c]; exact qn_sailx hP hb (by omega) hk _
theorem an_cr {z : Nat} {X : pX} {s σ : Nat → Nat} {H : List sS} {K : Option sS} {T : List Int32} (hP : PS s σ) (hb : Bc X (s, σ) H K T) {k R : Nat} (hk : k < 2 ^ 31) (hR : R < 2 ^ 31) : An (f_X7_crew z (nI k) (nI R) (nI 0)) z X (crA s k R) := by
  unfold crA
  by_cases c : k < s 1
  · rw [if_pos c]
    cases e : crN s k R with
    | none => exact qn_crew0 hP hb c hR (by omega) e
    | some i => exact (qn_crew hP hb c hR e).2.1
  · rw [if_neg c]; exact qn_crewx hP hb (by omega) hk _ _
theorem an_me {z : Nat} {X : pX} {s σ : Nat → Nat} {H : List sS} {K : Option sS} {T : List Int32} (hP : PS s σ) (hb : Bc X (s, σ) H K T) {m : Nat} (hm : m < 2 ^ 31) : An (f_X7_memberOf z (nI m) (nI 4)) z X (meA s m 0) ∧ An (f_X7_memberOf z (nI m) (nI 5)) z X (meA s m 1) ∧ An (f_X7_memberOf z (nI m) (nI 8)) z X (meA s m 2) := by
  unfold meA
  by_cases c : m < s 2
  · rw [if_pos c, if_pos c, if_pos c]; exact ⟨qn_sick hP hb c, qn_open hP hb c, qn_cov hP hb c⟩
  · rw [if_neg c, if_neg c, if_neg c]; exact ⟨qn_memx hP hb (by omega) hm _, qn_memx hP hb (by omega) hm _, qn_memx hP hb (by omega) hm _⟩
/-- the rows end -/
def TlE (z t : Nat) (s : Nat → Nat) (o : Option (Option Nat × zHp)) (X : pX) : Prop := ∃ V', o = some (some (z + (1278 + t)), hp z (V', X.2)) ∧ KpR (1278 + t) X.1 V' ∧ DuE V' ∧ ∀ i, i < 63 → V' (1278 + t) i = tv s i
theorem TlE.up {z t : Nat} {s : Nat → Nat} {o o' : Option (Option Nat × zHp)} {X : pX} {V1 : pV} (h : TlE z t s o (V1, X.2)) (e : o' = o) (hk : KpR (1278 + t) X.1 V1) : TlE z t s o' X := by
  obtain ⟨V', a, b, c, d⟩ := h
  exact ⟨V', e.trans a, hk.tr b, c, d⟩
/-- one question and one number -/
theorem tl_1 {z t : Nat} (h7 : t < 700) {X : pX} {p : sS} {H : List sS} {K : Option sS} {T : List Int32} (hb : Bc X p H K T) (ht : t < rws X.1) {F : zHp → Option (Int32 × zHp)} {r : Int32} (hF : An F z X r) : ∃ V1, F (hp z X) = some (r, hp z (V1, X.2)) ∧ Bc (V1, X.2) p H K T ∧ KpR (1278 + t) X.1 V1 ∧ t < rws V1 ∧ V1 (1278 + t) = X.1 (1278 + t) := by
  obtain ⟨V1, a, b, c⟩ := hF
  exact ⟨V1, a, hb.kd b c, b.R, by rw [rws_cg (b 2000 (by omega) (by omega))]; exact ht, b _ (by omega) (by omega)⟩
theorem tl_w {z t i : Nat} {v : Int32} (h7 : t < 700) {X : pX} {p : sS} {H : List sS} {K : Option sS} {T : List Int32} (hb : Bc X p H K T) (ht : t < rws X.1) (hi : i < 64) : ∃ V1, zst (hp z X) (z + (1278 + t)) 0 (nI i) v = some (hp z (V1, X.2)) ∧ Bc (V1, X.2) p H K T ∧ KpR (1278 + t) X.1 V1 ∧ t < rws V1 ∧ V1 (1278 + t) = upd (X.1 (1278 + t)) i v :=
  ⟨_, m_stW ht h7 hi, hb.kr (o := 1278 + t) (by omega) KpR.st hb.2.1.st, KpR.st, by rw [KpR.st.rws (by omega)]; exact ht, sV_s⟩
theorem no_le {a b : Nat} (h : b < a) (ha : a < 2 ^ 31) : ¬ nI a ≤ nI b := fun e => by have := (nI_leI ha (by omega)).mp e; omega
theorem tl_130 {z t : Nat} (h7 : t < 700) {s σ : Nat → Nat} {H : List sS} {K : Option sS} {T : List Int32} (hP : PS s σ) : ∀ (n fuel m : Nat) (X : pX), m + n = 6 → n < fuel → Bc X (s, σ) H K T → t < rws X.1 → (∀ i, i < 45 + 3 * m → X.1 (1278 + t) i = tv s i) → TlE z t s (f_L_tell_130 fuel z (z + (1278 + t)) (nI m) (hp z X)) X := by
  intro n
  induction n with
  | zero =>
    intro fuel m X h1 h2 hb ht hv
    obtain ⟨fuel, rfl⟩ : ∃ f, fuel = f + 1 := ⟨fuel - 1, by omega⟩
    have hm : m = 6 := by omega
    refine ⟨X.1, ?_, fun _ _ _ _ => rfl, hb.2.1, fun i hi => hv i (by omega)⟩
    have hle : nI 6 ≤ nI m := nI_le (by omega) (by omega)
    simp only [f_L_tell_130, f_L_tell_130_body, lit_0, lit_1, lit_2, lit_3, lit_4, lit_5, lit_6, lit_7, lit_8, lit_9, lit_10, lit_11, lit_12, lit_13, lit_14, lit_15, lit_16, lit_17, lit_18, lit_20, lit_24, lit_26, lit_30, lit_40, lit_45, lit_46, lit_47, lit_48, lit_60, lit_63, lit_64, lit_77, lit_100, lit_140, lit_168, lit_200, lit_300, lit_400, lit_900, lit_1000, lit_1168, lit_1997, lit_3333, lit_9999, lit_10000, if_pos hle]
  | succ n ih =>
    intro fuel m X h1 h2 hb ht hv
    obtain ⟨fuel, rfl⟩ : ∃ f, fuel = f + 1 := ⟨fuel - 1, by omega⟩
    have hle : ¬ nI 6 ≤ nI m := no_le (by omega) (by omega)
    have a45 : nI 45 + nI 3 * nI m = nI (45 + 3 * m) := by rw [nI_mul, nI_add]
    have a46 : nI 46 + nI 3 * nI m = nI (46 + 3 * m) := by rw [nI_mul, nI_add]
    have a47 : nI 47 + nI 3 * nI m = nI (47 + 3 * m) := by rw [nI_mul, nI_add]
    have zr := zrem_n (a := m) (b := 4) (by omega) (by omega) (by omega)
    have zd := zdiv_n (a := m) (b := 4) (by omega) (by omega) (by omega)
    obtain ⟨V1, q1, b1, k1, t1, w1⟩ := tl_1 h7 hb ht (an_me (z := z) hP hb (m := m) (by omega)).1
    obtain ⟨V2, q2, b2, k2, t2, w2⟩ := tl_w (z := z) (X := (V1, X.2)) (i := 45 + 3 * m) (v := meA s m 0) h7 b1 t1 (by omega)
    obtain ⟨V3, q3, b3, k3, t3, w3⟩ := tl_1 (X := (V2, X.2)) h7 b2 t2 (an_me (z := z) hP b2 (m := m) (by omega)).2.1
    obtain ⟨V4, q4, b4, k4, t4, w4⟩ := tl_1 (X := (V3, X.2)) h7 b3 t3 (an_me (z := z) hP b3 (m := m) (by omega)).2.2
    obtain ⟨V5, q5, b5, k5, t5, w5⟩ := tl_w (z := z) (X := (V4, X.2)) (i := 46 + 3 * m) (v := nI 100 * meA s m 1 + meA s m 2) h7 b4 t4 (by omega)
    obtain ⟨V6, q6, b6, k6, t6, w6⟩ := tl_1 (X := (V5, X.2)) h7 b5 t5 (qn_lad (z := z) hP b5 (q := m % 4) (k := m / 4) (by omega) (by omega))
    obtain ⟨V7, q7, b7, k7, t7, w7⟩ := tl_w (z := z) (X := (V6, X.2)) (i := 47 + 3 * m) (v := oI (lsS s (m % 4))[m / 4]?) h7 b6 t6 (by omega)
    dsimp only at q2 q3 q4 q5 q6 q7 k2 k3 k4 k5 k6 k7 t2 t3 t4 t5 t6 t7 w2 w3 w4 w5 w6 w7
    refine (ih fuel (m + 1) (V7, X.2) (by omega) (by omega) b7 t7 (fun i hi => ?_)).up ?_ (((((((k1.tr k2).tr k3).tr k4).tr k5).tr k6).tr k7))
    · dsimp only
      rw [w7, w6, w5, w4, w3, w2, w1]
      by_cases c7 : i = 47 + 3 * m
      · rw [c7, pk_us, tv_6]
      rw [pk_un c7]
      by_cases c6 : i = 46 + 3 * m
      · rw [c6, pk_us, tv_5]
      rw [pk_un c6]
      by_cases c5 : i = 45 + 3 * m
      · rw [c5, pk_us, tv_4]
      rw [pk_un c5]
      exact hv i (by omega)
    · simp only [f_L_tell_130, f_L_tell_130_body, lit_0, lit_1, lit_2, lit_3, lit_4, lit_5, lit_6, lit_7, lit_8, lit_9, lit_10, lit_11, lit_12, lit_13, lit_14, lit_15, lit_16, lit_17, lit_18, lit_20, lit_24, lit_26, lit_30, lit_40, lit_45, lit_46, lit_47, lit_48, lit_60, lit_63, lit_64, lit_77, lit_100, lit_140, lit_168, lit_200, lit_300, lit_400, lit_900, lit_1000, lit_1168, lit_1997, lit_3333, lit_9999, lit_10000, if_neg hle, m_ix, zif_t, q1, zb2_s, a45, a46, a47, q2, b_s, q3, q4, q5, zr, zd, q6, q7, nI_add]
theorem tl_56 {z t : Nat} (h7 : t < 700) {s σ : Nat → Nat} {H : List sS} {K : Option sS} {T : List Int32} (hP : PS s σ) : ∀ (n fuel k : Nat) (X : pX), k + n = 15 → n < fuel → Bc X (s, σ) H K T → t < rws X.1 → (∀ i, (i < 15 + k ∨ (30 ≤ i ∧ i < 30 + k)) → X.1 (1278 + t) i = tv s i) → TlE z t s (f_L_tell_56 fuel z (z + (1278 + t)) (nI k) (hp z X)) X := by
  intro n
  induction n with
  | zero =>
    intro fuel k X h1 h2 hb ht hv
    obtain ⟨fuel, rfl⟩ : ∃ f, fuel = f + 1 := ⟨fuel - 1, by omega⟩
    refine (tl_130 h7 hP 6 zN 0 X (by omega) (zN_lt (by omega)) hb ht (fun i hi => hv i (by omega))).up (V1 := X.1) ?_ (fun _ _ _ _ => rfl)
    have hle : nI 15 ≤ nI k := nI_le (by omega) (by omega)
    simp only [f_L_tell_56, f_L_tell_56_body, lit_0, lit_1, lit_2, lit_3, lit_4, lit_5, lit_6, lit_7, lit_8, lit_9, lit_10, lit_11, lit_12, lit_13, lit_14, lit_15, lit_16, lit_17, lit_18, lit_20, lit_24, lit_26, lit_30, lit_40, lit_45, lit_46, lit_47, lit_48, lit_60, lit_63, lit_64, lit_77, lit_100, lit_140, lit_168, lit_200, lit_300, lit_400, lit_900, lit_1000, lit_1168, lit_1997, lit_3333, lit_9999, lit_10000, if_pos hle]
  | succ n ih =>
    intro fuel k X h1 h2 hb ht hv
    obtain ⟨fuel, rfl⟩ : ∃ f, fuel = f + 1 := ⟨fuel - 1, by omega⟩
    have hle : ¬ nI 15 ≤ nI k := no_le (by omega) (by omega)
    obtain ⟨V1, q1, b1, k1, t1, w1⟩ := tl_1 h7 hb ht (an_sl (z := z) hP hb (k := k) (w := 0) (by omega) (by omega))
    obtain ⟨V2, q2, b2, k2, t2, w2⟩ := tl_1 (X := (V1, X.2)) h7 b1 t1 (an_sl (z := z) hP b1 (k := k) (w := 6) (by omega) (by omega))
    obtain ⟨V3, q3, b3, k3, t3, w3⟩ := tl_1 (X := (V2, X.2)) h7 b2 t2 (an_sl (z := z) hP b2 (k := k) (w := 3) (by omega) (by omega))
    obtain ⟨V4, q4, b4, k4, t4, w4⟩ := tl_w (z := z) (X := (V3, X.2)) (i := 15 + k) (v := (nI 10000 * slA s k 0 + nI 1000 * slA s k 6) + slA s k 3) h7 b3 t3 (by omega)
    obtain ⟨V5, q5, b5, k5, t5, w5⟩ := tl_1 (X := (V4, X.2)) h7 b4 t4 (an_cr (z := z) hP b4 (k := k) (R := 0) (by omega) (by omega))
    obtain ⟨V6, q6, b6, k6, t6, w6⟩ := tl_1 (X := (V5, X.2)) h7 b5 t5 (an_cr (z := z) hP b5 (k := k) (R := 1) (by omega) (by omega))
    obtain ⟨V7, q7, b7, k7, t7, w7⟩ := tl_w (z := z) (X := (V6, X.2)) (i := 30 + k) (v := nI 1000 * crA s k 0 + crA s k 1) h7 b6 t6 (by omega)
    dsimp only at q2 q3 q4 q5 q6 q7 k2 k3 k4 k5 k6 k7 t2 t3 t4 t5 t6 t7 w2 w3 w4 w5 w6 w7
    refine (ih fuel (k + 1) (V7, X.2) (by omega) (by omega) b7 t7 (fun i hi => ?_)).up ?_ (((((((k1.tr k2).tr k3).tr k4).tr k5).tr k6).tr k7))
    · dsimp only
      rw [w7, w6, w5, w4, w3, w2, w1]
      by_cases c7 : i = 30 + k
      · rw [c7, pk_us, tv_3 (by omega)]
      rw [pk_un c7]
      by_cases c6 : i = 15 + k
      · rw [c6, pk_us, tv_2 (by omega)]
      rw [pk_un c6]
      exact hv i (by omega)
    · simp only [f_L_tell_56, f_L_tell_56_body, lit_0, lit_1, lit_2, lit_3, lit_4, lit_5, lit_6, lit_7, lit_8, lit_9, lit_10, lit_11, lit_12, lit_13, lit_14, lit_15, lit_16, lit_17, lit_18, lit_20, lit_24, lit_26, lit_30, lit_40, lit_45, lit_46, lit_47, lit_48, lit_60, lit_63, lit_64, lit_77, lit_100, lit_140, lit_168, lit_200, lit_300, lit_400, lit_900, lit_1000, lit_1168, lit_1997, lit_3333, lit_9999, lit_10000, if_neg hle, m_ix, zif_t, q1, zb2_s, q2, b_s, q3, nI_add, q4, q5, q6, q7]
theorem tl_29 {z t : Nat} (h7 : t < 700) {s σ : Nat → Nat} {H : List sS} {K : Option sS} {T : List Int32} (hP : PS s σ) : ∀ (n fuel k : Nat) (X : pX), k + n = 5 → n < fuel → Bc X (s, σ) H K T → t < rws X.1 → (∀ i, i < 10 + k → X.1 (1278 + t) i = tv s i) → TlE z t s (f_L_tell_29 fuel z (z + (1278 + t)) (nI k) (hp z X)) X := by
  intro n
  induction n with
  | zero =>
    intro fuel k X h1 h2 hb ht hv
    obtain ⟨fuel, rfl⟩ : ∃ f, fuel = f + 1 := ⟨fuel - 1, by omega⟩
    refine (tl_56 h7 hP 15 zN 0 X (by omega) (zN_lt (by omega)) hb ht (fun i hi => hv i (by omega))).up (V1 := X.1) ?_ (fun _ _ _ _ => rfl)
    have hle : nI 5 ≤ nI k := nI_le (by omega) (by omega)
    simp only [f_L_tell_29, f_L_tell_29_body, lit_0, lit_1, lit_2, lit_3, lit_4, lit_5, lit_6, lit_7, lit_8, lit_9, lit_10, lit_11, lit_12, lit_13, lit_14, lit_15, lit_16, lit_17, lit_18, lit_20, lit_24, lit_26, lit_30, lit_40, lit_45, lit_46, lit_47, lit_48, lit_60, lit_63, lit_64, lit_77, lit_100, lit_140, lit_168, lit_200, lit_300, lit_400, lit_900, lit_1000, lit_1168, lit_1997, lit_3333, lit_9999, lit_10000, if_pos hle]
  | succ n ih =>
    intro fuel k X h1 h2 hb ht hv
    obtain ⟨fuel, rfl⟩ : ∃ f, fuel = f + 1 := ⟨fuel - 1, by omega⟩
    have hle : ¬ nI 5 ≤ nI k := no_le (by omega) (by omega)
    obtain ⟨V1, q1, b1, k1, t1, w1⟩ := tl_1 h7 hb ht (qn_set (z := z) hP hb (i := k) (by omega))
    obtain ⟨V2, q2, b2, k2, t2, w2⟩ := tl_w (z := z) (X := (V1, X.2)) (i := 10 + k) (v := nI (s (4 + k))) h7 b1 t1 (by omega)
    dsimp only at q2 k2 t2 w2
    refine (ih fuel (k + 1) (V2, X.2) (by omega) (by omega) b2 t2 (fun i hi => ?_)).up ?_ (k1.tr k2)
    · dsimp only
      rw [w2, w1]
      by_cases c6 : i = 10 + k
      · rw [c6, pk_us, tv_1 (by omega)]
      rw [pk_un c6]
      exact hv i (by omega)
    · simp only [f_L_tell_29, f_L_tell_29_body, lit_0, lit_1, lit_2, lit_3, lit_4, lit_5, lit_6, lit_7, lit_8, lit_9, lit_10, lit_11, lit_12, lit_13, lit_14, lit_15, lit_16, lit_17, lit_18, lit_20, lit_24, lit_26, lit_30, lit_40, lit_45, lit_46, lit_47, lit_48, lit_60, lit_63, lit_64, lit_77, lit_100, lit_140, lit_168, lit_200, lit_300, lit_400, lit_900, lit_1000, lit_1168, lit_1997, lit_3333, lit_9999, lit_10000, if_neg hle, m_ix, zif_t, nI_add, q1, zb2_s, q2, b_s]
theorem tl_7 {z t : Nat} (h7 : t < 700) {s σ : Nat → Nat} {H : List sS} {K : Option sS} {T : List Int32} (hP : PS s σ) : ∀ (n fuel k : Nat) (X : pX), k + n = 10 → n < fuel → Bc X (s, σ) H K T → t < rws X.1 → (∀ i, i < k → X.1 (1278 + t) i = tv s i) → TlE z t s (f_L_tell_7 fuel z (z + (1278 + t)) (nI k) (hp z X)) X := by
  intro n
  induction n with
  | zero =>
    intro fuel k X h1 h2 hb ht hv
    obtain ⟨fuel, rfl⟩ : ∃ f, fuel = f + 1 := ⟨fuel - 1, by omega⟩
    refine (tl_29 h7 hP 5 zN 0 X (by omega) (zN_lt (by omega)) hb ht (fun i hi => hv i (by omega))).up (V1 := X.1) ?_ (fun _ _ _ _ => rfl)
    have hle : nI 10 ≤ nI k := nI_le (by omega) (by omega)
    simp only [f_L_tell_7, f_L_tell_7_body, lit_0, lit_1, lit_2, lit_3, lit_4, lit_5, lit_6, lit_7, lit_8, lit_9, lit_10, lit_11, lit_12, lit_13, lit_14, lit_15, lit_16, lit_17, lit_18, lit_20, lit_24, lit_26, lit_30, lit_40, lit_45, lit_46, lit_47, lit_48, lit_60, lit_63, lit_64, lit_77, lit_100, lit_140, lit_168, lit_200, lit_300, lit_400, lit_900, lit_1000, lit_1168, lit_1997, lit_3333, lit_9999, lit_10000, if_pos hle]
  | succ n ih =>
    intro fuel k X h1 h2 hb ht hv
    obtain ⟨fuel, rfl⟩ : ∃ f, fuel = f + 1 := ⟨fuel - 1, by omega⟩
    have hle : ¬ nI 10 ≤ nI k := no_le (by omega) (by omega)
    obtain ⟨V1, q1, b1, k1, t1, w1⟩ := tl_1 h7 hb ht (qn_count (z := z) hP hb (k := k) (by omega))
    obtain ⟨V2, q2, b2, k2, t2, w2⟩ := tl_w (z := z) (X := (V1, X.2)) (i := k) (v := nI (cntV s k)) h7 b1 t1 (by omega)
    dsimp only at q2 k2 t2 w2
    refine (ih fuel (k + 1) (V2, X.2) (by omega) (by omega) b2 t2 (fun i hi => ?_)).up ?_ (k1.tr k2)
    · dsimp only
      rw [w2, w1]
      by_cases c6 : i = k
      · rw [c6, pk_us, tv_0 (by omega)]
      rw [pk_un c6]
      exact hv i (by omega)
    · simp only [f_L_tell_7, f_L_tell_7_body, lit_0, lit_1, lit_2, lit_3, lit_4, lit_5, lit_6, lit_7, lit_8, lit_9, lit_10, lit_11, lit_12, lit_13, lit_14, lit_15, lit_16, lit_17, lit_18, lit_20, lit_24, lit_26, lit_30, lit_40, lit_45, lit_46, lit_47, lit_48, lit_60, lit_63, lit_64, lit_77, lit_100, lit_140, lit_168, lit_200, lit_300, lit_400, lit_900, lit_1000, lit_1168, lit_1997, lit_3333, lit_9999, lit_10000, if_neg hle, m_ix, zif_t, nI_add, q1, zb2_s, q2, b_s]
theorem e_tell {z : Nat} {X : pX} {s σ : Nat → Nat} {H : List sS} {K : Option sS} {T : List Int32} (hP : PS s σ) (hb : Bc X (s, σ) H K T) (hn : rws X.1 < 700) : ∃ V', f_L_tell z (hp z X) = some (some (z + (1278 + rws X.1)), hp z (V', X.2)) ∧ rws V' = rws X.1 + 1 ∧ Bc (V', X.2) (s, σ) H K T ∧ (∀ i, i < 63 → V' (1278 + rws X.1) i = tv s i) ∧ ∀ q, 1278 ≤ q → q < 1278 + rws X.1 → V' q = X.1 q := by
  obtain ⟨t, ht⟩ : ∃ t, t = rws X.1 := ⟨_, rfl⟩
  have hr := nw_rws (V := X.1) hn
  have d0 : DuE (nwV X.1) := hb.2.1.kept (nw_o (by omega) (by omega)) (nw_o (by omega) (by omega))
  have hb0 : Bc (nwV X.1, X.2) (s, σ) H K T := by
    have h1 := hb.lo (V' := nwV X.1) (fun o ho => nw_o (by omega) (by omega))
    exact h1
  rw [← ht] at hr hn ⊢
  obtain ⟨V', a, b, c, d⟩ := tl_7 (z := z) (t := t) hn hP 10 zN 0 (nwV X.1, X.2) (by omega) (zN_lt (by omega)) hb0 (by dsimp only; omega) (fun i hi => by omega)
  dsimp only at a b
  refine ⟨V', ?_, by rw [b.rws (by omega), hr], hb0.kr (o := 1278 + t) (by omega) b c, d, fun q h1 h2 => (b q (by omega) (by omega) (by omega)).trans (nw_o (by omega) (by omega))⟩
  have e1 : (hp z X).1 = z + (1278 + t) := by rw [ht]; rfl
  show f_L_tell_7 zN z (hp z X).1 0 (zadd (hp z X) (.inl (0, 64, fun _ => 0))) = _
  rw [nw_add (by omega), e1, lit_0]
  exact a
theorem sm_L {z t1 t2 : Nat} {X : pX} (h1 : t1 < rws X.1) (h2 : t2 < rws X.1) (h : ∀ i, i < 63 → X.1 (1278 + t1) i = X.1 (1278 + t2) i) : ∀ (n fuel k : Nat), k + n = 63 → n < fuel → f_L_same_2 fuel (z + (1278 + t1)) (z + (1278 + t2)) (nI k) (hp z X) = some (nI 1, hp z X) := by
  intro n
  induction n with
  | zero =>
    intro fuel k a b
    obtain ⟨fuel, rfl⟩ : ∃ f, fuel = f + 1 := ⟨fuel - 1, by omega⟩
    have hle : nI 63 ≤ nI k := nI_le (by omega) (by omega)
    simp only [f_L_same_2, f_L_same_2_body, lit_0, lit_1, lit_2, lit_3, lit_4, lit_5, lit_6, lit_7, lit_8, lit_9, lit_10, lit_11, lit_12, lit_13, lit_14, lit_15, lit_16, lit_17, lit_18, lit_20, lit_24, lit_26, lit_30, lit_40, lit_45, lit_46, lit_47, lit_48, lit_60, lit_63, lit_64, lit_77, lit_100, lit_140, lit_168, lit_200, lit_300, lit_400, lit_900, lit_1000, lit_1168, lit_1997, lit_3333, lit_9999, lit_10000, if_pos hle, zbool_1]
  | succ n ih =>
    intro fuel k a b
    obtain ⟨fuel, rfl⟩ : ∃ f, fuel = f + 1 := ⟨fuel - 1, by omega⟩
    have hle : ¬ nI 63 ≤ nI k := no_le (by omega) (by omega)
    have g1 := m_ldW (z := z) (i := k) h1 (by omega)
    have g2 := m_ldW (z := z) (i := k) h2 (by omega)
    have i1 := ih fuel (k + 1) (by omega) (by omega)
    simp only [f_L_same_2, f_L_same_2_body, lit_0, lit_1, lit_2, lit_3, lit_4, lit_5, lit_6, lit_7, lit_8, lit_9, lit_10, lit_11, lit_12, lit_13, lit_14, lit_15, lit_16, lit_17, lit_18, lit_20, lit_24, lit_26, lit_30, lit_40, lit_45, lit_46, lit_47, lit_48, lit_60, lit_63, lit_64, lit_77, lit_100, lit_140, lit_168, lit_200, lit_300, lit_400, lit_900, lit_1000, lit_1168, lit_1997, lit_3333, lit_9999, lit_10000, if_neg hle, g1, g2, b_s, nI_add]
    rw [if_pos (h k (by omega))]
    exact i1
theorem e_same {z t1 t2 : Nat} {X : pX} (h1 : t1 < rws X.1) (h2 : t2 < rws X.1) (h : ∀ i, i < 63 → X.1 (1278 + t1) i = X.1 (1278 + t2) i) : f_L_same (z + (1278 + t1)) (z + (1278 + t2)) (hp z X) = some (nI 1, hp z X) := by
  simp only [f_L_same, lit_0, lit_1, lit_2, lit_3, lit_4, lit_5, lit_6, lit_7, lit_8, lit_9, lit_10, lit_11, lit_12, lit_13, lit_14, lit_15, lit_16, lit_17, lit_18, lit_20, lit_24, lit_26, lit_30, lit_40, lit_45, lit_46, lit_47, lit_48, lit_60, lit_63, lit_64, lit_77, lit_100, lit_140, lit_168, lit_200, lit_300, lit_400, lit_900, lit_1000, lit_1168, lit_1997, lit_3333, lit_9999, lit_10000]
  exact sm_L h1 h2 h 63 zN 0 (by omega) (zN_lt (by omega))
