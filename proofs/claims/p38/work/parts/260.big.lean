/-! the class's objects and the reference's hold the same -/
abbrev sS : Type := (Nat → Nat) × (Nat → Nat)
def toA (p : sS) : aT := (p.1, UU p.1 p.2, lsS p.1)
def rec4 (H : List sS) (p : sS) : List sS := if H.length = 4 then H.tail ++ [p] else H ++ [p]
def TxC (V : pV) (T : List Int32) : Prop := V 1272 1 = nI T.length ∧ ∀ (i : Nat) (a : Int32), T[i]? = some a → V 1273 i = a
def KeC (X : pX) (K : Option sS) : Prop := match K with
  | none => X.1 0 5 = nI 0
  | some p => X.1 0 5 = nI 1 ∧ Rc X 184 p.1 p.2
def Pp (p : sS) (H : List sS) (K : Option sS) (T : List Int32) : Prop := PS p.1 p.2 ∧ (∀ q, q ∈ H → PS q.1 q.2) ∧ (∀ q, K = some q → PS q.1 q.2) ∧ T.length ≤ 60
def Bc (X : pX) (p : sS) (H : List sS) (K : Option sS) (T : List Int32) : Prop := Rc X 3 p.1 p.2 ∧ DuE X.1 ∧ Ord (X.2.1 184) ∧ Ord (X.2.1 365) ∧ HiC X (H.map toA) ∧ KeC X K ∧ TxC X.1 T
theorem HiC.mv {X X' : pX} {L : List aT} (h : HiC X L) (ht : X'.2.2 = X.2.2) (hW : ∀ b, 548 ≤ b → X'.2.1 b = X.2.1 b) (hk : ∀ o, 546 ≤ o → o < 1272 → X'.1 o = X.1 o) : HiC X' L := by
  obtain ⟨a, b, c, d, e⟩ := h
  unfold HiC
  rw [ht, hk 546 (by omega) (by omega)]
  refine ⟨a, b, c, fun i hi => by rw [hW _ (a.1 i hi).2]; exact d i hi, fun i x hx => ?_⟩
  have hi : i < 4 := by have := getE_lt hx; omega
  have hB := a.1 i hi
  have hbl := isB_lt hB.1
  exact (e i x hx).mv (hW _ hB.2) (fun o o1 o2 => hk o (by omega) (by omega))
theorem KeC.mv {X X' : pX} {K : Option sS} (h : KeC X K) (h0 : X'.1 0 = X.1 0) (hW : X'.2.1 184 = X.2.1 184) (hk : ∀ o, 184 ≤ o → o < 365 → X'.1 o = X.1 o) : KeC X' K := by
  cases K with
  | none => exact (congrFun h0 5).trans h
  | some p => exact ⟨(congrFun h0 5).trans h.1, h.2.mv hW (fun o a b => hk o a (by omega))⟩
theorem TxC.mv {V V' : pV} {T : List Int32} (h : TxC V T) (h1 : V' 1272 1 = V 1272 1) (h2 : V' 1273 = V 1273) : TxC V' T := ⟨h1.trans h.1, fun i a hi => by rw [h2]; exact h.2 i a hi⟩
/-- only the duties' rows changed -/
theorem Bc.kd {X : pX} {V' : pV} {p : sS} {H : List sS} {K : Option sS} {T : List Int32} (h : Bc X p H K T) (hk : KpD X.1 V') (hd : DuE V') : Bc (V', X.2) p H K T := by
  obtain ⟨a, b, c, d, e, f, g⟩ := h
  refine ⟨a.mv rfl (fun o o1 o2 => hk o (by omega) (by omega)), hd, c, d, e.mv rfl (fun _ _ => rfl) (fun o o1 o2 => hk o (by omega) (by omega)), f.mv (hk 0 (by omega) (by omega)) rfl (fun o o1 o2 => hk o (by omega) (by omega)), g.mv (congrFun (hk 1272 (by omega) (by omega)) 1) (hk 1273 (by omega) (by omega))⟩
/-- the reference's calls leave the class's objects -/
theorem Bc.lo {X : pX} {V' : pV} {p : sS} {H : List sS} {K : Option sS} {T : List Int32} (h : Bc X p H K T) (hk : ∀ o, o < 1278 → V' o = X.1 o) : Bc (V', X.2) p H K T := by
  obtain ⟨a, b, c, d, e, f, g⟩ := h
  refine ⟨a.mv rfl (fun o o1 o2 => hk o (by omega)), b.kept (hk 1 (by omega)) (hk 2 (by omega)), c, d, e.mv rfl (fun _ _ => rfl) (fun o o1 o2 => hk o (by omega)), f.mv (hk 0 (by omega)) rfl (fun o o1 o2 => hk o (by omega)), g.mv (congrFun (hk 1272 (by omega)) 1) (hk 1273 (by omega))⟩
theorem rec4_map {H : List sS} {p : sS} : (rec4 H p).map toA = recL (H.map toA) (toA p) := by
  unfold rec4 recL
  rw [List.length_map]
  split <;> simp
theorem rec4_mapM {H : List sS} {p : sS} : (rec4 H p).map Prod.fst = recM (H.map Prod.fst) p.1 := by
  unfold rec4 recM
  rw [List.length_map]
  split <;> simp
theorem Pp.rec {p : sS} {H : List sS} {K : Option sS} {T : List Int32} (h : Pp p H K T) : Pp p (rec4 H p) K T := by
  obtain ⟨a, b, c, d⟩ := h
  refine ⟨a, fun q hq => ?_, c, d⟩
  unfold rec4 at hq
  split at hq
  · rcases List.mem_append.mp hq with g | g
    · exact b q (List.mem_of_mem_tail g)
    · have : q = p := by simpa using g
      rw [this]; exact a
  · rcases List.mem_append.mp hq with g | g
    · exact b q g
    · have : q = p := by simpa using g
      rw [this]; exact a
theorem Pp.st {p p' : sS} {H : List sS} {K : Option sS} {T : List Int32} (h : Pp p H K T) (g : PS p'.1 p'.2) : Pp p' H K T := ⟨g, h.2⟩
/-- the class records -/
theorem c_rec {z : Nat} {X : pX} {p : sS} {H : List sS} {K : Option sS} {T : List Int32} (h : Bc X p H K T) : ∃ V' t', f_X1_record (z + 546) (z + 3) (hp z X) = some (hp z (V', X.2.1, t')) ∧ (∀ o, o < 546 ∨ 1272 ≤ o → V' o = X.1 o) ∧ Bc (V', X.2.1, t') p (rec4 H p) K T := by
  obtain ⟨a, b, c, d, e, f, g⟩ := h
  obtain ⟨V', t', q1, q2, q3⟩ := e_record (z := z) (a := toA p) a e
  refine ⟨V', t', q1, q2, a.mv rfl (fun o o1 o2 => q2 o (by omega)), b.kept (q2 1 (by omega)) (q2 2 (by omega)), c, d, by rw [rec4_map]; exact q3, f.mv (q2 0 (by omega)) rfl (fun o o1 o2 => q2 o (by omega)), g.mv (congrFun (q2 1272 (by omega)) 1) (q2 1273 (by omega))⟩
/-- the class's State changes -/
theorem Bc.up {X : pX} {V' : pV} {p p' : sS} {H : List sS} {K : Option sS} {T : List Int32} {a : Nat → Nat} {u : Nat → Nat → Nat} {ls : Nat → List Nat} (h : Bc X p H K T) (hk : KpB 3 X.1 V') (hd : DuE V') (hS : StC (V', X.2) 3 a u ls) (hP : PS p'.1 p'.2) (hs : EqH a p'.1) (hu : EqU u (UU p'.1 p'.2)) (hl : ∀ q, q < 4 → ls q = lsS p'.1 q) : Bc (V', X.2) p' H K T := by
  obtain ⟨-, b, c, d, e, f, g⟩ := h
  refine ⟨Rc_of hS hP hs hu hl, hd, c, d, e.mv rfl (fun _ _ => rfl) (fun o o1 o2 => hk o (by omega) (by omega) (by omega)), f.mv (hk 0 (by omega) (by omega) (by omega)) rfl (fun o o1 o2 => hk o (by omega) (by omega) (by omega)), g.mv (congrFun (hk 1272 (by omega) (by omega) (by omega)) 1) (hk 1273 (by omega) (by omega) (by omega))⟩
theorem Bc.upW {X : pX} {V' : pV} {w : Nat → Nat} {p p' : sS} {H : List sS} {K : Option sS} {T : List Int32} {a : Nat → Nat} {u : Nat → Nat → Nat} {ls : Nat → List Nat} (h : Bc X p H K T) (hk : KpB 3 X.1 V') (hd : DuE V') (hS : StC (V', sW X.2.1 3 w, X.2.2) 3 a u ls) (hP : PS p'.1 p'.2) (hs : EqH a p'.1) (hu : EqU u (UU p'.1 p'.2)) (hl : ∀ q, q < 4 → ls q = lsS p'.1 q) : Bc (V', sW X.2.1 3 w, X.2.2) p' H K T := by
  obtain ⟨-, b, c, d, e, f, g⟩ := h
  have w1 : ∀ b, 184 ≤ b → sW X.2.1 3 w b = X.2.1 b := fun b hb => sW_n (by omega)
  refine ⟨Rc_of hS hP hs hu hl, hd, by dsimp only; rw [w1 _ (by omega)]; exact c, by dsimp only; rw [w1 _ (by omega)]; exact d, e.mv rfl (fun b hb => w1 b (by omega)) (fun o o1 o2 => hk o (by omega) (by omega) (by omega)), f.mv (hk 0 (by omega) (by omega) (by omega)) (w1 184 (by omega)) (fun o o1 o2 => hk o (by omega) (by omega) (by omega)), g.mv (congrFun (hk 1272 (by omega) (by omega) (by omega)) 1) (hk 1273 (by omega) (by omega) (by omega))⟩
theorem KpB.hi {V V' : pV} (h : KpB 3 V V') : ∀ o, 1278 ≤ o → V' o = V o := fun o ho => h o (by omega) (by omega) (by omega)
theorem KpD.hi {V V' : pV} (h : KpD V V') : ∀ o, 1278 ≤ o → V' o = V o := fun o ho => h o (by omega) (by omega)
theorem KpA.lo {V V' : pV} (h : KpA V V') : ∀ o, o < 1278 → V' o = V o := fun o ho => h o (by omega) (by omega) (by omega) (by omega)
theorem KpA.up {V V' : pV} (h : KpA V V') : ∀ o, (o < 1279 ∨ (o = 1280 ∨ (1282 ≤ o ∧ o < 1284))) → V' o = V o := fun o ho => h o (by omega) (by omega) (by omega) (by omega)
/-- a number that may be one of a member, a role or a sailing -/
theorem mem_of {s : Nat → Nat} (h : s 2 ≤ 12) {x : Int32} : (nI 0 ≤ x ∧ x < nI (s 2)) ∨ ¬ (nI 0 ≤ x ∧ x < nI (s 2)) := Classical.em _
