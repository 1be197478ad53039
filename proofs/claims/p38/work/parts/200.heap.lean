/-! ===== the pure side: the heap behind the two constructors, as ints by cell and place, and two rows of references ===== -/
abbrev pV : Type := Nat → Nat → Int32
def sV (V : pV) (o : Nat) (f : Nat → Int32) : pV := fun q => if q = o then f else V q
theorem sV_s {V : pV} {o : Nat} {f : Nat → Int32} : sV V o f o = f := if_pos rfl
theorem sV_n {V : pV} {o q : Nat} {f : Nat → Int32} (h : q ≠ o) : sV V o f q = V q := if_neg h
theorem sV_sV {V : pV} {o : Nat} {f g : Nat → Int32} : sV (sV V o f) o g = sV V o g := by
  funext q; unfold sV; split <;> rfl
/-- a cell of a block that a State has -/
def shS (z B : Nat) (f : Nat → Int32) (w : Nat → Nat) (o : Nat) : zCl :=
  if o = 0 then .inr (.inr (5, [.ref (z + 1), .ref (z + (B + 1)), .int (f 2), .int (f 3), .int (f 4), .ref (z + (B + 2)), .ref (z + (B + 3)), .ref (z + (B + 4))]))
  else if o = 1 then .inl (0, 5, f)
  else if o = 2 then .inr (.inl (2, 48, fun r => if r < 48 then some (z + (B + (5 + 3 * w r))) else none))
  else if o = 3 then .inr (.inl (3, 12, fun k => if k < 12 then some (z + (B + (149 + 2 * k))) else none))
  else if o = 4 then .inr (.inl (4, 4, fun q => if q < 4 then some (z + (B + (173 + 2 * q))) else none))
  else if o < 149 then
    if (o - 5) % 3 = 0 then .inr (.inr (4, [.int (f 0), .int (f 1), .int (f 2), .int (f 3), .int (f 4), .int (f 5), .int (f 6), .ref (z + (B + (o + 1))), .ref (z + (B + (o + 2)))]))
    else if (o - 5) % 3 = 1 then .inl (0, 4, f) else .inl (0, 12, f)
  else if o < 173 then
    if (o - 149) % 2 = 0 then .inr (.inr (3, [.ref (z + (B + (o + 1))), .int (f 1), .int (f 2)])) else .inl (0, 4, f)
  else if (o - 173) % 2 = 0 then .inr (.inr (2, [.ref (z + (B + (o + 1))), .int (f 1)])) else .inl (0, 12, f)
/-- any cell, by its place from z on -/
def shp (z : Nat) (f : Nat → Int32) (w : Nat → Nat → Nat) (t : Nat → Nat) (o : Nat) : zCl :=
  if o = 0 then .inr (.inr (7, [.ref (z + 3), .ref (z + 184), .ref (z + 365), .ref (z + 546), .ref (z + 1272), .int (f 5)]))
  else if o = 1 then .inr (.inr (0, [.ref (z + 2), .int (f 1), .int (f 2), .int (f 3)]))
  else if o = 2 then .inl (0, 1168, f)
  else if o < 546 then shS z (3 + 181 * ((o - 3) / 181)) f (w (3 + 181 * ((o - 3) / 181))) ((o - 3) % 181)
  else if o = 546 then .inr (.inr (1, [.ref (z + 547), .int (f 1)]))
  else if o = 547 then .inr (.inl (5, 4, fun i => if i < 4 then some (z + t i) else none))
  else if o < 1272 then shS z (548 + 181 * ((o - 548) / 181)) f (w (548 + 181 * ((o - 548) / 181))) ((o - 548) % 181)
  else if o = 1272 then .inr (.inr (6, [.ref (z + 1273), .int (f 1), .int (f 2), .int (f 3), .ref (z + 1274), .ref (z + 1275), .ref (z + 1276), .ref (z + 1277)]))
  else if o = 1273 then .inl (1, 60, f)
  else if o < 1278 then .inl (0, 6, f)
  else .inl (0, 64, f)
/-- ints, the order of each State's sailings, the order of the history's States -/
abbrev pX : Type := pV × ((Nat → Nat → Nat) × (Nat → Nat))
/-- how many rows of 64 stand behind the class's cells (they are the places 1278 and on of X.1; the place 2000 tells how many) -/
def rws (V : pV) : Nat := (V 2000 0).toNatClampNeg
def hp (z : Nat) (X : pX) : zHp := (z + (1278 + rws X.1), fun a => if z ≤ a ∧ a < z + (1278 + rws X.1) then some (shp z (X.1 (a - z)) X.2.1 X.2.2 (a - z)) else none)
theorem hp_atR {z : Nat} {X : pX} {o : Nat} (h : o < 1278 + rws X.1) : (hp z X).2 (z + o) = some (shp z (X.1 o) X.2.1 X.2.2 o) := by
  unfold hp
  simp only
  rw [if_pos ⟨by omega, by omega⟩, Nat.add_sub_cancel_left]
theorem hp_at {z : Nat} {X : pX} {o : Nat} (h : o < 1278) : (hp z X).2 (z + o) = some (shp z (X.1 o) X.2.1 X.2.2 o) := hp_atR (by omega)
theorem rws_sV {V : pV} {o : Nat} {f : Nat → Int32} (h : o ≠ 2000) : rws (sV V o f) = rws V := by
  unfold rws
  rw [sV_n (by omega)]
theorem rws_cg {V V' : pV} (h : V' 2000 = V 2000) : rws V' = rws V := by
  unfold rws
  rw [h]
/-- the blocks' first places -/
def isB (B : Nat) : Prop := B = 3 ∨ B = 184 ∨ B = 365 ∨ B = 548 ∨ B = 729 ∨ B = 910 ∨ B = 1091
theorem isB_lt {B : Nat} (h : isB B) : 3 ≤ B ∧ B + 181 ≤ 1272 := by unfold isB at h; omega
theorem shp_B {z : Nat} {f : Nat → Int32} {w : Nat → Nat → Nat} {t : Nat → Nat} {B o : Nat} (h : isB B) (ho : o < 181) : shp z f w t (B + o) = shS z B f (w B) o := by
  have key : ∀ k : Nat, (B = 3 + 181 * k ∧ k < 3) → shp z f w t (B + o) = shS z B f (w B) o := by
    rintro k ⟨rfl, hk⟩
    unfold shp
    rw [if_neg (by omega), if_neg (by omega), if_neg (by omega), if_pos (by omega), show (3 + 181 * k + o - 3) / 181 = k by omega, show (3 + 181 * k + o - 3) % 181 = o by omega]
  have key2 : ∀ k : Nat, (B = 548 + 181 * k ∧ k < 4) → shp z f w t (B + o) = shS z B f (w B) o := by
    rintro k ⟨rfl, hk⟩
    unfold shp
    rw [if_neg (by omega), if_neg (by omega), if_neg (by omega), if_neg (by omega), if_neg (by omega), if_neg (by omega), if_pos (by omega), show (548 + 181 * k + o - 548) / 181 = k by omega, show (548 + 181 * k + o - 548) % 181 = o by omega]
  rcases h with h | h | h | h | h | h | h
  · exact key 0 ⟨h, by omega⟩
  · exact key 1 ⟨h, by omega⟩
  · exact key 2 ⟨h, by omega⟩
  · exact key2 0 ⟨h, by omega⟩
  · exact key2 1 ⟨h, by omega⟩
  · exact key2 2 ⟨h, by omega⟩
  · exact key2 3 ⟨h, by omega⟩
theorem hp_B {z : Nat} {X : pX} {B o : Nat} (h : isB B) (ho : o < 181) : (hp z X).2 (z + (B + o)) = some (shS z B (X.1 (B + o)) (X.2.1 B) o) := by
  rw [hp_at (by have := isB_lt h; omega), shp_B h ho]
/-- a store changes the ints of one cell -/
theorem hp_setR {z : Nat} {X : pX} {o : Nat} {f : Nat → Int32} {c : zCl} (h : o < 1278 + rws X.1) (h2 : o ≠ 2000) (hc : shp z f X.2.1 X.2.2 o = c) : zset (hp z X) (z + o) c = hp z (sV X.1 o f, X.2) := by
  unfold zset hp
  rw [rws_sV h2]
  refine Prod.ext rfl ?_
  funext a
  simp only
  by_cases ha : a = z + o
  · subst ha
    rw [if_pos rfl, if_pos ⟨by omega, by omega⟩, Nat.add_sub_cancel_left, sV_s, hc]
  · rw [if_neg ha]
    by_cases hb : z ≤ a ∧ a < z + (1278 + rws X.1)
    · rw [if_pos hb, if_pos hb, sV_n (by omega)]
    · rw [if_neg hb, if_neg hb]
theorem hp_set {z : Nat} {X : pX} {o : Nat} {f : Nat → Int32} {c : zCl} (h : o < 1278) (hc : shp z f X.2.1 X.2.2 o = c) : zset (hp z X) (z + o) c = hp z (sV X.1 o f, X.2) := hp_setR (by omega) (by omega) hc
-- cells of a block
theorem sh_0 {z B : Nat} {f : Nat → Int32} {w : Nat → Nat} : shS z B f w 0 = .inr (.inr (5, [.ref (z + 1), .ref (z + (B + 1)), .int (f 2), .int (f 3), .int (f 4), .ref (z + (B + 2)), .ref (z + (B + 3)), .ref (z + (B + 4))])) := rfl
theorem sh_S {z B j : Nat} {f : Nat → Int32} {w : Nat → Nat} (h : j < 48) : shS z B f w (5 + 3 * j) = .inr (.inr (4, [.int (f 0), .int (f 1), .int (f 2), .int (f 3), .int (f 4), .int (f 5), .int (f 6), .ref (z + (B + (6 + 3 * j))), .ref (z + (B + (7 + 3 * j)))])) := by
  unfold shS
  rw [if_neg (by omega), if_neg (by omega), if_neg (by omega), if_neg (by omega), if_neg (by omega), if_pos (by omega), if_pos (by omega), show 5 + 3 * j + 1 = 6 + 3 * j by omega, show 5 + 3 * j + 2 = 7 + 3 * j by omega]
theorem sh_P {z B j : Nat} {f : Nat → Int32} {w : Nat → Nat} (h : j < 48) : shS z B f w (6 + 3 * j) = .inl (0, 4, f) := by
  unfold shS
  rw [if_neg (by omega), if_neg (by omega), if_neg (by omega), if_neg (by omega), if_neg (by omega), if_pos (by omega), if_neg (by omega), if_pos (by omega)]
theorem sh_R {z B j : Nat} {f : Nat → Int32} {w : Nat → Nat} (h : j < 48) : shS z B f w (7 + 3 * j) = .inl (0, 12, f) := by
  unfold shS
  rw [if_neg (by omega), if_neg (by omega), if_neg (by omega), if_neg (by omega), if_neg (by omega), if_pos (by omega), if_neg (by omega), if_neg (by omega)]
theorem sh_M {z B k : Nat} {f : Nat → Int32} {w : Nat → Nat} (h : k < 12) : shS z B f w (149 + 2 * k) = .inr (.inr (3, [.ref (z + (B + (150 + 2 * k))), .int (f 1), .int (f 2)])) := by
  unfold shS
  rw [if_neg (by omega), if_neg (by omega), if_neg (by omega), if_neg (by omega), if_neg (by omega), if_neg (by omega), if_pos (by omega), if_pos (by omega), show 149 + 2 * k + 1 = 150 + 2 * k by omega]
theorem sh_C {z B k : Nat} {f : Nat → Int32} {w : Nat → Nat} (h : k < 12) : shS z B f w (150 + 2 * k) = .inl (0, 4, f) := by
  unfold shS
  rw [if_neg (by omega), if_neg (by omega), if_neg (by omega), if_neg (by omega), if_neg (by omega), if_neg (by omega), if_pos (by omega), if_neg (by omega)]
theorem sh_L {z B q : Nat} {f : Nat → Int32} {w : Nat → Nat} : shS z B f w (173 + 2 * q) = .inr (.inr (2, [.ref (z + (B + (174 + 2 * q))), .int (f 1)])) := by
  unfold shS
  rw [if_neg (by omega), if_neg (by omega), if_neg (by omega), if_neg (by omega), if_neg (by omega), if_neg (by omega), if_neg (by omega), if_pos (by omega), show 173 + 2 * q + 1 = 174 + 2 * q by omega]
theorem sh_K {z B q : Nat} {f : Nat → Int32} {w : Nat → Nat} : shS z B f w (174 + 2 * q) = .inl (0, 12, f) := by
  unfold shS
  rw [if_neg (by omega), if_neg (by omega), if_neg (by omega), if_neg (by omega), if_neg (by omega), if_neg (by omega), if_neg (by omega), if_neg (by omega)]
