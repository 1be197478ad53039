/-! stores of references: a State's order, the history's -/
theorem nI_div {a b : Nat} (ha : a < 2 ^ 31) (hb : b < 2 ^ 31) : nI a / nI b = nI (a / b) := by
  have hle : a / b ≤ a := Nat.div_le_self a b
  apply Int32.toInt_inj.mp
  rw [Int32.toInt_div, nI_toInt ha, nI_toInt hb, nI_toInt (by omega), ← Int.ofNat_tdiv]
  generalize a / b = c at hle ⊢
  apply Int.bmod_eq_of_le <;> omega
theorem zdiv_n {a b : Nat} (ha : a < 2 ^ 31) (hb : b < 2 ^ 31) (h0 : 0 < b) : zdiv (nI a) (nI b) = some (nI (a / b)) := by
  unfold zdiv
  rw [if_neg (nI_ne0 h0 hb), nI_div ha hb]
theorem zrem_n {a b : Nat} (ha : a < 2 ^ 31) (hb : b < 2 ^ 31) (h0 : 0 < b) : zrem (nI a) (nI b) = some (nI (a % b)) := by
  unfold zrem
  rw [if_neg (nI_ne0 h0 hb), nI_div ha hb, nI_mul, nI_sub (Nat.div_mul_le_self a b)]
  have h := Nat.div_add_mod a b
  rw [Nat.mul_comm] at h
  congr 2
  omega
def sW (W : Nat → Nat → Nat) (B : Nat) (w' : Nat → Nat) : Nat → Nat → Nat := fun b => if b = B then w' else W b
theorem sW_s {W : Nat → Nat → Nat} {B : Nat} {w' : Nat → Nat} : sW W B w' B = w' := if_pos rfl
theorem sW_n {W : Nat → Nat → Nat} {B b : Nat} {w' : Nat → Nat} (h : b ≠ B) : sW W B w' b = W b := if_neg h
theorem sW_sW {W : Nat → Nat → Nat} {B : Nat} {w1 w2 : Nat → Nat} : sW (sW W B w1) B w2 = sW W B w2 := by
  funext b; unfold sW; split <;> rfl
theorem sW_id {W : Nat → Nat → Nat} {B : Nat} : sW W B (W B) = W := by
  funext b; unfold sW; split
  · rename_i h; rw [h]
  · rfl
theorem shS_W {z B o : Nat} {f : Nat → Int32} {w w' : Nat → Nat} (h : o ≠ 2) : shS z B f w o = shS z B f w' o := by
  unfold shS
  rw [if_neg (c := o = 2) h, if_neg (c := o = 2) h]
theorem shp_W {z B o : Nat} {f : Nat → Int32} {W : Nat → Nat → Nat} {w' : Nat → Nat} {t : Nat → Nat} (h : o ≠ B + 2) : shp z f (sW W B w') t o = shp z f W t o := by
  have key : ∀ b o', (b = B → o' ≠ 2) → shS z b f (sW W B w' b) o' = shS z b f (W b) o' := by
    intro b o' hh
    by_cases c : b = B
    · exact shS_W (hh c)
    · rw [sW_n c]
  unfold shp
  by_cases h0 : o = 0
  · rw [if_pos h0, if_pos h0]
  rw [if_neg h0, if_neg h0]
  by_cases h1 : o = 1
  · rw [if_pos h1, if_pos h1]
  rw [if_neg h1, if_neg h1]
  by_cases h2 : o = 2
  · rw [if_pos h2, if_pos h2]
  rw [if_neg h2, if_neg h2]
  by_cases h3 : o < 546
  · rw [if_pos h3, if_pos h3, key _ _ (fun e => by omega)]
  rw [if_neg h3, if_neg h3]
  by_cases h4 : o = 546
  · rw [if_pos h4, if_pos h4]
  rw [if_neg h4, if_neg h4]
  by_cases h5 : o = 547
  · rw [if_pos h5, if_pos h5]
  rw [if_neg h5, if_neg h5]
  by_cases h6 : o < 1272
  · rw [if_pos h6, if_pos h6, key _ _ (fun e => by omega)]
  rw [if_neg h6, if_neg h6]
theorem hp_setW {z : Nat} {X : pX} {B : Nat} (hb : isB B) {w' : Nat → Nat} {c : zCl} (hc : c = .inr (.inl (2, 48, fun r => if r < 48 then some (z + (B + (5 + 3 * w' r))) else none))) : zset (hp z X) (z + (B + 2)) c = hp z (X.1, sW X.2.1 B w', X.2.2) := by
  have hbl := isB_lt hb
  unfold zset hp
  refine Prod.ext rfl ?_
  funext a
  simp only
  by_cases ha : a = z + (B + 2)
  · subst ha
    rw [if_pos rfl, if_pos ⟨by omega, by omega⟩, Nat.add_sub_cancel_left, shp_B (o := 2) hb (by omega), sW_s, hc]
    rfl
  · rw [if_neg ha]
    by_cases hb2 : z ≤ a ∧ a < z + (1278 + rws X.1)
    · rw [if_pos hb2, if_pos hb2, shp_W (by omega)]
    · rw [if_neg hb2, if_neg hb2]
theorem m_stS {z : Nat} {X : pX} {B : Nat} (hb : isB B) {i j : Nat} (hi : i < 48) (hj : j < 48) : zstR (hp z X) (z + (B + 2)) 2 4 (nI i) (z + (B + (5 + 3 * j))) = some (hp z (X.1, sW X.2.1 B (updN (X.2.1 B) i j), X.2.2)) := by
  have hbl := isB_lt hb
  have e1 : zrr (hp z X) (z + (B + 2)) 2 = some (48, fun r => if r < 48 then some (z + (B + (5 + 3 * X.2.1 B r))) else none) := by
    unfold zrr
    rw [hp_B (o := 2) hb (by omega)]
    rfl
  have e2 : ∃ fs, zob (hp z X) (z + (B + (5 + 3 * j))) 4 = some fs := by
    unfold zob
    rw [hp_B hb (by omega), sh_S hj]
    exact ⟨_, rfl⟩
  obtain ⟨fs, e2⟩ := e2
  unfold zstR
  rw [e1, e2]
  simp only
  rw [if_neg (nI_in hi (by omega)), nI_clamp (by omega), hp_setW hb (w' := updN (X.2.1 B) i j)]
  unfold va_up updN
  congr 4
  funext r
  by_cases c : r = i
  · rw [if_pos c, if_pos (c := r < 48) (by omega), if_pos c]
  · rw [if_neg c, if_neg c]
def sT (t : Nat → Nat) (i a : Nat) : Nat → Nat := updN t i a
theorem shp_T {z o : Nat} {f : Nat → Int32} {W : Nat → Nat → Nat} {t t' : Nat → Nat} (h : o ≠ 547) : shp z f W t o = shp z f W t' o := by
  unfold shp
  rw [if_neg (c := o = 547) h, if_neg (c := o = 547) h]
theorem hp_setT {z : Nat} {X : pX} {t' : Nat → Nat} {c : zCl} (hc : c = .inr (.inl (5, 4, fun i => if i < 4 then some (z + t' i) else none))) : zset (hp z X) (z + 547) c = hp z (X.1, X.2.1, t') := by
  unfold zset hp
  refine Prod.ext rfl ?_
  funext a
  simp only
  by_cases ha : a = z + 547
  · subst ha
    rw [if_pos rfl, if_pos ⟨by omega, by omega⟩, Nat.add_sub_cancel_left, hc]
    rfl
  · rw [if_neg ha]
    by_cases hb2 : z ≤ a ∧ a < z + (1278 + rws X.1)
    · rw [if_pos hb2, if_pos hb2]
      exact congrArg some (shp_T (by omega))
    · rw [if_neg hb2, if_neg hb2]
theorem m_stT' {z : Nat} {X : pX} {i C : Nat} (hi : i < 4) (hc : isB C) : zstR (hp z X) (z + 547) 5 5 (nI i) (z + C) = some (hp z (X.1, X.2.1, updN X.2.2 i C)) := by
  have e1 : zrr (hp z X) (z + 547) 5 = some (4, fun i => if i < 4 then some (z + X.2.2 i) else none) := by
    unfold zrr
    rw [hp_at (o := 547) (by omega)]
    rfl
  have e2 : ∃ fs, zob (hp z X) (z + C) 5 = some fs := by
    unfold zob
    rw [show z + C = z + (C + 0) by omega, hp_B (o := 0) hc (by omega)]
    exact ⟨_, rfl⟩
  obtain ⟨fs, e2⟩ := e2
  unfold zstR
  rw [e1, e2]
  simp only
  rw [if_neg (nI_in hi (by omega)), nI_clamp (by omega), hp_setT (t' := updN X.2.2 i C)]
  unfold va_up updN
  congr 4
  funext r
  by_cases c : r = i
  · rw [if_pos c, if_pos (c := r < 4) (by omega), if_pos c]
  · rw [if_neg c, if_neg c]
