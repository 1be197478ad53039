/-! what the instructions do on hp -/
theorem nI_b {i : Nat} (h : i < 2 ^ 31) : ¬ nI i < 0 := nI_pos h
theorem gI_of {z : Nat} {X : pX} {o ci k : Nat} {fs : List Value} {v : Int32} (h : o < 1278) (hs : shp z (X.1 o) X.2.1 X.2.2 o = .inr (.inr (ci, fs))) (hk : fs[k]? = some (.int v)) : zgI (hp z X) (z + o) ci k = some v := by
  unfold zgI zob
  rw [hp_at h, hs]
  simp [hk]
theorem gR_of {z : Nat} {X : pX} {o ci k v : Nat} {fs : List Value} (h : o < 1278) (hs : shp z (X.1 o) X.2.1 X.2.2 o = .inr (.inr (ci, fs))) (hk : fs[k]? = some (.ref v)) : zgR (hp z X) (z + o) ci k = some v := by
  unfold zgR zob
  rw [hp_at h, hs]
  simp [hk]
theorem pI_of {z : Nat} {X : pX} {o ci k : Nat} {fs : List Value} {v : Value} {f : Nat → Int32} (h : o < 1278) (hs : shp z (X.1 o) X.2.1 X.2.2 o = .inr (.inr (ci, fs))) (hk : k < fs.length) (hc : shp z f X.2.1 X.2.2 o = .inr (.inr (ci, fs.set k v))) : zpV (hp z X) (z + o) ci k v = some (hp z (sV X.1 o f, X.2)) := by
  unfold zpV zob
  rw [hp_at h, hs]
  simp only [if_true, if_pos hk]
  rw [hp_set h hc]
theorem is_of {z : Nat} {X : pX} {o ci : Nat} {fs : List Value} (h : o < 1278) (hs : shp z (X.1 o) X.2.1 X.2.2 o = .inr (.inr (ci, fs))) : zis (hp z X) (z + o) ci = true := by
  unfold zis
  rw [hp_at h, hs]
  simp
theorem ld_of {z : Nat} {X : pX} {o kd n i : Nat} {f : Nat → Int32} (h : o < 1278) (hs : shp z (X.1 o) X.2.1 X.2.2 o = .inl (kd, n, f)) (hn : n < 2 ^ 31) (hi : i < n) : zld (hp z X) (z + o) kd (nI i) = some (f i) := by
  unfold zld zar
  rw [hp_at h, hs]
  simp only [if_true]
  rw [if_neg (nI_in hi hn), nI_clamp (by omega)]
theorem st_of {z : Nat} {X : pX} {o kd n i : Nat} {v : Int32} (h : o < 1278) (hs : ∀ f, shp z f X.2.1 X.2.2 o = .inl (kd, n, f)) (hn : n < 2 ^ 31) (hi : i < n) : zst (hp z X) (z + o) kd (nI i) v = some (hp z (sV X.1 o (upd (X.1 o) i v), X.2)) := by
  unfold zst zar
  rw [hp_at h, hs]
  simp only [if_true]
  rw [if_neg (nI_in hi hn), nI_clamp (by omega), hp_set h (hs _)]
theorem ldR_of {z : Nat} {X : pX} {o kd n i a : Nat} {f : Nat → Option Nat} (h : o < 1278) (hs : shp z (X.1 o) X.2.1 X.2.2 o = .inr (.inl (kd, n, f))) (hn : n < 2 ^ 31) (hi : i < n) (ha : f i = some a) : zldR (hp z X) (z + o) kd (nI i) = some a := by
  unfold zldR zrr
  rw [hp_at h, hs]
  simp only [if_true]
  rw [if_neg (nI_in hi hn), nI_clamp (by omega), ha]
theorem lnI_of {z : Nat} {X : pX} {o kd n : Nat} {f : Nat → Int32} (h : o < 1278) (hs : shp z (X.1 o) X.2.1 X.2.2 o = .inl (kd, n, f)) : zlnI (hp z X) (z + o) kd = some (nI n) := by
  unfold zlnI zar
  rw [hp_at h, hs]
  simp [nI]
theorem lnR_of {z : Nat} {X : pX} {o kd n : Nat} {f : Nat → Option Nat} (h : o < 1278) (hs : shp z (X.1 o) X.2.1 X.2.2 o = .inr (.inl (kd, n, f))) : zlnR (hp z X) (z + o) kd = some (nI n) := by
  unfold zlnR zrr
  rw [hp_at h, hs]
  simp [nI]
theorem cp_of {z : Nat} {X : pX} {o q n n0 n1 : Nat} (h : o < 1278) (h' : q < 1278) (hs : shp z (X.1 o) X.2.1 X.2.2 o = .inl (0, n0, X.1 o)) (hq : ∀ f, shp z f X.2.1 X.2.2 q = .inl (0, n1, f)) (hne : o ≠ q) (h0 : n ≤ n0) (h1 : n ≤ n1) (hn : n < 2 ^ 31) : zcopy (hp z X) (z + o) (nI 0) (z + q) (nI 0) (nI n) = some (hp z (sV X.1 q (va_cpy (X.1 o) (X.1 q) 0 0 n), X.2)) := by
  unfold zcopy zar
  rw [hp_at h, hp_at h', hs, hq]
  simp only [if_true]
  rw [if_neg]
  · rw [nI_clamp (show (0 : Nat) < 2 ^ 31 by omega), nI_clamp hn, hp_set h' (hq _)]
  · rw [nI_clamp (show (0 : Nat) < 2 ^ 31 by omega), nI_clamp hn]
    have p0 := nI_pos (show (0 : Nat) < 2 ^ 31 by omega)
    have pn := nI_pos hn
    simp only [p0, pn, false_or]
    omega
theorem m_gO2 {z : Nat} {X : pX} {B : Nat} (hb : isB B) : zgI (hp z X) (z + B) 5 2 = some (X.1 B 2) := gI_of (by have := isB_lt hb; omega) (shp_B (o := 0) hb (by omega)) rfl
theorem m_pO2 {z : Nat} {X : pX} {B : Nat} (hb : isB B) {v : Int32} : zpV (hp z X) (z + B) 5 2 (.int v) = some (hp z (sV X.1 B (upd (X.1 B) 2 v), X.2)) := pI_of (by have := isB_lt hb; omega) (shp_B (o := 0) hb (by omega)) (Nat.le_of_ble_eq_true rfl) (shp_B (o := 0) hb (by omega))
theorem m_gO3 {z : Nat} {X : pX} {B : Nat} (hb : isB B) : zgI (hp z X) (z + B) 5 3 = some (X.1 B 3) := gI_of (by have := isB_lt hb; omega) (shp_B (o := 0) hb (by omega)) rfl
theorem m_pO3 {z : Nat} {X : pX} {B : Nat} (hb : isB B) {v : Int32} : zpV (hp z X) (z + B) 5 3 (.int v) = some (hp z (sV X.1 B (upd (X.1 B) 3 v), X.2)) := pI_of (by have := isB_lt hb; omega) (shp_B (o := 0) hb (by omega)) (Nat.le_of_ble_eq_true rfl) (shp_B (o := 0) hb (by omega))
theorem m_gO4 {z : Nat} {X : pX} {B : Nat} (hb : isB B) : zgI (hp z X) (z + B) 5 4 = some (X.1 B 4) := gI_of (by have := isB_lt hb; omega) (shp_B (o := 0) hb (by omega)) rfl
theorem m_pO4 {z : Nat} {X : pX} {B : Nat} (hb : isB B) {v : Int32} : zpV (hp z X) (z + B) 5 4 (.int v) = some (hp z (sV X.1 B (upd (X.1 B) 4 v), X.2)) := pI_of (by have := isB_lt hb; omega) (shp_B (o := 0) hb (by omega)) (Nat.le_of_ble_eq_true rfl) (shp_B (o := 0) hb (by omega))
theorem m_rO0 {z : Nat} {X : pX} {B : Nat} (hb : isB B) : zgR (hp z X) (z + B) 5 0 = some (z + 1) := gR_of (by have := isB_lt hb; omega) (shp_B (o := 0) hb (by omega)) rfl
theorem m_rO1 {z : Nat} {X : pX} {B : Nat} (hb : isB B) : zgR (hp z X) (z + B) 5 1 = some (z + (B + 1)) := gR_of (by have := isB_lt hb; omega) (shp_B (o := 0) hb (by omega)) rfl
theorem m_rO5 {z : Nat} {X : pX} {B : Nat} (hb : isB B) : zgR (hp z X) (z + B) 5 5 = some (z + (B + 2)) := gR_of (by have := isB_lt hb; omega) (shp_B (o := 0) hb (by omega)) rfl
theorem m_rO6 {z : Nat} {X : pX} {B : Nat} (hb : isB B) : zgR (hp z X) (z + B) 5 6 = some (z + (B + 3)) := gR_of (by have := isB_lt hb; omega) (shp_B (o := 0) hb (by omega)) rfl
theorem m_rO7 {z : Nat} {X : pX} {B : Nat} (hb : isB B) : zgR (hp z X) (z + B) 5 7 = some (z + (B + 4)) := gR_of (by have := isB_lt hb; omega) (shp_B (o := 0) hb (by omega)) rfl
theorem m_iO {z : Nat} {X : pX} {B : Nat} (hb : isB B) : zis (hp z X) (z + B) 5 = true := is_of (by have := isB_lt hb; omega) (shp_B (o := 0) hb (by omega))
theorem m_ldT {z : Nat} {X : pX} {B : Nat} (hb : isB B) {i : Nat} (hi : i < 5) : zld (hp z X) (z + (B + 1)) 0 (nI i) = some (X.1 (B + 1) i) := ld_of (by have := isB_lt hb; omega) (shp_B (o := 1) hb (by omega)) (by omega) hi
theorem m_stT {z : Nat} {X : pX} {B : Nat} (hb : isB B) {i : Nat} {v : Int32} (hi : i < 5) : zst (hp z X) (z + (B + 1)) 0 (nI i) v = some (hp z (sV X.1 (B + 1) (upd (X.1 (B + 1)) i v), X.2)) := st_of (n := 5) (by have := isB_lt hb; omega) (fun f => shp_B (o := 1) hb (by omega)) (by omega) hi
theorem m_ldS {z : Nat} {X : pX} {B : Nat} (hb : isB B) {i : Nat} (hi : i < 48) : zldR (hp z X) (z + (B + 2)) 2 (nI i) = some (z + (B + (5 + 3 * X.2.1 B i))) := ldR_of (by have := isB_lt hb; omega) (shp_B (o := 2) hb (by omega)) (by omega) hi (if_pos hi)
theorem m_ldM {z : Nat} {X : pX} {B : Nat} (hb : isB B) {i : Nat} (hi : i < 12) : zldR (hp z X) (z + (B + 3)) 3 (nI i) = some (z + (B + (149 + 2 * i))) := ldR_of (by have := isB_lt hb; omega) (shp_B (o := 3) hb (by omega)) (by omega) hi (if_pos hi)
theorem m_ldL {z : Nat} {X : pX} {B : Nat} (hb : isB B) {i : Nat} (hi : i < 4) : zldR (hp z X) (z + (B + 4)) 4 (nI i) = some (z + (B + (173 + 2 * i))) := ldR_of (by have := isB_lt hb; omega) (shp_B (o := 4) hb (by omega)) (by omega) hi (if_pos hi)
theorem m_lnS {z : Nat} {X : pX} {B : Nat} (hb : isB B) : zlnR (hp z X) (z + (B + 2)) 2 = some (nI 48) := lnR_of (by have := isB_lt hb; omega) (shp_B (o := 2) hb (by omega))
theorem m_lnM {z : Nat} {X : pX} {B : Nat} (hb : isB B) : zlnR (hp z X) (z + (B + 3)) 3 = some (nI 12) := lnR_of (by have := isB_lt hb; omega) (shp_B (o := 3) hb (by omega))
theorem m_gS0 {z : Nat} {X : pX} {B : Nat} (hb : isB B) {j : Nat} (hj : j < 48) : zgI (hp z X) (z + (B + (5 + 3 * j))) 4 0 = some (X.1 (B + (5 + 3 * j)) 0) := gI_of (by have := isB_lt hb; omega) ((shp_B hb (by omega)).trans (sh_S hj)) rfl
theorem m_pS0 {z : Nat} {X : pX} {B : Nat} (hb : isB B) {j : Nat} (hj : j < 48) {v : Int32} : zpV (hp z X) (z + (B + (5 + 3 * j))) 4 0 (.int v) = some (hp z (sV X.1 (B + (5 + 3 * j)) (upd (X.1 (B + (5 + 3 * j))) 0 v), X.2)) := pI_of (by have := isB_lt hb; omega) ((shp_B hb (by omega)).trans (sh_S hj)) (Nat.le_of_ble_eq_true rfl) ((shp_B hb (by omega)).trans (sh_S hj))
theorem m_gS1 {z : Nat} {X : pX} {B : Nat} (hb : isB B) {j : Nat} (hj : j < 48) : zgI (hp z X) (z + (B + (5 + 3 * j))) 4 1 = some (X.1 (B + (5 + 3 * j)) 1) := gI_of (by have := isB_lt hb; omega) ((shp_B hb (by omega)).trans (sh_S hj)) rfl
theorem m_pS1 {z : Nat} {X : pX} {B : Nat} (hb : isB B) {j : Nat} (hj : j < 48) {v : Int32} : zpV (hp z X) (z + (B + (5 + 3 * j))) 4 1 (.int v) = some (hp z (sV X.1 (B + (5 + 3 * j)) (upd (X.1 (B + (5 + 3 * j))) 1 v), X.2)) := pI_of (by have := isB_lt hb; omega) ((shp_B hb (by omega)).trans (sh_S hj)) (Nat.le_of_ble_eq_true rfl) ((shp_B hb (by omega)).trans (sh_S hj))
theorem m_gS2 {z : Nat} {X : pX} {B : Nat} (hb : isB B) {j : Nat} (hj : j < 48) : zgI (hp z X) (z + (B + (5 + 3 * j))) 4 2 = some (X.1 (B + (5 + 3 * j)) 2) := gI_of (by have := isB_lt hb; omega) ((shp_B hb (by omega)).trans (sh_S hj)) rfl
theorem m_pS2 {z : Nat} {X : pX} {B : Nat} (hb : isB B) {j : Nat} (hj : j < 48) {v : Int32} : zpV (hp z X) (z + (B + (5 + 3 * j))) 4 2 (.int v) = some (hp z (sV X.1 (B + (5 + 3 * j)) (upd (X.1 (B + (5 + 3 * j))) 2 v), X.2)) := pI_of (by have := isB_lt hb; omega) ((shp_B hb (by omega)).trans (sh_S hj)) (Nat.le_of_ble_eq_true rfl) ((shp_B hb (by omega)).trans (sh_S hj))
theorem m_gS3 {z : Nat} {X : pX} {B : Nat} (hb : isB B) {j : Nat} (hj : j < 48) : zgI (hp z X) (z + (B + (5 + 3 * j))) 4 3 = some (X.1 (B + (5 + 3 * j)) 3) := gI_of (by have := isB_lt hb; omega) ((shp_B hb (by omega)).trans (sh_S hj)) rfl
theorem m_pS3 {z : Nat} {X : pX} {B : Nat} (hb : isB B) {j : Nat} (hj : j < 48) {v : Int32} : zpV (hp z X) (z + (B + (5 + 3 * j))) 4 3 (.int v) = some (hp z (sV X.1 (B + (5 + 3 * j)) (upd (X.1 (B + (5 + 3 * j))) 3 v), X.2)) := pI_of (by have := isB_lt hb; omega) ((shp_B hb (by omega)).trans (sh_S hj)) (Nat.le_of_ble_eq_true rfl) ((shp_B hb (by omega)).trans (sh_S hj))
theorem m_gS4 {z : Nat} {X : pX} {B : Nat} (hb : isB B) {j : Nat} (hj : j < 48) : zgI (hp z X) (z + (B + (5 + 3 * j))) 4 4 = some (X.1 (B + (5 + 3 * j)) 4) := gI_of (by have := isB_lt hb; omega) ((shp_B hb (by omega)).trans (sh_S hj)) rfl
theorem m_pS4 {z : Nat} {X : pX} {B : Nat} (hb : isB B) {j : Nat} (hj : j < 48) {v : Int32} : zpV (hp z X) (z + (B + (5 + 3 * j))) 4 4 (.int v) = some (hp z (sV X.1 (B + (5 + 3 * j)) (upd (X.1 (B + (5 + 3 * j))) 4 v), X.2)) := pI_of (by have := isB_lt hb; omega) ((shp_B hb (by omega)).trans (sh_S hj)) (Nat.le_of_ble_eq_true rfl) ((shp_B hb (by omega)).trans (sh_S hj))
theorem m_gS5 {z : Nat} {X : pX} {B : Nat} (hb : isB B) {j : Nat} (hj : j < 48) : zgI (hp z X) (z + (B + (5 + 3 * j))) 4 5 = some (X.1 (B + (5 + 3 * j)) 5) := gI_of (by have := isB_lt hb; omega) ((shp_B hb (by omega)).trans (sh_S hj)) rfl
theorem m_pS5 {z : Nat} {X : pX} {B : Nat} (hb : isB B) {j : Nat} (hj : j < 48) {v : Int32} : zpV (hp z X) (z + (B + (5 + 3 * j))) 4 5 (.int v) = some (hp z (sV X.1 (B + (5 + 3 * j)) (upd (X.1 (B + (5 + 3 * j))) 5 v), X.2)) := pI_of (by have := isB_lt hb; omega) ((shp_B hb (by omega)).trans (sh_S hj)) (Nat.le_of_ble_eq_true rfl) ((shp_B hb (by omega)).trans (sh_S hj))
theorem m_gS6 {z : Nat} {X : pX} {B : Nat} (hb : isB B) {j : Nat} (hj : j < 48) : zgI (hp z X) (z + (B + (5 + 3 * j))) 4 6 = some (X.1 (B + (5 + 3 * j)) 6) := gI_of (by have := isB_lt hb; omega) ((shp_B hb (by omega)).trans (sh_S hj)) rfl
theorem m_pS6 {z : Nat} {X : pX} {B : Nat} (hb : isB B) {j : Nat} (hj : j < 48) {v : Int32} : zpV (hp z X) (z + (B + (5 + 3 * j))) 4 6 (.int v) = some (hp z (sV X.1 (B + (5 + 3 * j)) (upd (X.1 (B + (5 + 3 * j))) 6 v), X.2)) := pI_of (by have := isB_lt hb; omega) ((shp_B hb (by omega)).trans (sh_S hj)) (Nat.le_of_ble_eq_true rfl) ((shp_B hb (by omega)).trans (sh_S hj))
theorem m_rS7 {z : Nat} {X : pX} {B : Nat} (hb : isB B) {j : Nat} (hj : j < 48) : zgR (hp z X) (z + (B + (5 + 3 * j))) 4 7 = some (z + (B + (6 + 3 * j))) := gR_of (by have := isB_lt hb; omega) ((shp_B hb (by omega)).trans (sh_S hj)) rfl
theorem m_rS8 {z : Nat} {X : pX} {B : Nat} (hb : isB B) {j : Nat} (hj : j < 48) : zgR (hp z X) (z + (B + (5 + 3 * j))) 4 8 = some (z + (B + (7 + 3 * j))) := gR_of (by have := isB_lt hb; omega) ((shp_B hb (by omega)).trans (sh_S hj)) rfl
theorem m_iS {z : Nat} {X : pX} {B : Nat} (hb : isB B) {j : Nat} (hj : j < 48) : zis (hp z X) (z + (B + (5 + 3 * j))) 4 = true := is_of (by have := isB_lt hb; omega) ((shp_B hb (by omega)).trans (sh_S hj))
theorem m_gM1 {z : Nat} {X : pX} {B : Nat} (hb : isB B) {j : Nat} (hj : j < 12) : zgI (hp z X) (z + (B + (149 + 2 * j))) 3 1 = some (X.1 (B + (149 + 2 * j)) 1) := gI_of (by have := isB_lt hb; omega) ((shp_B hb (by omega)).trans (sh_M hj)) rfl
theorem m_pM1 {z : Nat} {X : pX} {B : Nat} (hb : isB B) {j : Nat} (hj : j < 12) {v : Int32} : zpV (hp z X) (z + (B + (149 + 2 * j))) 3 1 (.int v) = some (hp z (sV X.1 (B + (149 + 2 * j)) (upd (X.1 (B + (149 + 2 * j))) 1 v), X.2)) := pI_of (by have := isB_lt hb; omega) ((shp_B hb (by omega)).trans (sh_M hj)) (Nat.le_of_ble_eq_true rfl) ((shp_B hb (by omega)).trans (sh_M hj))
theorem m_gM2 {z : Nat} {X : pX} {B : Nat} (hb : isB B) {j : Nat} (hj : j < 12) : zgI (hp z X) (z + (B + (149 + 2 * j))) 3 2 = some (X.1 (B + (149 + 2 * j)) 2) := gI_of (by have := isB_lt hb; omega) ((shp_B hb (by omega)).trans (sh_M hj)) rfl
theorem m_pM2 {z : Nat} {X : pX} {B : Nat} (hb : isB B) {j : Nat} (hj : j < 12) {v : Int32} : zpV (hp z X) (z + (B + (149 + 2 * j))) 3 2 (.int v) = some (hp z (sV X.1 (B + (149 + 2 * j)) (upd (X.1 (B + (149 + 2 * j))) 2 v), X.2)) := pI_of (by have := isB_lt hb; omega) ((shp_B hb (by omega)).trans (sh_M hj)) (Nat.le_of_ble_eq_true rfl) ((shp_B hb (by omega)).trans (sh_M hj))
theorem m_rM0 {z : Nat} {X : pX} {B : Nat} (hb : isB B) {j : Nat} (hj : j < 12) : zgR (hp z X) (z + (B + (149 + 2 * j))) 3 0 = some (z + (B + (150 + 2 * j))) := gR_of (by have := isB_lt hb; omega) ((shp_B hb (by omega)).trans (sh_M hj)) rfl
theorem m_iM {z : Nat} {X : pX} {B : Nat} (hb : isB B) {j : Nat} (hj : j < 12) : zis (hp z X) (z + (B + (149 + 2 * j))) 3 = true := is_of (by have := isB_lt hb; omega) ((shp_B hb (by omega)).trans (sh_M hj))
theorem m_gL1 {z : Nat} {X : pX} {B : Nat} (hb : isB B) {j : Nat} (hj : j < 4) : zgI (hp z X) (z + (B + (173 + 2 * j))) 2 1 = some (X.1 (B + (173 + 2 * j)) 1) := gI_of (by have := isB_lt hb; omega) ((shp_B hb (by omega)).trans (sh_L)) rfl
theorem m_pL1 {z : Nat} {X : pX} {B : Nat} (hb : isB B) {j : Nat} (hj : j < 4) {v : Int32} : zpV (hp z X) (z + (B + (173 + 2 * j))) 2 1 (.int v) = some (hp z (sV X.1 (B + (173 + 2 * j)) (upd (X.1 (B + (173 + 2 * j))) 1 v), X.2)) := pI_of (by have := isB_lt hb; omega) ((shp_B hb (by omega)).trans (sh_L)) (Nat.le_of_ble_eq_true rfl) ((shp_B hb (by omega)).trans (sh_L))
theorem m_rL0 {z : Nat} {X : pX} {B : Nat} (hb : isB B) {j : Nat} (hj : j < 4) : zgR (hp z X) (z + (B + (173 + 2 * j))) 2 0 = some (z + (B + (174 + 2 * j))) := gR_of (by have := isB_lt hb; omega) ((shp_B hb (by omega)).trans (sh_L)) rfl
theorem m_iL {z : Nat} {X : pX} {B : Nat} (hb : isB B) {j : Nat} (hj : j < 4) : zis (hp z X) (z + (B + (173 + 2 * j))) 2 = true := is_of (by have := isB_lt hb; omega) ((shp_B hb (by omega)).trans (sh_L))
theorem m_ldP {z : Nat} {X : pX} {B : Nat} (hb : isB B) {j : Nat} (hj : j < 48) {i : Nat} (hi : i < 4) : zld (hp z X) (z + (B + (6 + 3 * j))) 0 (nI i) = some (X.1 (B + (6 + 3 * j)) i) := ld_of (by have := isB_lt hb; omega) ((shp_B hb (by omega)).trans (sh_P hj)) (by omega) hi
theorem m_stP {z : Nat} {X : pX} {B : Nat} (hb : isB B) {j : Nat} (hj : j < 48) {i : Nat} {v : Int32} (hi : i < 4) : zst (hp z X) (z + (B + (6 + 3 * j))) 0 (nI i) v = some (hp z (sV X.1 (B + (6 + 3 * j)) (upd (X.1 (B + (6 + 3 * j))) i v), X.2)) := st_of (n := 4) (by have := isB_lt hb; omega) (fun f => ((shp_B hb (by omega)).trans (sh_P hj))) (by omega) hi
theorem m_ldR {z : Nat} {X : pX} {B : Nat} (hb : isB B) {j : Nat} (hj : j < 48) {i : Nat} (hi : i < 12) : zld (hp z X) (z + (B + (7 + 3 * j))) 0 (nI i) = some (X.1 (B + (7 + 3 * j)) i) := ld_of (by have := isB_lt hb; omega) ((shp_B hb (by omega)).trans (sh_R hj)) (by omega) hi
theorem m_stR {z : Nat} {X : pX} {B : Nat} (hb : isB B) {j : Nat} (hj : j < 48) {i : Nat} {v : Int32} (hi : i < 12) : zst (hp z X) (z + (B + (7 + 3 * j))) 0 (nI i) v = some (hp z (sV X.1 (B + (7 + 3 * j)) (upd (X.1 (B + (7 + 3 * j))) i v), X.2)) := st_of (n := 12) (by have := isB_lt hb; omega) (fun f => ((shp_B hb (by omega)).trans (sh_R hj))) (by omega) hi
theorem m_ldC {z : Nat} {X : pX} {B : Nat} (hb : isB B) {j : Nat} (hj : j < 12) {i : Nat} (hi : i < 4) : zld (hp z X) (z + (B + (150 + 2 * j))) 0 (nI i) = some (X.1 (B + (150 + 2 * j)) i) := ld_of (by have := isB_lt hb; omega) ((shp_B hb (by omega)).trans (sh_C hj)) (by omega) hi
theorem m_stC {z : Nat} {X : pX} {B : Nat} (hb : isB B) {j : Nat} (hj : j < 12) {i : Nat} {v : Int32} (hi : i < 4) : zst (hp z X) (z + (B + (150 + 2 * j))) 0 (nI i) v = some (hp z (sV X.1 (B + (150 + 2 * j)) (upd (X.1 (B + (150 + 2 * j))) i v), X.2)) := st_of (n := 4) (by have := isB_lt hb; omega) (fun f => ((shp_B hb (by omega)).trans (sh_C hj))) (by omega) hi
theorem m_ldK {z : Nat} {X : pX} {B : Nat} (hb : isB B) {j : Nat} (hj : j < 4) {i : Nat} (hi : i < 12) : zld (hp z X) (z + (B + (174 + 2 * j))) 0 (nI i) = some (X.1 (B + (174 + 2 * j)) i) := ld_of (by have := isB_lt hb; omega) ((shp_B hb (by omega)).trans (sh_K)) (by omega) hi
theorem m_stK {z : Nat} {X : pX} {B : Nat} (hb : isB B) {j : Nat} (hj : j < 4) {i : Nat} {v : Int32} (hi : i < 12) : zst (hp z X) (z + (B + (174 + 2 * j))) 0 (nI i) v = some (hp z (sV X.1 (B + (174 + 2 * j)) (upd (X.1 (B + (174 + 2 * j))) i v), X.2)) := st_of (n := 12) (by have := isB_lt hb; omega) (fun f => ((shp_B hb (by omega)).trans (sh_K))) (by omega) hi
theorem m_gx5 {z : Nat} {X : pX} : zgI (hp z X) z 7 5 = some (X.1 0 5) := gI_of (o := 0) (by omega) rfl rfl
theorem m_px5 {z : Nat} {X : pX} {v : Int32} : zpV (hp z X) z 7 5 (.int v) = some (hp z (sV X.1 0 (upd (X.1 0) 5 v), X.2)) := pI_of (o := 0) (by omega) rfl (Nat.le_of_ble_eq_true rfl) rfl
theorem m_rx0 {z : Nat} {X : pX} : zgR (hp z X) z 7 0 = some (z + 3) := gR_of (o := 0) (by omega) rfl rfl
theorem m_rx1 {z : Nat} {X : pX} : zgR (hp z X) z 7 1 = some (z + 184) := gR_of (o := 0) (by omega) rfl rfl
theorem m_rx2 {z : Nat} {X : pX} : zgR (hp z X) z 7 2 = some (z + 365) := gR_of (o := 0) (by omega) rfl rfl
theorem m_rx3 {z : Nat} {X : pX} : zgR (hp z X) z 7 3 = some (z + 546) := gR_of (o := 0) (by omega) rfl rfl
theorem m_rx4 {z : Nat} {X : pX} : zgR (hp z X) z 7 4 = some (z + 1272) := gR_of (o := 0) (by omega) rfl rfl
theorem m_ix {z : Nat} {X : pX} : zis (hp z X) z 7 = true := is_of (o := 0) (by omega) rfl
theorem m_gD1 {z : Nat} {X : pX} : zgI (hp z X) (z + 1) 0 1 = some (X.1 1 1) := gI_of (by omega) rfl rfl
theorem m_pD1 {z : Nat} {X : pX} {v : Int32} : zpV (hp z X) (z + 1) 0 1 (.int v) = some (hp z (sV X.1 1 (upd (X.1 1) 1 v), X.2)) := pI_of (by omega) rfl (Nat.le_of_ble_eq_true rfl) rfl
theorem m_gD2 {z : Nat} {X : pX} : zgI (hp z X) (z + 1) 0 2 = some (X.1 1 2) := gI_of (by omega) rfl rfl
theorem m_pD2 {z : Nat} {X : pX} {v : Int32} : zpV (hp z X) (z + 1) 0 2 (.int v) = some (hp z (sV X.1 1 (upd (X.1 1) 2 v), X.2)) := pI_of (by omega) rfl (Nat.le_of_ble_eq_true rfl) rfl
theorem m_gD3 {z : Nat} {X : pX} : zgI (hp z X) (z + 1) 0 3 = some (X.1 1 3) := gI_of (by omega) rfl rfl
theorem m_pD3 {z : Nat} {X : pX} {v : Int32} : zpV (hp z X) (z + 1) 0 3 (.int v) = some (hp z (sV X.1 1 (upd (X.1 1) 3 v), X.2)) := pI_of (by omega) rfl (Nat.le_of_ble_eq_true rfl) rfl
theorem m_rD0 {z : Nat} {X : pX} : zgR (hp z X) (z + 1) 0 0 = some (z + 2) := gR_of (by omega) rfl rfl
theorem m_iD {z : Nat} {X : pX} : zis (hp z X) (z + 1) 0 = true := is_of (by omega) rfl
theorem m_ld2 {z : Nat} {X : pX} {i : Nat} (hi : i < 1168) : zld (hp z X) (z + 2) 0 (nI i) = some (X.1 2 i) := ld_of (by omega) rfl (by omega) hi
theorem m_st2 {z : Nat} {X : pX} {i : Nat} {v : Int32} (hi : i < 1168) : zst (hp z X) (z + 2) 0 (nI i) v = some (hp z (sV X.1 2 (upd (X.1 2) i v), X.2)) := st_of (n := 1168) (by omega) (fun f => rfl) (by omega) hi
theorem m_gH1 {z : Nat} {X : pX} : zgI (hp z X) (z + 546) 1 1 = some (X.1 546 1) := gI_of (by omega) rfl rfl
theorem m_pH1 {z : Nat} {X : pX} {v : Int32} : zpV (hp z X) (z + 546) 1 1 (.int v) = some (hp z (sV X.1 546 (upd (X.1 546) 1 v), X.2)) := pI_of (by omega) rfl (Nat.le_of_ble_eq_true rfl) rfl
theorem m_rH0 {z : Nat} {X : pX} : zgR (hp z X) (z + 546) 1 0 = some (z + 547) := gR_of (by omega) rfl rfl
theorem m_iH {z : Nat} {X : pX} : zis (hp z X) (z + 546) 1 = true := is_of (by omega) rfl
theorem m_gX1 {z : Nat} {X : pX} : zgI (hp z X) (z + 1272) 6 1 = some (X.1 1272 1) := gI_of (by omega) rfl rfl
theorem m_pX1 {z : Nat} {X : pX} {v : Int32} : zpV (hp z X) (z + 1272) 6 1 (.int v) = some (hp z (sV X.1 1272 (upd (X.1 1272) 1 v), X.2)) := pI_of (by omega) rfl (Nat.le_of_ble_eq_true rfl) rfl
theorem m_gX2 {z : Nat} {X : pX} : zgI (hp z X) (z + 1272) 6 2 = some (X.1 1272 2) := gI_of (by omega) rfl rfl
theorem m_pX2 {z : Nat} {X : pX} {v : Int32} : zpV (hp z X) (z + 1272) 6 2 (.int v) = some (hp z (sV X.1 1272 (upd (X.1 1272) 2 v), X.2)) := pI_of (by omega) rfl (Nat.le_of_ble_eq_true rfl) rfl
theorem m_gX3 {z : Nat} {X : pX} : zgI (hp z X) (z + 1272) 6 3 = some (X.1 1272 3) := gI_of (by omega) rfl rfl
theorem m_pX3 {z : Nat} {X : pX} {v : Int32} : zpV (hp z X) (z + 1272) 6 3 (.int v) = some (hp z (sV X.1 1272 (upd (X.1 1272) 3 v), X.2)) := pI_of (by omega) rfl (Nat.le_of_ble_eq_true rfl) rfl
theorem m_rX0 {z : Nat} {X : pX} : zgR (hp z X) (z + 1272) 6 0 = some (z + 1273) := gR_of (by omega) rfl rfl
theorem m_rX4 {z : Nat} {X : pX} : zgR (hp z X) (z + 1272) 6 4 = some (z + 1274) := gR_of (by omega) rfl rfl
theorem m_rX5 {z : Nat} {X : pX} : zgR (hp z X) (z + 1272) 6 5 = some (z + 1275) := gR_of (by omega) rfl rfl
theorem m_rX6 {z : Nat} {X : pX} : zgR (hp z X) (z + 1272) 6 6 = some (z + 1276) := gR_of (by omega) rfl rfl
theorem m_rX7 {z : Nat} {X : pX} : zgR (hp z X) (z + 1272) 6 7 = some (z + 1277) := gR_of (by omega) rfl rfl
theorem m_iX {z : Nat} {X : pX} : zis (hp z X) (z + 1272) 6 = true := is_of (by omega) rfl
theorem m_ld1273 {z : Nat} {X : pX} {i : Nat} (hi : i < 60) : zld (hp z X) (z + 1273) 1 (nI i) = some (X.1 1273 i) := ld_of (by omega) rfl (by omega) hi
theorem m_st1273 {z : Nat} {X : pX} {i : Nat} {v : Int32} (hi : i < 60) : zst (hp z X) (z + 1273) 1 (nI i) v = some (hp z (sV X.1 1273 (upd (X.1 1273) i v), X.2)) := st_of (n := 60) (by omega) (fun f => rfl) (by omega) hi
theorem m_ld1274 {z : Nat} {X : pX} {i : Nat} (hi : i < 6) : zld (hp z X) (z + 1274) 0 (nI i) = some (X.1 1274 i) := ld_of (by omega) rfl (by omega) hi
theorem m_st1274 {z : Nat} {X : pX} {i : Nat} {v : Int32} (hi : i < 6) : zst (hp z X) (z + 1274) 0 (nI i) v = some (hp z (sV X.1 1274 (upd (X.1 1274) i v), X.2)) := st_of (n := 6) (by omega) (fun f => rfl) (by omega) hi
theorem m_ld1275 {z : Nat} {X : pX} {i : Nat} (hi : i < 6) : zld (hp z X) (z + 1275) 0 (nI i) = some (X.1 1275 i) := ld_of (by omega) rfl (by omega) hi
theorem m_st1275 {z : Nat} {X : pX} {i : Nat} {v : Int32} (hi : i < 6) : zst (hp z X) (z + 1275) 0 (nI i) v = some (hp z (sV X.1 1275 (upd (X.1 1275) i v), X.2)) := st_of (n := 6) (by omega) (fun f => rfl) (by omega) hi
theorem m_ld1276 {z : Nat} {X : pX} {i : Nat} (hi : i < 6) : zld (hp z X) (z + 1276) 0 (nI i) = some (X.1 1276 i) := ld_of (by omega) rfl (by omega) hi
theorem m_st1276 {z : Nat} {X : pX} {i : Nat} {v : Int32} (hi : i < 6) : zst (hp z X) (z + 1276) 0 (nI i) v = some (hp z (sV X.1 1276 (upd (X.1 1276) i v), X.2)) := st_of (n := 6) (by omega) (fun f => rfl) (by omega) hi
theorem m_ld1277 {z : Nat} {X : pX} {i : Nat} (hi : i < 6) : zld (hp z X) (z + 1277) 0 (nI i) = some (X.1 1277 i) := ld_of (by omega) rfl (by omega) hi
theorem m_st1277 {z : Nat} {X : pX} {i : Nat} {v : Int32} (hi : i < 6) : zst (hp z X) (z + 1277) 0 (nI i) v = some (hp z (sV X.1 1277 (upd (X.1 1277) i v), X.2)) := st_of (n := 6) (by omega) (fun f => rfl) (by omega) hi
theorem m_ldH {z : Nat} {X : pX} {i : Nat} (hi : i < 4) : zldR (hp z X) (z + 547) 5 (nI i) = some (z + X.2.2 i) := ldR_of (by omega) rfl (by omega) hi (if_pos hi)
