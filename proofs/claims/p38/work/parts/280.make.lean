/-! the constructors: a heap that grows -/
def pic (z n : Nat) (P : Nat → zCl) : zHp := (z + n, fun a => if z ≤ a ∧ a < z + n then some (P (a - z)) else none)
def pu (P : Nat → zCl) (o : Nat) (c : zCl) : Nat → zCl := fun q => if q = o then c else P q
theorem pu_s {P : Nat → zCl} {o : Nat} {c : zCl} : pu P o c o = c := if_pos rfl
theorem pu_n {P : Nat → zCl} {o q : Nat} {c : zCl} (h : q ≠ o) : pu P o c q = P q := if_neg h
theorem pic_at {z n o : Nat} {P : Nat → zCl} (h : o < n) : (pic z n P).2 (z + o) = some (P o) := by
  unfold pic
  dsimp only
  rw [if_pos ⟨by omega, by omega⟩, Nat.add_sub_cancel_left]
theorem pic_cg {z n : Nat} {P P' : Nat → zCl} (h : ∀ o, o < n → P o = P' o) : pic z n P = pic z n P' := by
  unfold pic
  refine Prod.ext rfl ?_
  funext a
  dsimp only
  by_cases c : z ≤ a ∧ a < z + n
  · rw [if_pos c, if_pos c, h _ (by omega)]
  · rw [if_neg c, if_neg c]
theorem pic_add {z n : Nat} {P : Nat → zCl} {c : zCl} : zadd (pic z n P) c = pic z (n + 1) (pu P n c) := by
  unfold zadd pic
  refine Prod.ext rfl ?_
  funext a
  dsimp only
  by_cases d : a = z + n
  · have : a - z = n := by omega
    rw [if_pos d, if_pos ⟨by omega, by omega⟩, this, pu_s]
  · rw [if_neg d]
    by_cases e : z ≤ a ∧ a < z + n
    · rw [if_pos e, if_pos ⟨by omega, by omega⟩, pu_n (by omega)]
    · rw [if_neg e, if_neg (by omega)]
theorem pic_set {z n o : Nat} {P : Nat → zCl} {c : zCl} (h : o < n) : zset (pic z n P) (z + o) c = pic z n (pu P o c) := by
  unfold zset pic
  refine Prod.ext rfl ?_
  funext a
  dsimp only
  by_cases d : a = z + o
  · have : a - z = o := by omega
    rw [if_pos d, if_pos ⟨by omega, by omega⟩, this, pu_s]
  · rw [if_neg d]
    by_cases e : z ≤ a ∧ a < z + n
    · rw [if_pos e, if_pos e, pu_n (by omega)]
    · rw [if_neg e, if_neg e]
theorem p_ob {z n o ci : Nat} {fs : List Value} {P : Nat → zCl} (h : o < n) (e : P o = .inr (.inr (ci, fs))) : zob (pic z n P) (z + o) ci = some fs := by
  unfold zob
  rw [pic_at h, e]
  simp only [if_true]
theorem p_gR {z n o ci k v : Nat} {fs : List Value} {P : Nat → zCl} (h : o < n) (e : P o = .inr (.inr (ci, fs))) (hk : fs[k]? = some (.ref v)) : zgR (pic z n P) (z + o) ci k = some v := by
  unfold zgR
  rw [p_ob h e]
  dsimp only
  rw [hk]
theorem p_pV {z n o ci k : Nat} {v : Value} {fs : List Value} {P : Nat → zCl} (h : o < n) (e : P o = .inr (.inr (ci, fs))) (hk : k < fs.length) : zpV (pic z n P) (z + o) ci k v = some (pic z n (pu P o (.inr (.inr (ci, fs.set k v))))) := by
  unfold zpV
  rw [p_ob h e]
  dsimp only
  rw [if_pos hk, pic_set h]
theorem p_st {z n o kd len i : Nat} {i' v : Int32} {f : Nat → Int32} {P : Nat → zCl} (h : o < n) (e : P o = .inl (kd, len, f)) (hi : i < len) (hl : len < 2 ^ 31) (hi' : i' = nI i) : zst (pic z n P) (z + o) kd i' v = some (pic z n (pu P o (.inl (kd, len, upd f i v)))) := by
  rw [hi']
  unfold zst zar
  rw [pic_at h, e]
  simp only [if_true]
  rw [if_neg (nI_in hi hl), nI_clamp (by omega), pic_set h]
theorem p_stR {z n o q kd ci len i : Nat} {f : Nat → Option Nat} {fs : List Value} {P : Nat → zCl} (h : o < n) (e : P o = .inr (.inl (kd, len, f))) (h' : q < n) (e' : P q = .inr (.inr (ci, fs))) (hi : i < len) (hl : len < 2 ^ 31) : zstR (pic z n P) (z + o) kd ci (nI i) (z + q) = some (pic z n (pu P o (.inr (.inl (kd, len, va_up f i (some (z + q))))))) := by
  unfold zstR zrr
  rw [pic_at h, e, p_ob h' e']
  simp only [if_true]
  rw [if_neg (nI_in hi hl), nI_clamp (by omega), pic_set h]
theorem p_is {z n o ci : Nat} {fs : List Value} {P : Nat → zCl} (h : o < n) (e : P o = .inr (.inr (ci, fs))) : zis (pic z n P) (z + o) ci = true := by
  unfold zis
  rw [pic_at h, e]
  simp only [beq_self_eq_true]
/-- a row of its own for a field -/
theorem p_fld {z n o ci k : Nat} {fs : List Value} {P : Nat → zCl} {c : zCl} (h : o < n) (e : P o = .inr (.inr (ci, fs))) (hk : k < fs.length) : ∃ P', (∀ G : zHp → Option zHp, (znm (pic z n P).1 fun q => znm (zadd (pic z n P) c) fun h' => (zpV h' (z + o) ci k (.ref q)).bind G) = G (pic z (n + 1) P')) ∧ P' o = .inr (.inr (ci, fs.set k (.ref (z + n)))) ∧ P' n = c ∧ ∀ q, q ≠ o → q ≠ n → P' q = P q := by
  refine ⟨pu (pu P n c) o (.inr (.inr (ci, fs.set k (.ref (z + n))))), fun G => ?_, pu_s, by rw [pu_n (by omega), pu_s], fun q h1 h2 => by rw [pu_n h1, pu_n h2]⟩
  show (zpV (zadd (pic z n P) c) (z + o) ci k (.ref (z + n))).bind G = _
  rw [pic_add, p_pV (by omega) (show pu P n c o = _ by rw [pu_n (by omega)]; exact e) hk]
  rfl
/-- a field -/
theorem p_fldV {z n o ci k : Nat} {v : Value} {fs : List Value} {P : Nat → zCl} (h : o < n) (e : P o = .inr (.inr (ci, fs))) (hk : k < fs.length) : ∃ P', (∀ G : zHp → Option zHp, ((zpV (pic z n P) (z + o) ci k v).bind G) = G (pic z n P')) ∧ P' o = .inr (.inr (ci, fs.set k v)) ∧ ∀ q, q ≠ o → P' q = P q := by
  refine ⟨pu P o (.inr (.inr (ci, fs.set k v))), fun G => ?_, pu_s, fun q h1 => pu_n h1⟩
  rw [p_pV h e hk]
  rfl
/-- the text's object -/
theorem p_X6 {z : Nat} {P : Nat → zCl} (e : P 1272 = .inr (.inr (6, [.null, .int 0, .int 0, .int 0, .null, .null, .null, .null]))) : ∃ P', f_X6_init (z + 1272) (pic z 1273 P) = some (pic z 1278 P') ∧ P' 1272 = .inr (.inr (6, [.ref (z + 1273), .int 0, .int 0, .int 0, .ref (z + 1274), .ref (z + 1275), .ref (z + 1276), .ref (z + 1277)])) ∧ P' 1273 = .inl (1, 60, fun _ => 0) ∧ (∀ o, 1274 ≤ o → o < 1278 → P' o = .inl (0, 6, fun _ => 0)) ∧ ∀ o, o < 1272 → P' o = P o := by
  obtain ⟨P1, a1, b1, c1, d1⟩ := p_fld (z := z) (n := 1273) (k := 0) (c := .inl (1, 60, fun _ => 0)) (by omega) e (Nat.le_of_ble_eq_true rfl)
  obtain ⟨P2, a2, b2, c2, d2⟩ := p_fld (z := z) (n := 1274) (k := 4) (c := .inl (0, 6, fun _ => 0)) (by omega) b1 (Nat.le_of_ble_eq_true rfl)
  obtain ⟨P3, a3, b3, c3, d3⟩ := p_fld (z := z) (n := 1275) (k := 5) (c := .inl (0, 6, fun _ => 0)) (by omega) b2 (Nat.le_of_ble_eq_true rfl)
  obtain ⟨P4, a4, b4, c4, d4⟩ := p_fld (z := z) (n := 1276) (k := 6) (c := .inl (0, 6, fun _ => 0)) (by omega) b3 (Nat.le_of_ble_eq_true rfl)
  obtain ⟨P5, a5, b5, c5, d5⟩ := p_fld (z := z) (n := 1277) (k := 7) (c := .inl (0, 6, fun _ => 0)) (by omega) b4 (Nat.le_of_ble_eq_true rfl)
  refine ⟨P5, ?_, b5, ?_, fun o h1 h2 => ?_, fun o ho => ?_⟩
  · unfold f_X6_init
    rw [a1, a2, a3, a4, a5]
  · rw [d5 _ (by omega) (by omega), d4 _ (by omega) (by omega), d3 _ (by omega) (by omega), d2 _ (by omega) (by omega), c1]
  · rcases (show o = 1274 ∨ o = 1275 ∨ o = 1276 ∨ o = 1277 by omega) with rfl | rfl | rfl | rfl
    · rw [d5 _ (by omega) (by omega), d4 _ (by omega) (by omega), d3 _ (by omega) (by omega), c2]
    · rw [d5 _ (by omega) (by omega), d4 _ (by omega) (by omega), c3]
    · rw [d5 _ (by omega) (by omega), c4]
    · rw [c5]
  · rw [d5 _ (by omega) (by omega), d4 _ (by omega) (by omega), d3 _ (by omega) (by omega), d2 _ (by omega) (by omega), d1 _ (by omega) (by omega)]
