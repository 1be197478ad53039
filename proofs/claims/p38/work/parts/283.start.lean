/-! what both objects hold at first -/
def V00 (o : Nat) : Nat → Int32 := if 3 ≤ o ∧ o < 546 then Fi0 ((o - 3) % 181) else if 548 ≤ o ∧ o < 1272 then Fi0 ((o - 548) % 181) else fun _ => 0
def X00 : pX := (V00, (fun _ => id), fun i => 548 + 181 * i)
theorem v0_B {B o : Nat} (hb : isB B) (ho : o < 181) : V00 (B + o) = Fi0 o := by
  unfold isB at hb
  unfold V00
  rcases hb with rfl | rfl | rfl | rfl | rfl | rfl | rfl
  · rw [if_pos ⟨by omega, by omega⟩, show (3 + o - 3) % 181 = o by omega]
  · rw [if_pos ⟨by omega, by omega⟩, show (184 + o - 3) % 181 = o by omega]
  · rw [if_pos ⟨by omega, by omega⟩, show (365 + o - 3) % 181 = o by omega]
  · rw [if_neg (by omega), if_pos ⟨by omega, by omega⟩, show (548 + o - 548) % 181 = o by omega]
  · rw [if_neg (by omega), if_pos ⟨by omega, by omega⟩, show (729 + o - 548) % 181 = o by omega]
  · rw [if_neg (by omega), if_pos ⟨by omega, by omega⟩, show (910 + o - 548) % 181 = o by omega]
  · rw [if_neg (by omega), if_pos ⟨by omega, by omega⟩, show (1091 + o - 548) % 181 = o by omega]
theorem v0_z {o : Nat} (h : ¬ (3 ≤ o ∧ o < 546) ∧ ¬ (548 ≤ o ∧ o < 1272) ) : V00 o = fun _ => 0 := by
  unfold V00
  rw [if_neg h.1, if_neg h.2]
theorem rws00 : rws X00.1 = 0 := by
  show (V00 2000 0).toNatClampNeg = 0
  rw [v0_z (o := 2000) (by omega)]
  rfl
theorem pic_hp {z : Nat} {P : Nat → zCl} {X : pX} (h0 : rws X.1 = 0) (h : ∀ o, o < 1278 → P o = shp z (X.1 o) X.2.1 X.2.2 o) : pic z 1278 P = hp z X := by
  have g := pic_cg (z := z) (P' := fun o => shp z (X.1 o) X.2.1 X.2.2 o) h
  rw [g]
  unfold hp
  rw [h0]
  rfl
theorem made {L : Nat} {xs : Nat → Int32} {sz : Nat} : f_L L xs (sz, fun _ => none) = f_L_10 L xs 27 sz 0 (hp sz X00) := by
  have e0 : zadd (sz, fun _ => none) (.inr (.inr (7, [.null, .null, .null, .null, .null, .int 0]))) = pic sz 1 (fun _ => .inr (.inr (7, [.null, .null, .null, .null, .null, .int 0]))) := by
    unfold zadd pic
    refine Prod.ext rfl ?_
    funext a
    dsimp only
    by_cases c : a = sz
    · rw [if_pos c, if_pos ⟨by omega, by omega⟩]
    · rw [if_neg c, if_neg (by omega)]
  obtain ⟨P7, a1, f0, f1, f2, f3, f4, f5, f6, f7, f8, f9⟩ := p_X7 (z := sz) (P := fun _ => .inr (.inr (7, [.null, .null, .null, .null, .null, .int 0]))) rfl
  have H : pic sz 1278 P7 = hp sz X00 := by
    refine pic_hp rws00 (fun o ho => ?_)
    have zz : ∀ o, (¬ (3 ≤ o ∧ o < 546) ∧ ¬ (548 ≤ o ∧ o < 1272)) → X00.1 o = fun _ => 0 := fun o h => v0_z h
    have bb : ∀ B o, isB B → o < 181 → P7 (B + o) = shS sz B (Fi0 o) id o → P7 (B + o) = shp sz (X00.1 (B + o)) X00.2.1 X00.2.2 (B + o) := fun B o hb h1 h2 => by
      rw [h2, shp_B hb h1, show X00.1 (B + o) = Fi0 o from v0_B hb h1]
      rfl
    rcases (show o = 0 ∨ o = 1 ∨ o = 2 ∨ (3 ≤ o ∧ o < 546) ∨ o = 546 ∨ o = 547 ∨ (548 ≤ o ∧ o < 1272) ∨ o = 1272 ∨ o = 1273 ∨ (1274 ≤ o ∧ o < 1278) by omega) with rfl | rfl | rfl | c | rfl | rfl | c | rfl | rfl | c
    · rw [f0, zz _ (by omega)]; rfl
    · rw [f1, zz _ (by omega)]; rfl
    · rw [f2, zz _ (by omega)]; rfl
    · rcases (show (∃ o', o = 3 + o' ∧ o' < 181) ∨ (∃ o', o = 184 + o' ∧ o' < 181) ∨ ∃ o', o = 365 + o' ∧ o' < 181 by
          rcases (show o < 184 ∨ (184 ≤ o ∧ o < 365) ∨ 365 ≤ o by omega) with d | d | d
          · exact Or.inl ⟨o - 3, by omega, by omega⟩
          · exact Or.inr (Or.inl ⟨o - 184, by omega, by omega⟩)
          · exact Or.inr (Or.inr ⟨o - 365, by omega, by omega⟩)) with ⟨o', rfl, h'⟩ | ⟨o', rfl, h'⟩ | ⟨o', rfl, h'⟩
      · exact bb 3 o' isB_3 h' (f3 o' h').1
      · exact bb 184 o' isB_184 h' (f3 o' h').2.1
      · exact bb 365 o' isB_365 h' (f3 o' h').2.2
    · rw [f4, zz _ (by omega)]; rfl
    · rw [f5]; rfl
    · obtain ⟨i, o', rfl, hi, h'⟩ : ∃ i o', o = 548 + 181 * i + o' ∧ i < 4 ∧ o' < 181 := ⟨(o - 548) / 181, (o - 548) % 181, by omega, by omega, by omega⟩
      exact bb (548 + 181 * i) o' (by unfold isB; omega) h' (f6 i hi o' h')
    · rw [f7, zz _ (by omega)]; rfl
    · rw [f8, zz _ (by omega)]; rfl
    · rw [f9 o (by omega) (by omega), zz _ (by omega)]
      unfold shp
      rw [if_neg (by omega), if_neg (by omega), if_neg (by omega), if_neg (by omega), if_neg (by omega), if_neg (by omega), if_neg (by omega), if_neg (by omega), if_neg (by omega), if_pos (by omega)]
  unfold f_L
  rw [znm_e, znm_e, e0, a1, b_s, H]
def s00 (i : Nat) : Nat := if i = 4 then 10 else if i = 5 then 6 else if i = 6 then 77 else if i = 7 then 1 else if i = 8 then 48 else 0
theorem s00_z {i : Nat} (h : i < 4 ∨ 8 < i) : s00 i = 0 := by
  unfold s00
  rw [if_neg (by omega), if_neg (by omega), if_neg (by omega), if_neg (by omega), if_neg (by omega)]
theorem s00_s {i : Nat} (h : i < 5) : zT1 i = nI (s00 (4 + i)) := by
  rcases (show i = 0 ∨ i = 1 ∨ i = 2 ∨ i = 3 ∨ i = 4 by omega) with rfl | rfl | rfl | rfl | rfl
  · exact lit_10
  · exact lit_6
  · exact lit_77
  · exact lit_1
  · exact lit_48
theorem PS00 : PS s00 id := by
  have z := fun i h => s00_z (i := i) h
  have rB : RB s00 := by
    refine ⟨⟨?_, ?_, ?_, ⟨?_, ?_, ?_, ?_, ?_⟩, fun m hm q hq => ?_⟩, fun k hk => ?_, fun k hk m hm => ?_, fun q hq => ⟨?_, fun i hi => ?_⟩⟩
    · rw [z 0 (by omega)]; omega
    · rw [z 1 (by omega)]; omega
    · rw [z 2 (by omega)]; omega
    · show 10 ≤ 20; omega
    · show 6 ≤ 12; omega
    · show 77 ≤ 140; omega
    · show 1 ≤ 1; omega
    · show 48 ≤ 100; omega
    · rw [z _ (by omega)]; omega
    · rw [z (9 + 8 * k + 0) (by omega), z (9 + 8 * k + 1) (by omega), z (9 + 8 * k + 2) (by omega), z (9 + 8 * k + 3) (by omega), z (9 + 8 * k + 4) (by omega), z (9 + 8 * k + 5) (by omega), z (9 + 8 * k + 6) (by omega), z (9 + 8 * k + 7) (by omega)]
      omega
    · rw [z _ (by omega)]; omega
    · rw [z _ (by omega)]; omega
    · rw [z _ (by omega)]; omega
  have n1 : s00 1 = 0 := z 1 (by omega)
  have n2 : s00 2 = 0 := z 2 (by omega)
  have l0 : ∀ q, q < 4 → lsS s00 q = [] := fun q hq => by
    unfold lsS
    rw [z _ (by omega)]
    rfl
  refine ⟨⟨⟨rB, fun k m hk hm _ => ?_, fun k hk => by rw [n1] at hk; omega, fun k j hk => by rw [n1] at hk; omega⟩, fun k hk => by rw [n1] at hk; omega, ⟨fun m a b => ⟨z _ (by omega), z _ (by omega)⟩, ?_⟩, fun q hq => by rw [l0 q hq]; exact ⟨List.nodup_nil, fun x hx => by cases hx⟩, fun m hm => by rw [n2] at hm; omega⟩, ⟨fun r hr => by rw [n1] at hr; omega, fun r q hr => by rw [n1] at hr; omega⟩, fun r q _ hq => by rw [n1] at hq; omega⟩
  · rw [recS_20 hm]; exact z _ (by omega)
  · rw [z 3 (by omega)]
    have : ∀ n k, 0 = sA (fun m => s00 (969 + 6 * m + 5)) k n := fun n => by
      induction n with
      | zero => intro k; rfl
      | succ n ih => intro k; rw [sA_s, ← ih (k + 1), z _ (by omega)]
    exact this 12 0
theorem nI0 : (0 : Int32) = nI 0 := lit_0
theorem Rc00 : Rc X00 3 s00 id := by
  have b3 : ∀ o, o < 181 → X00.1 (3 + o) = Fi0 o := fun o ho => v0_B isB_3 ho
  have ord : Ord (id : Nat → Nat) := ⟨fun r h => h, fun r q _ _ h => h⟩
  have n1 : s00 1 = 0 := s00_z (by omega)
  refine ⟨ord, ⟨⟨?_, ?_, ?_, fun i hi => ?_⟩, fun r hr => ?_, fun k hk => ?_, fun q hq => ?_⟩, PS00.ug, PS00.sg, PS00.lg⟩
  · have e := congrFun (b3 0 (by omega)) 2
    rw [fi_z (by omega) (by omega)] at e
    rw [show s00 0 = 0 from s00_z (by omega)]
    exact e.trans lit_0
  · have e := congrFun (b3 0 (by omega)) 3
    rw [fi_z (by omega) (by omega)] at e
    rw [n1]
    exact e.trans lit_0
  · have e := congrFun (b3 0 (by omega)) 4
    rw [fi_z (by omega) (by omega)] at e
    rw [show s00 2 = 0 from s00_z (by omega)]
    exact e.trans lit_0
  · have e := congrFun (b3 1 (by omega)) i
    rw [fi_1] at e
    have e2 : evF 5 zT1 i = zT1 i := if_pos hi
    rw [e2, s00_s hi] at e
    exact e
  · have eU : UU s00 id r = emp := UU_ge (by rw [n1]; omega)
    rw [eU]
    refine ⟨fun i hi => ?_, fun q hq => ?_, fun m hm => ?_⟩
    · have e := congrFun (b3 (5 + 3 * r) (by omega)) i
      rw [fi_4 hr] at e
      refine e.trans ?_
      unfold emp
      by_cases c : i = 5
      · rw [if_pos c, if_pos c]; exact lit_3
      · rw [if_neg c, if_neg c, if_neg (by omega)]; exact lit_0
    · have e := congrFun (b3 (6 + 3 * r) (by omega)) q
      rw [fi_p hr] at e
      rw [emp_n (by omega)]
      exact e.trans lit_0
    · have e := congrFun (b3 (7 + 3 * r) (by omega)) m
      rw [fi_r hr] at e
      rw [emp_n (by omega), rl_0]
      have e2 : evF 12 (fun _ => (-1 : Int32)) m = -1 := if_pos hm
      rw [e2] at e
      refine e.trans ?_
      rw [lit_1]
  · refine ⟨fun q hq => ?_, ?_, ?_⟩
    · have e := congrFun (b3 (150 + 2 * k) (by omega)) q
      rw [fi_z (by omega) (by omega)] at e
      rw [s00_z (by omega)]
      exact e.trans lit_0
    · have e := congrFun (b3 (149 + 2 * k) (by omega)) 1
      rw [fi_z (by omega) (by omega)] at e
      rw [s00_z (by omega)]
      exact e.trans lit_0
    · have e := congrFun (b3 (149 + 2 * k) (by omega)) 2
      rw [fi_z (by omega) (by omega)] at e
      rw [s00_z (by omega)]
      exact e.trans lit_0
  · have l0 : lsS s00 q = [] := by
      unfold lsS
      rw [s00_z (by omega)]
      rfl
    show LadC X00.1 3 q (lsS s00 q)
    rw [l0]
    refine ⟨?_, fun k x h => by simp at h⟩
    have e := congrFun (b3 (173 + 2 * q) (by omega)) 1
    rw [fi_z (by omega) (by omega)] at e
    exact e.trans lit_0
theorem Bc00 : Bc X00 (s00, id) [] none [] := by
  have zz : ∀ o i, (¬ (3 ≤ o ∧ o < 546) ∧ ¬ (548 ≤ o ∧ o < 1272)) → X00.1 o i = nI 0 := fun o i h => by
    rw [show X00.1 o = fun _ => 0 from v0_z h]
    exact lit_0
  have ord : Ord (id : Nat → Nat) := ⟨fun r h => h, fun r q _ _ h => h⟩
  exact ⟨Rc00, ⟨d0, ⟨fun t ht => zz 2 t (by omega), zz 1 1 (by omega), zz 1 2 (by omega), zz 1 3 (by omega)⟩, ⟨fun t => Nat.zero_le _, Nat.zero_le _, Nat.zero_le _, fun t _ => rfl⟩⟩, ord, ord, ⟨⟨fun i hi => ⟨by show isB (548 + 181 * i); unfold isB; omega, by show 548 ≤ 548 + 181 * i; omega⟩, fun i j hi hj h => by have h : 548 + 181 * i = 548 + 181 * j := h; omega⟩, zz 546 1 (by omega), by simp, fun i hi => ord, fun i a h => by simp at h⟩, zz 0 5 (by omega), zz 1272 1 (by omega), fun i a h => by simp at h⟩
theorem Pp00 : Pp (s00, id) [] none [] := ⟨PS00, fun q h => (List.not_mem_nil h).elim, fun q h => (nomatch h), Nat.zero_le _⟩
