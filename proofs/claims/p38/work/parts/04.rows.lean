section ZR
variable {p : Program} {l : Launch} {e : Env} {R : Room} {s : State} {m : MethodId} {args : Array Value} {below : List Frame} {meth : Method} {c : Code} {H : Heap} {locs : List Loc} {cells slots : Nat} {Q : State → Prop}
variable {cc : ByteArray} {nL : Nat} {own : String} {G : zG} {h : zHp} {pc : Nat} {ls : Array Slot} {rest : List Value} {a : Nat} {α : Type} {out : α} {idx ci k : Nat}
theorem z_getI (Z : zF p s m args c meth cc nL own G) (E : zE G s h H locs) (q : zFld own idx ci k) (hdg : decode cc pc = .ok (.getfield idx, 3)) {F : Int32 → Option α} (hf : (zgI h a ci k).bind F = some out)
    (kk : ∀ v, F v = some out → W p l e R s m args below meth c H locs cells slots Q (F0 m (pc + 3) ls (.int v :: rest))) : W p l e R s m args below meth c H locs cells slots Q (F0 m pc ls (.ref a :: rest)) := by
  obtain ⟨v, hv, hf⟩ := zbind hf
  obtain ⟨C, T, N, h1, h2, h3, h4, h5⟩ := q
  unfold zgI at hv
  split at hv
  · rename_i fs hfs
    split at hv
    · rename_i v' hv'
      cases hv
      exact va_get (fs := fs) Z.x Z.b Z.ts h3 Z.ow Z.K (zP1 E.1 (zob_inv hfs)) 0 rfl h1 k h2 (Z.ts _ h4) (fun x hx => by rw [h5] at hx; exact hx) hv' hdg (kk _ hf)
    · cases hv
  · cases hv
theorem z_getR (Z : zF p s m args c meth cc nL own G) (E : zE G s h H locs) (q : zFld own idx ci k) (hdg : decode cc pc = .ok (.getfield idx, 3)) {F : Nat → Option α} (hf : (zgR h a ci k).bind F = some out)
    (kk : ∀ v, F v = some out → W p l e R s m args below meth c H locs cells slots Q (F0 m (pc + 3) ls (.ref v :: rest))) : W p l e R s m args below meth c H locs cells slots Q (F0 m pc ls (.ref a :: rest)) := by
  obtain ⟨v, hv, hf⟩ := zbind hf
  obtain ⟨C, T, N, h1, h2, h3, h4, h5⟩ := q
  unfold zgR at hv
  split at hv
  · rename_i fs hfs
    split at hv
    · rename_i v' hv'
      cases hv
      exact va_get (fs := fs) Z.x Z.b Z.ts h3 Z.ow Z.K (zP1 E.1 (zob_inv hfs)) 0 rfl h1 k h2 (Z.ts _ h4) (fun x hx => by rw [h5] at hx; exact hx) hv' hdg (kk _ hf)
    · cases hv
  · cases hv
theorem z_put (Z : zF p s m args c meth cc nL own G) (E : zE G s h H locs) {ty : FieldType} {v : Value} (q : zPut own idx ci k false ty) (hn : narrow ty v = v) (hfit : fits ty v = true) (hdg : decode cc pc = .ok (.putfield idx, 3)) {F : zHp → Option α} (hf : (zpV h a ci k v).bind F = some out)
    (kk : ∀ (h1 : zHp) (H1 : Heap) (locs1 : List Loc), F h1 = some out → zE G s h1 H1 locs1 → W p l e R s m args below meth c H1 locs1 cells slots Q (F0 m (pc + 3) ls rest)) : W p l e R s m args below meth c H locs cells slots Q (F0 m pc ls (v :: .ref a :: rest)) := by
  obtain ⟨hx, hv, hf⟩ := zbind hf
  obtain ⟨C, T, N, ty0, hc, hk, hin, hl, hC, hty, hnm, hfin, hd, -⟩ := q
  unfold zpV at hv
  split at hv
  · rename_i fs hfs
    split at hv
    · rename_i hlen
      cases hv
      have ha := zob_inv hfs
      have hap := va_apart (own := own) Z.ts hin ty0 hty hnm Z.K hc
      obtain ⟨hlo, r, h1, cell, q1, q2, q3, q4⟩ := E.1.2.2 a _ ha
      have hr : r = (C, T, N) := Option.some.inj (h1.symm.trans hc)
      subst hr
      obtain ⟨hS, hfc, kC, hkC, hkind⟩ := Z.K.1 ci _ hc
      obtain ⟨cf, kf, fi, f, hi, hsl⟩ := hS k hk
      have hlay := Z.ts _ (hin _ (u_in_lay hk))
      unfold u_lay at hlay
      rw [if_neg (by rw [hfin]; decide)] at hlay
      have hst := (u_facts hfc hkC (u_lays Z.ts hin hk) hi).1
      have h6 := u_store hfc hkC hkind hlay hi hd hn hfit
      refine W.putK Z.x Z.b (f := f) ⟨Z.ow, Z.ts _ hl, ⟨_, _, _, by rw [← hC]; exact hi⟩, hst⟩ (by rw [q2]; exact h6) q1 q3 (by rw [hsl]; exact k2_hasslot (q4 k hk)) rfl rfl hdg fun H' e1 e2 e3 => ?_
      rw [hsl] at e1 ⊢
      exact kk _ H' _ hf ⟨zH_set E.1 ha ⟨_, hc, t_OB.to (V := updV (vp_V fs) k v) ⟨_, e1, q2, q3, t_set q4 hap hk v⟩ (fun j _ => vp_updV_set hlen v j)⟩ e2 e3, E.2.put e2 e3 hlo⟩
    · cases hv
  · cases hv
theorem z_putF (Z : zF p s m args c meth cc nL own G) (E : zE G s h H locs) (hin2 : meth.name = "<init>") {ty : FieldType} {v : Value} (q : zPut own idx ci k true ty) (hn : narrow ty v = v) (hfit : fits ty v = true) (hdg : decode cc pc = .ok (.putfield idx, 3)) {F : zHp → Option α} (hf : (zpV h a ci k v).bind F = some out)
    (kk : ∀ (h1 : zHp) (H1 : Heap) (locs1 : List Loc), F h1 = some out → zE G s h1 H1 locs1 → W p l e R s m args below meth c H1 locs1 cells slots Q (F0 m (pc + 3) ls rest)) : W p l e R s m args below meth c H locs cells slots Q (F0 m pc ls (v :: .ref a :: rest)) := by
  obtain ⟨hx, hv, hf⟩ := zbind hf
  obtain ⟨C, T, N, ty0, hc, hk, hin, hl, hC, hty, hnm, hfin, hd, hCo⟩ := q
  have hCo := hCo rfl
  unfold zpV at hv
  split at hv
  · rename_i fs hfs
    split at hv
    · rename_i hlen
      cases hv
      have ha := zob_inv hfs
      have hap := va_apart (own := own) Z.ts hin ty0 hty hnm Z.K hc
      obtain ⟨hlo, r, h1, cell, q1, q2, q3, q4⟩ := E.1.2.2 a _ ha
      have hr : r = (C, T, N) := Option.some.inj (h1.symm.trans hc)
      subst hr
      obtain ⟨hS, hfc, kC, hkC, hkind⟩ := Z.K.1 ci _ hc
      obtain ⟨cf, kf, fi, f, hi, hsl⟩ := hS k hk
      have hlay := Z.ts _ (hin _ (u_in_lay hk))
      unfold u_lay at hlay
      rw [if_pos hfin] at hlay
      have hst := (u_facts hfc hkC (u_lays Z.ts hin hk) hi).1
      have hcf : m.cls = cf := by
        obtain ⟨_, _, c', _, _, _, -, -, hf', -, -, -, hown2, -⟩ := Cond.laysFinal_spec hlay
        have e1 : c' = cf := by have := hi.symm.trans hf'; simp at this; exact this.1.symm
        rw [hC, hCo] at hown2
        rw [← e1]; exact Option.some.inj (Z.ow.symm.trans hown2)
      have h6 := u_fits hfc hkC hkind (Or.inr hlay) hi hd hn hfit
      refine W.putFinK Z.x Z.b Z.ow (Z.ts _ hl) (by rw [← hC]; exact hi) hst hcf hin2 (by rw [q2]; exact h6) q1 q3 (by rw [hsl]; exact k2_hasslot (q4 k hk)) rfl rfl hdg fun H' e1 e2 e3 => ?_
      rw [hsl] at e1 ⊢
      exact kk _ H' _ hf ⟨zH_set E.1 ha ⟨_, hc, t_OB.to (V := updV (vp_V fs) k v) ⟨_, e1, q2, q3, t_set q4 hap hk v⟩ (fun j _ => vp_updV_set hlen v j)⟩ e2 e3, E.2.put e2 e3 hlo⟩
    · cases hv
  · cases hv
-- rows of ints, of chars
theorem z_iald (Z : zF p s m args c meth cc nL own G) (E : zE G s h H locs) {i : Int32} (hdg : decode cc pc = .ok (.iaload, 1)) {F : Int32 → Option α} (hf : (zld h a 0 i).bind F = some out)
    (kk : ∀ v, F v = some out → W p l e R s m args below meth c H locs cells slots Q (F0 m (pc + 1) ls (.int v :: rest))) : W p l e R s m args below meth c H locs cells slots Q (F0 m pc ls (.int i :: .ref a :: rest)) := by
  obtain ⟨v, hv, hf⟩ := zbind hf
  unfold zld at hv
  split at hv
  · rename_i x hx
    split at hv
    · cases hv
    · rename_i hin
      cases hv
      exact va_iald Z.x Z.b Z.K (zP1 E.1 (zar_inv hx)) 0 0 (n := x.1) (f := x.2) rfl (cA := G.2.1 0) rfl hin hdg (kk _ hf)
  · cases hv
theorem z_cald (Z : zF p s m args c meth cc nL own G) (E : zE G s h H locs) {i : Int32} (hdg : decode cc pc = .ok (.caload, 1)) {F : Int32 → Option α} (hf : (zld h a 1 i).bind F = some out)
    (kk : ∀ v, F v = some out → W p l e R s m args below meth c H locs cells slots Q (F0 m (pc + 1) ls (.int v :: rest))) : W p l e R s m args below meth c H locs cells slots Q (F0 m pc ls (.int i :: .ref a :: rest)) := by
  obtain ⟨v, hv, hf⟩ := zbind hf
  unfold zld at hv
  split at hv
  · rename_i x hx
    split at hv
    · cases hv
    · rename_i hin
      cases hv
      exact va_cald Z.x Z.b Z.K (zP1 E.1 (zar_inv hx)) 0 1 (n := x.1) (f := x.2) rfl (cA := G.2.1 1) rfl hin hdg (kk _ hf)
  · cases hv
theorem z_iast (Z : zF p s m args c meth cc nL own G) (E : zE G s h H locs) {i v : Int32} (hdg : decode cc pc = .ok (.iastore, 1)) {F : zHp → Option α} (hf : (zst h a 0 i v).bind F = some out)
    (kk : ∀ (h1 : zHp) (H1 : Heap) (locs1 : List Loc), F h1 = some out → zE G s h1 H1 locs1 → W p l e R s m args below meth c H1 locs1 cells slots Q (F0 m (pc + 1) ls rest)) : W p l e R s m args below meth c H locs cells slots Q (F0 m pc ls (.int v :: .int i :: .ref a :: rest)) := by
  obtain ⟨hx, hv, hf⟩ := zbind hf
  unfold zst at hv
  split at hv
  · rename_i x hx
    split at hv
    · cases hv
    · rename_i hin
      cases hv
      have ha := zar_inv hx
      obtain ⟨hlo, hat⟩ := E.1.2.2 a _ ha
      refine W.iast Z.x Z.b (show H[a]? = some (vp_cell (G.2.1 0) (x.1, .inl x.2)) from hat) ((Z.K.2 0 (G.2.1 0, .int) rfl).1 x.1 (fun j => .int (x.2 j))) (fun q => by cases q) (by show ¬ (i < 0 ∨ (arrV _ _ _).slots.size ≤ _); rw [arrV_size]; exact hin) rfl rfl hdg fun H1 e z oq => ?_
      refine kk _ H1 _ hf ⟨zH_set E.1 ha ?_ z oq, E.2.put z oq hlo⟩
      show H1[a]? = some (vp_cell _ _)
      rw [e]
      rw [vp_cell_i, vp_cell_i, arrV_store]
      congr 2
      funext q
      by_cases hq : q = i.toNatClampNeg
      · subst hq
        simp [updV, upd]
      · simp [updV, upd, hq]
  · cases hv
theorem z_cast (Z : zF p s m args c meth cc nL own G) (E : zE G s h H locs) {i v : Int32} (hdg : decode cc pc = .ok (.castore, 1)) {F : zHp → Option α} (hf : (zst h a 1 i (vp_nar .char v)).bind F = some out)
    (kk : ∀ (h1 : zHp) (H1 : Heap) (locs1 : List Loc), F h1 = some out → zE G s h1 H1 locs1 → W p l e R s m args below meth c H1 locs1 cells slots Q (F0 m (pc + 1) ls rest)) : W p l e R s m args below meth c H locs cells slots Q (F0 m pc ls (.int v :: .int i :: .ref a :: rest)) := by
  obtain ⟨hx, hv, hf⟩ := zbind hf
  unfold zst at hv
  split at hv
  · rename_i x hx
    split at hv
    · cases hv
    · rename_i hin
      cases hv
      have ha := zar_inv hx
      obtain ⟨hlo, hat⟩ := E.1.2.2 a _ ha
      refine W.cast Z.x Z.b (show H[a]? = some (vp_cell (G.2.1 1) (x.1, .inl x.2)) from hat) ((Z.K.2 1 (G.2.1 1, .char) rfl).1 x.1 (fun j => .int (x.2 j))) (fun q => by cases q) (by show ¬ (i < 0 ∨ (arrV _ _ _).slots.size ≤ _); rw [arrV_size]; exact hin) rfl rfl hdg fun H1 e z oq => ?_
      refine kk _ H1 _ hf ⟨zH_set E.1 ha ?_ z oq, E.2.put z oq hlo⟩
      show H1[a]? = some (vp_cell _ _)
      rw [e]
      rw [vp_cell_i, vp_cell_i, arrV_store]
      congr 2
      funext q
      by_cases hq : q = i.toNatClampNeg
      · subst hq
        simp [updV, upd, vp_nar]
        try rfl
      · simp [updV, upd, hq]
  · cases hv
theorem z_aald (Z : zF p s m args c meth cc nL own G) (E : zE G s h H locs) {i : Int32} {kd : Nat} {C : String} (hkd : (ztys G.2.1)[kd]? = some (G.2.1 kd, .object C)) (hdg : decode cc pc = .ok (.aaload, 1)) {F : Nat → Option α} (hf : (zldR h a kd i).bind F = some out)
    (kk : ∀ v, F v = some out → W p l e R s m args below meth c H locs cells slots Q (F0 m (pc + 1) ls (.ref v :: rest))) : W p l e R s m args below meth c H locs cells slots Q (F0 m pc ls (.int i :: .ref a :: rest)) := by
  obtain ⟨v, hv, hf⟩ := zbind hf
  unfold zldR at hv
  split at hv
  · rename_i x hx
    split at hv
    · cases hv
    · rename_i hin
      refine va_aldq Z.x Z.b Z.K (zP1 E.1 (zrr_inv hx)) 0 kd (n := x.1) (f := x.2) rfl hkd hin hdg ?_
      rw [hv]
      exact kk _ hf
  · cases hv
theorem z_aast (Z : zF p s m args c meth cc nL own G) (E : zE G s h H locs) {i : Int32} {kd ci v : Nat} {r : vw_C} (hkd : (ztys G.2.1)[kd]? = some (G.2.1 kd, .object r.1)) (hc : zcl[ci]? = some r) (hdg : decode cc pc = .ok (.aastore, 1)) {F : zHp → Option α} (hf : (zstR h a kd ci i v).bind F = some out)
    (kk : ∀ (h1 : zHp) (H1 : Heap) (locs1 : List Loc), F h1 = some out → zE G s h1 H1 locs1 → W p l e R s m args below meth c H1 locs1 cells slots Q (F0 m (pc + 1) ls rest)) : W p l e R s m args below meth c H locs cells slots Q (F0 m pc ls (.ref v :: .int i :: .ref a :: rest)) := by
  obtain ⟨hx, hv, hf⟩ := zbind hf
  unfold zstR at hv
  split at hv
  · rename_i x fs hx hfs
    split at hv
    · cases hv
    · rename_i hin
      cases hv
      have ha := zrr_inv hx
      obtain ⟨hlo, hat⟩ := E.1.2.2 a _ ha
      have hlt : i.toNatClampNeg < x.1 := Nat.not_le.mp fun q => hin (Or.inr q)
      have h0 : ¬ i < 0 := fun q => hin (Or.inl q)
      obtain ⟨-, r', hr', cellV, g1, g2, g3, -⟩ := E.1.2.2 v _ (zob_inv hfs)
      have hcls := (Z.K.1 ci r hc).2
      obtain ⟨kA, comp, k1, k2, k3, -⟩ := (Z.K.2 kd _ hkd).2
      have hcomp : comp = G.1.1 ci := Option.some.inj (k3.symm.trans hcls.1)
      subst hcomp
      obtain ⟨kC, hkC, -⟩ := hcls.2
      refine W.aast Z.x Z.b (show H[a]? = some (vp_cell (G.2.1 kd) (x.1, .inr (.inr (.inr (.inr x.2))))) from hat) (fun q h => by cases h) (fun h => by cases h) k1 k2 rfl hkC ⟨h0, by show _ < (arrV _ _ _).slots.size; rw [arrV_size]; exact hlt⟩ g1 (fun q h => by rw [g3] at h; cases h) (by rw [g2]; exact hkC) (by rw [g2]; exact va_assign hcls) rfl rfl hdg fun H1 e z oq => ?_
      refine kk _ H1 _ hf ⟨zH_set E.1 ha ?_ z oq, E.2.put z oq hlo⟩
      show H1[a]? = some (vp_cell _ _)
      rw [e]
      rw [vp_cell_q, vp_cell_q, arrV_store]
      congr 2
      funext q
      by_cases hq : q = i.toNatClampNeg
      · subst hq
        simp [updV, va_up, va_rf]
      · simp [updV, va_up, hq]
  · cases hv
theorem z_alenI (Z : zF p s m args c meth cc nL own G) (E : zE G s h H locs) {kd : Nat} {ty : FieldType} (hkd : (ztys G.2.1)[kd]? = some (G.2.1 kd, ty)) (hdg : decode cc pc = .ok (.arraylength, 1)) {F : Int32 → Option α} (hf : (zlnI h a kd).bind F = some out)
    (kk : ∀ v, F v = some out → W p l e R s m args below meth c H locs cells slots Q (F0 m (pc + 1) ls (.int v :: rest))) : W p l e R s m args below meth c H locs cells slots Q (F0 m pc ls (.ref a :: rest)) := by
  obtain ⟨v, hv, hf⟩ := zbind hf
  unfold zlnI at hv
  split at hv
  · rename_i x hx
    cases hv
    exact va_alen Z.x Z.b Z.K (zP1 E.1 (zar_inv hx)) 0 kd (x := (x.1, .inl x.2)) rfl hkd rfl hdg (kk _ hf)
  · cases hv
theorem z_alenR (Z : zF p s m args c meth cc nL own G) (E : zE G s h H locs) {kd : Nat} {ty : FieldType} (hkd : (ztys G.2.1)[kd]? = some (G.2.1 kd, ty)) (hdg : decode cc pc = .ok (.arraylength, 1)) {F : Int32 → Option α} (hf : (zlnR h a kd).bind F = some out)
    (kk : ∀ v, F v = some out → W p l e R s m args below meth c H locs cells slots Q (F0 m (pc + 1) ls (.int v :: rest))) : W p l e R s m args below meth c H locs cells slots Q (F0 m pc ls (.ref a :: rest)) := by
  obtain ⟨v, hv, hf⟩ := zbind hf
  unfold zlnR at hv
  split at hv
  · rename_i x hx
    cases hv
    exact va_alen Z.x Z.b Z.K (zP1 E.1 (zrr_inv hx)) 0 kd (x := (x.1, .inr (.inr (.inr (.inr x.2))))) rfl hkd rfl hdg (kk _ hf)
  · cases hv
-- numbers
theorem z_idiv (Z : zF p s m args c meth cc nL own G) {x y : Int32} (hdg : decode cc pc = .ok (.idiv, 1)) {F : Int32 → Option α} (hf : (zdiv x y).bind F = some out)
    (kk : ∀ v, F v = some out → W p l e R s m args below meth c H locs cells slots Q (F0 m (pc + 1) ls (.int v :: rest))) : W p l e R s m args below meth c H locs cells slots Q (F0 m pc ls (.int y :: .int x :: rest)) := by
  obtain ⟨v, hv, hf⟩ := zbind hf
  unfold zdiv at hv
  split at hv
  · cases hv
  · rename_i hne; cases hv; exact lv_idiv Z.x Z.b hdg hne (kk _ hf)
theorem z_irem (Z : zF p s m args c meth cc nL own G) {x y : Int32} (hdg : decode cc pc = .ok (.irem, 1)) {F : Int32 → Option α} (hf : (zrem x y).bind F = some out)
    (kk : ∀ v, F v = some out → W p l e R s m args below meth c H locs cells slots Q (F0 m (pc + 1) ls (.int v :: rest))) : W p l e R s m args below meth c H locs cells slots Q (F0 m pc ls (.int y :: .int x :: rest)) := by
  obtain ⟨v, hv, hf⟩ := zbind hf
  unfold zrem at hv
  split at hv
  · cases hv
  · rename_i hne; cases hv; exact lv_irem Z.x Z.b hdg hne (kk _ hf)
-- a reference that may be null
theorem z_ifnonnull (Z : zF p s m args c meth cc nL own G) {x : Option Nat} {off : Int} {tgt : Nat} (hdg : decode cc pc = .ok (.ifnonnull off, 3)) (ht : (pc : Int) + off = (tgt : Int)) {n : Option α} {F : Nat → Option α} (hf : zopt x n F = some out)
    (kn : x = none → n = some out → W p l e R s m args below meth c H locs cells slots Q (F0 m (pc + 3) ls rest)) (ks : ∀ y, x = some y → F y = some out → W p l e R s m args below meth c H locs cells slots Q (F0 m tgt ls rest)) : W p l e R s m args below meth c H locs cells slots Q (F0 m pc ls (va_rf x :: rest)) := by
  cases x with
  | none => exact lv_ifnonnullN Z.x Z.b hdg (kn rfl hf)
  | some y => exact lv_ifnonnull Z.x Z.b hdg ht (ks y rfl hf)
theorem z_ifnull (Z : zF p s m args c meth cc nL own G) {x : Option Nat} {off : Int} {tgt : Nat} (hdg : decode cc pc = .ok (.ifnull off, 3)) (ht : (pc : Int) + off = (tgt : Int)) {n : Option α} {F : Nat → Option α} (hf : zopt x n F = some out)
    (kn : x = none → n = some out → W p l e R s m args below meth c H locs cells slots Q (F0 m tgt ls rest)) (ks : ∀ y, x = some y → F y = some out → W p l e R s m args below meth c H locs cells slots Q (F0 m (pc + 3) ls rest)) : W p l e R s m args below meth c H locs cells slots Q (F0 m pc ls (va_rf x :: rest)) := by
  cases x with
  | none => exact lv_ifnullN Z.x Z.b hdg ht (kn rfl hf)
  | some y => exact lv_ifnull Z.x Z.b hdg (ks y rfl hf)
theorem zca (r : Option Nat) : (va_rf r).category = 1 := by cases r <;> rfl
-- loads and stores of a reference that may be null
theorem z_aload (Z : zF p s m args c meth cc nL own G) {i : Nat} {x : Option Nat} (hdg : decode cc pc = .ok (.aload i, 2)) (hl : ls[i]? = some (.val (va_rf x)))
    (kk : W p l e R s m args below meth c H locs cells slots Q (F0 m (pc + 2) ls (va_rf x :: rest))) : W p l e R s m args below meth c H locs cells slots Q (F0 m pc ls rest) := by
  cases x with
  | none => exact lv_aloadN Z.x Z.b hdg hl kk
  | some y => exact lv_aload Z.x Z.b hdg hl kk
theorem z_aload_n (Z : zF p s m args c meth cc nL own G) {k : Fin 4} {i : Nat} {x : Option Nat} (hdg : decode cc pc = .ok (.aload_n k, 1)) (hi : (k : Nat) = i) (hl : ls[i]? = some (.val (va_rf x)))
    (kk : W p l e R s m args below meth c H locs cells slots Q (F0 m (pc + 1) ls (va_rf x :: rest))) : W p l e R s m args below meth c H locs cells slots Q (F0 m pc ls rest) := by
  cases x with
  | none => exact lv_aload_nN Z.x Z.b hdg hi hl kk
  | some y => exact lv_aload_n Z.x Z.b hdg hi hl kk
theorem z_astore_n (Z : zF p s m args c meth cc nL own G) {k : Fin 4} {i : Nat} {x : Option Nat} {lv lv' : List (Nat × Value)} (hdg : decode cc pc = .ok (.astore_n k, 1)) (hi : (k : Nat) = i) (hl : lv_has ls nL lv) (hn : i < nL) (hl' : (i, va_rf x) :: lv.filter (fun q => !(q.1 == i) && !(q.1 + 1 == i && q.2.category == 2)) = lv')
    (kk : ∀ ls' : Array Slot, lv_has ls' nL lv' → W p l e R s m args below meth c H locs cells slots Q (F0 m (pc + 1) ls' rest)) : W p l e R s m args below meth c H locs cells slots Q (F0 m pc ls (va_rf x :: rest)) := by
  cases x with
  | none => exact lv_astore_nN Z.x Z.b hdg hi hl hn hl' kk
  | some y => exact lv_astore_n Z.x Z.b hdg hi hl hn hl' kk
theorem z_astore (Z : zF p s m args c meth cc nL own G) {i : Nat} {x : Option Nat} {lv lv' : List (Nat × Value)} (hdg : decode cc pc = .ok (.astore i, 2)) (hl : lv_has ls nL lv) (hn : i < nL) (hl' : (i, va_rf x) :: lv.filter (fun q => !(q.1 == i) && !(q.1 + 1 == i && q.2.category == 2)) = lv')
    (kk : ∀ ls' : Array Slot, lv_has ls' nL lv' → W p l e R s m args below meth c H locs cells slots Q (F0 m (pc + 2) ls' rest)) : W p l e R s m args below meth c H locs cells slots Q (F0 m pc ls (va_rf x :: rest)) := by
  cases x with
  | none => exact lv_astoreN Z.x Z.b hdg hl hn hl' kk
  | some y => exact lv_astore Z.x Z.b hdg hl hn hl' kk
theorem z_copy (Z : zF p s m args c meth cc nL own G) (E : zE G s h H locs) (hml : ls.size = nL) (q1 : Cond.methodLink own idx arraycopyName ∈ zB) (q2 : Cond.native arraycopyName ∈ zB) (q3 : Cond.static arraycopyName ∈ zB) (q4 : Cond.initialized "java/lang/System" ∈ zB) {a0 : Nat} {sp dp n : Int32}
    (hframes : 1 ≤ R.frames) (hlocals : (rest.map fun v => v.category).sum + (nativeFrameWords "java/lang/System" "arraycopy" 5 + 11) ≤ R.locals) (hdg : decode cc pc = .ok (.invokestatic idx, 3)) {F : zHp → Option α} (hf : (zcopy h a0 sp a dp n).bind F = some out)
    (kk : ∀ (h1 : zHp) (H1 : Heap) (locs1 : List Loc), F h1 = some out → zE G s h1 H1 locs1 → W p l e R s m args below meth c H1 locs1 cells slots Q (F0 m (pc + 3) ls rest)) : W p l e R s m args below meth c H locs cells slots Q (F0 m pc ls (.int n :: .int dp :: .ref a :: .int sp :: .ref a0 :: rest)) := by
  obtain ⟨hx, hv, hf⟩ := zbind hf
  unfold zcopy at hv
  split at hv
  · rename_i x y hx hy
    split at hv
    · cases hv
    · rename_i hc
      cases hv
      have ha0 := zar_inv hx
      have ha1 := zar_inv hy
      obtain ⟨-, hc0⟩ := E.1.2.2 a0 _ ha0
      obtain ⟨hlo, hc1⟩ := E.1.2.2 a _ ha1
      have hc0 : H[a0]? = some (vp_cell (G.2.1 0) (x.1, .inl x.2)) := hc0
      have hc1 : H[a]? = some (vp_cell (G.2.1 0) (y.1, .inl y.2)) := hc1
      have h1 : ¬ sp < 0 := fun q => hc (Or.inr (Or.inl q))
      have h2 : ¬ dp < 0 := fun q => hc (Or.inr (Or.inr (Or.inl q)))
      have h3 : ¬ n < 0 := fun q => hc (Or.inr (Or.inr (Or.inr (Or.inl q))))
      have h4 : sp.toNatClampNeg + n.toNatClampNeg ≤ x.1 := Nat.not_lt.mp fun q => hc (Or.inr (Or.inr (Or.inr (Or.inr (Or.inl q)))))
      have h5 : dp.toNatClampNeg + n.toNatClampNeg ≤ y.1 := Nat.not_lt.mp fun q => hc (Or.inr (Or.inr (Or.inr (Or.inr (Or.inr q)))))
      have nn : ∀ z : Int32, ¬ z < 0 → z.toInt = (z.toNatClampNeg : Int) := by
        intro z hz
        have hz0 : (0 : Int) ≤ z.toInt := by
          have := Int32.not_lt.mp hz
          simpa using Int32.le_iff_toInt_le.mp this
        show z.toInt = ((z.toInt.toNat : Nat) : Int)
        omega
      intro T hT X
      obtain ⟨-, k0, hk0, cm0, hkk0⟩ := (Z.K.2 0 (G.2.1 0, .int) rfl).1 x.1 (fun j => .int (x.2 j))
      obtain ⟨vm', X', step⟩ := X.arraycopy Z.x Z.ow (Z.ts _ q1) (Z.ts _ q2) (Z.ts _ q3) (Z.ts _ q4) (src := a0) (dst := a) (cs := vp_cell (G.2.1 0) (x.1, .inl x.2)) (cd := vp_cell (G.2.1 0) (y.1, .inl y.2)) (srcPos := sp) (destPos := dp) (n := n) (by rw [hT]; exact hc0) (by rw [hT]; exact hc1)
        (fun _ h => by cases h) (fun _ h => by cases h) (fun h => by cases h) (fun h => by cases h) hk0 hk0 hkk0 hkk0 (by simp [refKind]) h1 h2 h3
        (by rw [nn sp h1, nn n h3]; show ¬ _ > ((arrV (G.2.1 0) x.1 (fun j => .int (x.2 j))).slots.size : Int); rw [arrV_size]; omega)
        (by rw [nn dp h2, nn n h3]; show ¬ _ > ((arrV (G.2.1 0) y.1 (fun j => .int (y.2 j))).slots.size : Int); rw [arrV_size]; omega)
        (fun vm₁ _ i hi => by
          have e : (vp_cell (G.2.1 0) (x.1, .inl x.2)).slots.getD (sp.toNatClampNeg + i) .null = .int (x.2 (sp.toNatClampNeg + i)) := by
            show (arrV (G.2.1 0) x.1 (fun j => .int (x.2 j))).slots.getD _ _ = _
            rw [Array.getD_eq_getD_getElem?, arrV_read _ _ (by omega)]
            rfl
          refine ⟨?_, ?_⟩
          · rw [e]
            rfl
          · rw [e]
            exact trivial)
        (g := F0 m pc ls (.int n :: .int dp :: .ref a :: .int sp :: .ref a0 :: rest)) rfl (by rw [Z.ml, ← hml]) (rest := rest) rfl (by rw [Z.b]; exact hdg) hframes (by show 2 * 0 + _ + _ ≤ _; omega)
      have e1 : copied (vp_cell (G.2.1 0) (x.1, .inl x.2)) (vp_cell (G.2.1 0) (y.1, .inl y.2)) sp dp n = vp_cell (G.2.1 0) (y.1, .inl (va_cpy x.2 y.2 sp.toNatClampNeg dp.toNatClampNeg n.toNatClampNeg)) := va_copied (fun z => .int z) _ _ x.2 y.2 h4
      rw [e1] at X' step
      have hl : a < H.size := (Array.getElem?_eq_some_iff.mp hc1).1
      have hheap : ((T.setVm vm').setCell a (vp_cell (G.2.1 0) (y.1, .inl (va_cpy x.2 y.2 sp.toNatClampNeg dp.toNatClampNeg n.toNatClampNeg)))).heap = H.setIfInBounds a (vp_cell (G.2.1 0) (y.1, .inl (va_cpy x.2 y.2 sp.toNatClampNeg dp.toNatClampNeg n.toNatClampNeg))) := by rw [← hT]; rfl
      have oq : ∀ q : Nat, q ≠ a → (H.setIfInBounds a (vp_cell (G.2.1 0) (y.1, .inl (va_cpy x.2 y.2 sp.toNatClampNeg dp.toNatClampNeg n.toNatClampNeg))))[q]? = H[q]? := fun q hq => by simp [Array.getElem?_setIfInBounds, Ne.symm hq]
      obtain ⟨t, a1, b1⟩ := kk _ _ _ hf ⟨zH_set E.1 ha1 (show (H.setIfInBounds a _)[a]? = some _ by simp [Array.getElem?_setIfInBounds, hl]) (by simp) oq, ⟨by simp; exact E.2.1, fun q g1 g2 => by
          rw [oq q (fun e => g2 (by rw [e]; exact hlo))]
          exact E.2.2.1 q g1 g2, fun q hq => by
          rcases List.mem_append.mp hq with h | h
          · exact E.2.2.2 q h
          · obtain ⟨z, -, hz⟩ := List.mem_map.mp h
            rw [← hz]
            exact hlo⟩⟩ _ hheap X'
      exact ⟨t, step t a1, b1⟩
  · cases hv
-- a place of a table of the class
theorem z_tab (Z : zF p s m args c meth cc nL own G) (E : zE G s h H locs) {n : String} {f : Nat → Int32} (hst : zSt1 G n f s s.heap) {pc2 : Nat} {i : Int32} (hlink : Cond.fieldLink own idx RX7 n "[I" ∈ zB) (hdg : decode cc pc = .ok (.getstatic idx, 3)) (hdg2 : decode cc pc2 = .ok (.iaload, 1)) {F : Int32 → Option α} (hf : (ztab 5 f i).bind F = some out)
    (km : ∀ t : Nat, W p l e R s m args below meth c H locs cells slots Q (F0 m pc2 ls (.int i :: .ref t :: rest)) → W p l e R s m args below meth c H locs cells slots Q (F0 m (pc + 3) ls (.ref t :: rest)))
    (kk : ∀ v, F v = some out → W p l e R s m args below meth c H locs cells slots Q (F0 m (pc2 + 1) ls (.int v :: rest))) : W p l e R s m args below meth c H locs cells slots Q (F0 m pc ls rest) := by
  obtain ⟨v, hv, hf⟩ := zbind hf
  obtain ⟨t, hZ, hT⟩ := hst
  unfold ztab at hv
  split at hv
  · cases hv
  · rename_i hin
    cases hv
    exact va_gets Z.x Z.b hZ E.2 Z.ow (Z.ts _ hlink) (fun _ hx => hx) hdg (km t (va_ti Z.x Z.b hT E.2 hin rfl hdg2 (kk _ hf)))
theorem z_tabN (Z : zF p s m args c meth cc nL own G) (E : zE G s h H locs) {n host : String} {f : Nat → Int32} (hst : zSt1 G n f s s.heap) {pc2 : Nat} {i : Int32} (hlink : Cond.fieldLinkNest own idx RX7 n "[I" host ∈ lw_tbl) (hdg : decode cc pc = .ok (.getstatic idx, 3)) (hdg2 : decode cc pc2 = .ok (.iaload, 1)) {F : Int32 → Option α} (hf : (ztab 5 f i).bind F = some out)
    (km : ∀ t : Nat, W p l e R s m args below meth c H locs cells slots Q (F0 m pc2 ls (.int i :: .ref t :: rest)) → W p l e R s m args below meth c H locs cells slots Q (F0 m (pc + 3) ls (.ref t :: rest)))
    (kk : ∀ v, F v = some out → W p l e R s m args below meth c H locs cells slots Q (F0 m (pc2 + 1) ls (.int v :: rest))) : W p l e R s m args below meth c H locs cells slots Q (F0 m pc ls rest) := by
  obtain ⟨v, hv, hf⟩ := zbind hf
  obtain ⟨t, hZ, hT⟩ := hst
  unfold ztab at hv
  split at hv
  · cases hv
  · rename_i hin
    cases hv
    exact va_getsN Z.x Z.b hZ E.2 Z.ow (va_Nw.use (zNest_on rfl) (Z.Nw _ hlink rfl)) (fun _ hx => hx) hdg (km t (va_ti Z.x Z.b hT E.2 hin rfl hdg2 (kk _ hf)))
-- ends
theorem z_iret (Z : zF p s m args c meth cc nL own G) (E : zE G s h H locs) (hr : meth.sig.returnType = some .int) (hdg : decode cc pc = .ok (.ireturn, 1)) {v : Int32} {o : Int32 × zHp} (hf : some (v, h) = some o) : W p l e R s m args below meth c H locs cells slots (MQ below (zQi G o.1 o.2) args s cells slots (zA G)) (F0 m pc ls [.int v]) := by
  cases hf
  exact W.iret (v := v) Z.x Z.b hr (fun t ht hW => ⟨⟨v, (), rfl, rfl, E.end_ Z ht hW⟩, E.2.F ht⟩) E.2.2.2 hdg (hlocks := Z.lk)
theorem z_zret (Z : zF p s m args c meth cc nL own G) (E : zE G s h H locs) (hr : meth.sig.returnType = some .boolean) (hdg : decode cc pc = .ok (.ireturn, 1)) {v : Int32} {o : Int32 × zHp} (hf : zbool v h = some o) : W p l e R s m args below meth c H locs cells slots (MQ below (zQi G o.1 o.2) args s cells slots (zA G)) (F0 m pc ls [.int v]) := by
  unfold zbool at hf
  split at hf
  · rename_i hv
    cases hf
    exact W.zret (v := v) Z.x Z.b hr (by rcases hv with rfl | rfl <;> rfl) (fun t ht hW => ⟨⟨v, (), rfl, rfl, E.end_ Z ht hW⟩, E.2.F ht⟩) E.2.2.2 hdg (hlocks := Z.lk)
  · cases hf
theorem z_vret (Z : zF p s m args c meth cc nL own G) (E : zE G s h H locs) (hr : meth.sig.returnType = none) (hdg : decode cc pc = .ok (.return_, 1)) {o : zHp} (hf : some h = some o) : W p l e R s m args below meth c H locs cells slots (MQ below (zQv G o) args s cells slots (zA G)) (F0 m pc ls []) := by
  cases hf
  exact W.vret Z.x Z.b hr (fun t ht hW => ⟨⟨(), rfl, trivial, E.end_ Z ht hW⟩, E.2.F ht⟩) E.2.2.2 hdg (hlocks := Z.lk)
theorem z_aret (Z : zF p s m args c meth cc nL own G) (E : zE G s h H locs) {C : String} (hr : meth.sig.returnType = some (.object C)) (hdg : decode cc pc = .ok (.areturn, 1)) {v : Option Nat} {o : Option Nat × zHp} (hf : some (v, h) = some o) : W p l e R s m args below meth c H locs cells slots (MQ below (zQq G o.1 o.2) args s cells slots (zA G)) (F0 m pc ls [va_rf v]) := by
  cases hf
  exact W.aret (v := va_rf v) Z.x Z.b hr (Or.inl ⟨C, rfl⟩) (by cases v; exact Or.inl rfl; exact Or.inr ⟨_, rfl⟩) (fun t ht hW => ⟨⟨v, (), rfl, rfl, E.end_ Z ht hW⟩, E.2.F ht⟩) E.2.2.2 hdg (hlocks := Z.lk)
-- calls
variable {y : MethodName} {bytes : ByteArray} {maxL n mc ms : Nat} {ret : Option FieldType} {rm : Room} {b : Nat} {As st : List Value} {host : String}
def zRm (rm R : Room) (maxL mc ms cells slots : Nat) : Prop := (rm.frames + 1 ≤ R.frames ∧ 8 + (maxL + 11) + rm.locals ≤ R.locals) ∧ (rm.cells = mc ∧ rm.slots = ms) ∧ cells + mc ≤ R.cells ∧ slots + ms ≤ R.slots
def zVir (y : MethodName) (ci : Nat) : Prop := Cond.instanceMethod y ∈ zB ∧ Cond.selects y.cls y y ∈ zB ∧ ∃ (T : u_T) (N : Nat), zcl[ci]? = some (y.cls, T, N)
def zCls (y : MethodName) (ci : Nat) : Prop := ∃ (T : u_T) (N : Nat), zcl[ci]? = some (y.cls, T, N)
theorem z_cw (Z : zF p s m args c meth cc nL own G) (K : zCal own idx y bytes maxL ret n) (hin : Cond.instanceMethod y ∈ zB) (hse : Cond.selects y.cls y y ∈ zB) (hR : zRm rm R maxL mc ms cells slots) : CallW R s args own y.cls idx y bytes maxL ret (Cond.code y bytes maxL ret :: zB) rm mc ms n :=
  ⟨callB_of n Z.ts (zGood K.2.2.1) rfl hR.2.1.1 hR.2.1.2 (Z.ts _ K.2.1) (Z.ts _ K.1) ⟨K.2.2.2.1, K.2.2.2.2.1, K.2.2.2.2.2⟩ hR.1, Z.ts _ hin, Z.ts _ hse⟩
theorem z_pre (Z : zF p s m args c meth cc nL own G) (E : zE G s h H locs) (hy : zCls y ci) (hb : zis h b ci = true) : PreV s H y.cls b (va_Pc (.ref b :: As) (zW G h)) As := by
  obtain ⟨fs, hfs⟩ := zis_inv hb
  obtain ⟨T, N, hc⟩ := hy
  exact ⟨fun a U g mk q => ⟨q.1, q.2.calling⟩, va_recv (q := (y.cls, T, N)) Z.K (zP1 E.1 hfs) hc (q0 := 0) rfl, fun U hU hW => ⟨rfl, E.at_ Z hU hW⟩⟩
theorem z_preS (Z : zF p s m args c meth cc nL own G) (E : zE G s h H locs) : PreS s H (va_Pc As (zW G h)) As := ⟨fun a U g mk q => ⟨q.1, q.2.calling⟩, fun U hU hW => ⟨rfl, E.at_ Z hU hW⟩⟩
def zMn (l : Launch) (y : MethodName) (bytes : ByteArray) (maxL : Nat) (rm : Room) (mc ms : Nat) (G : zG) (av : List Value) (h : zHp) (h' : zHp) : Prop := Met l y (Cond.code y bytes maxL none :: zB) rm (va_Pc av (zW G h)) (zQv G h') mc ms (zA G)
def zM0 (l : Launch) (y : MethodName) (bytes : ByteArray) (maxL : Nat) (ret : Option FieldType) (rm : Room) (G : zG) (av : List Value) (h : zHp) (Qc : Array Value → State → Outcome → State → Prop) : Prop := Met l y (Cond.code y bytes maxL ret :: zB) rm (va_Pc av (zW G h)) Qc 0 0 (zA G)
/-- behind a call that answers an int -/
theorem z_bi (E : zE G s h H locs) {r : Int32} {h1 : zHp} {a' : Array Value} (hr : va_Run p l e R s m args below meth c H locs cells slots 0 0 (F0 m pc ls st) rest (zQi G r h1 a') (zA G))
    (kk : ∀ (H1 : Heap) (locs1 : List Loc), zE G s h1 H1 locs1 → W p l e R s m args below meth c H1 locs1 cells slots Q (F0 m (pc + 3) ls (.int r :: rest))) : W p l e R s m args below meth c H locs cells slots Q (F0 m pc ls st) :=
  va_calli hr E.2 (fun _ _ h => h) (fun _ h => h) fun r' _ t H1 locs1 ht _ hr' hB _ _ hS => by
    subst hr'
    exact kk H1 locs1 ⟨by rw [← ht]; exact hB.1, hS⟩
theorem z_bq (E : zE G s h H locs) {r : Option Nat} {h1 : zHp} {a' : Array Value} (hr : va_Run p l e R s m args below meth c H locs cells slots 0 0 (F0 m pc ls st) rest (zQq G r h1 a') (zA G))
    (kk : ∀ (H1 : Heap) (locs1 : List Loc), zE G s h1 H1 locs1 → W p l e R s m args below meth c H1 locs1 cells slots Q (F0 m (pc + 3) ls (va_rf r :: rest))) : W p l e R s m args below meth c H locs cells slots Q (F0 m pc ls st) :=
  va_callq hr E.2 (fun _ _ h => h) (fun _ h => h) fun r' _ t H1 locs1 ht _ hr' hB _ _ hS => by
    subst hr'
    exact kk H1 locs1 ⟨by rw [← ht]; exact hB.1, hS⟩
theorem z_bv (E : zE G s h H locs) {h1 : zHp} {a' : Array Value} (hr : va_Run p l e R s m args below meth c H locs cells slots mc ms (F0 m pc ls st) rest (zQv G h1 a') (zA G))
    (kk : ∀ (H1 : Heap) (locs1 : List Loc), zE G s h1 H1 locs1 → W p l e R s m args below meth c H1 locs1 (cells + mc) (slots + ms) Q (F0 m (pc + 3) ls rest)) : W p l e R s m args below meth c H locs cells slots Q (F0 m pc ls st) :=
  va_callv hr E.2 (fun _ _ h => h) (fun _ h => h) fun _ t H1 locs1 ht _ _ hB _ _ hS => kk H1 locs1 ⟨by rw [← ht]; exact hB.1, hS⟩
theorem z_Vi (Z : zF p s m args c meth cc nL own G) (E : zE G s h H locs) (hls : ls.size = nL) (K : zCal own idx y bytes maxL ret n) (V : zVir y ci) {o : Option (Int32 × zHp)} {F : Int32 → zHp → Option α} (hf : zb2 (zif (zis h b ci) o) F = some out) (hM : ∀ r h', o = some (r, h') → zM0 l y bytes maxL ret rm G (.ref b :: As) h (zQi G r h')) (hst : st = As.reverse ++ .ref b :: rest) (hn : As.length = n) (hrest : (rest.map fun v => v.category).sum ≤ 8) (hR : zRm rm R maxL 0 0 cells slots) (hdg : decode cc pc = .ok (.invokevirtual idx, 3))
    (kk : ∀ (r : Int32) (h1 : zHp) (H1 : Heap) (locs1 : List Loc), F r h1 = some out → zE G s h1 H1 locs1 → W p l e R s m args below meth c H1 locs1 cells slots Q (F0 m (pc + 3) ls (.int r :: rest))) : W p l e R s m args below meth c H locs cells slots Q (F0 m pc ls st) := by
  obtain ⟨r, h1, ho, hf⟩ := zbind2 hf
  obtain ⟨hb, ho⟩ := zif_inv ho
  exact z_bi E (va_runV (As := As) (rest := rest) Z.fix (hM r h1 ho) (z_cw Z K V.1 V.2.1 hR) (z_pre Z E V.2.2 hb) rfl hn hls hst (lv_room hrest) hdg hR.2.2) (fun H1 locs1 E1 => kk r h1 H1 locs1 hf E1)
theorem z_Vq (Z : zF p s m args c meth cc nL own G) (E : zE G s h H locs) (hls : ls.size = nL) (K : zCal own idx y bytes maxL ret n) (V : zVir y ci) {o : Option (Option Nat × zHp)} {F : Option Nat → zHp → Option α} (hf : zb2 (zif (zis h b ci) o) F = some out) (hM : ∀ r h', o = some (r, h') → zM0 l y bytes maxL ret rm G (.ref b :: As) h (zQq G r h')) (hst : st = As.reverse ++ .ref b :: rest) (hn : As.length = n) (hrest : (rest.map fun v => v.category).sum ≤ 8) (hR : zRm rm R maxL 0 0 cells slots) (hdg : decode cc pc = .ok (.invokevirtual idx, 3))
    (kk : ∀ (r : Option Nat) (h1 : zHp) (H1 : Heap) (locs1 : List Loc), F r h1 = some out → zE G s h1 H1 locs1 → W p l e R s m args below meth c H1 locs1 cells slots Q (F0 m (pc + 3) ls (va_rf r :: rest))) : W p l e R s m args below meth c H locs cells slots Q (F0 m pc ls st) := by
  obtain ⟨r, h1, ho, hf⟩ := zbind2 hf
  obtain ⟨hb, ho⟩ := zif_inv ho
  exact z_bq E (va_runV (As := As) (rest := rest) Z.fix (hM r h1 ho) (z_cw Z K V.1 V.2.1 hR) (z_pre Z E V.2.2 hb) rfl hn hls hst (lv_room hrest) hdg hR.2.2) (fun H1 locs1 E1 => kk r h1 H1 locs1 hf E1)
theorem z_Vv (Z : zF p s m args c meth cc nL own G) (E : zE G s h H locs) (hls : ls.size = nL) (K : zCal own idx y bytes maxL ret n) (V : zVir y ci) {o : Option zHp} {F : zHp → Option α} (hf : (zif (zis h b ci) o).bind F = some out) (hM : ∀ h', o = some h' → zM0 l y bytes maxL ret rm G (.ref b :: As) h (zQv G h')) (hst : st = As.reverse ++ .ref b :: rest) (hn : As.length = n) (hrest : (rest.map fun v => v.category).sum ≤ 8) (hR : zRm rm R maxL 0 0 cells slots) (hdg : decode cc pc = .ok (.invokevirtual idx, 3))
    (kk : ∀ (h1 : zHp) (H1 : Heap) (locs1 : List Loc), F h1 = some out → zE G s h1 H1 locs1 → W p l e R s m args below meth c H1 locs1 cells slots Q (F0 m (pc + 3) ls rest)) : W p l e R s m args below meth c H locs cells slots Q (F0 m pc ls st) := by
  obtain ⟨h1, ho, hf⟩ := zbind hf
  obtain ⟨hb, ho⟩ := zif_inv ho
  exact z_bv (mc := 0) (ms := 0) E (va_runV (As := As) (rest := rest) Z.fix (hM h1 ho) (z_cw Z K V.1 V.2.1 hR) (z_pre Z E V.2.2 hb) rfl hn hls hst (lv_room hrest) hdg hR.2.2) (fun H1 locs1 E1 => kk h1 H1 locs1 hf E1)
theorem z_Si (Z : zF p s m args c meth cc nL own G) (E : zE G s h H locs) (hls : ls.size = nL) (K : zCal own idx y bytes maxL ret n) (V : Cond.static y ∈ zB) {o : Option (Int32 × zHp)} {F : Int32 → zHp → Option α} (hf : zb2 o F = some out) (hM : ∀ r h', o = some (r, h') → zM0 l y bytes maxL ret rm G As h (zQi G r h')) (hst : st = As.reverse ++ rest) (hn : As.length = n) (hrest : (rest.map fun v => v.category).sum ≤ 8) (hR : zRm rm R maxL 0 0 cells slots) (hdg : decode cc pc = .ok (.invokestatic idx, 3))
    (kk : ∀ (r : Int32) (h1 : zHp) (H1 : Heap) (locs1 : List Loc), F r h1 = some out → zE G s h1 H1 locs1 → W p l e R s m args below meth c H1 locs1 cells slots Q (F0 m (pc + 3) ls (.int r :: rest))) : W p l e R s m args below meth c H locs cells slots Q (F0 m pc ls st) := by
  obtain ⟨r, h1, ho, hf⟩ := zbind2 hf
  exact z_bi E (va_runS (As := As) (rest := rest) Z.fix (hM r h1 ho) ⟨callB_of n Z.ts (zGood K.2.2.1) rfl hR.2.1.1 hR.2.1.2 (Z.ts _ K.2.1) (Z.ts _ K.1) ⟨K.2.2.2.1, K.2.2.2.2.1, K.2.2.2.2.2⟩ hR.1, Z.ts _ V⟩ (z_preS Z E) rfl hn hls hst (lv_room hrest) hdg hR.2.2) (fun H1 locs1 E1 => kk r h1 H1 locs1 hf E1)
theorem z_cN (Z : zF p s m args c meth cc nL own G) (K : zCalN own idx y host bytes maxL ret n) (hR : zRm rm R maxL mc ms cells slots) : va_CN R s args own idx y host bytes maxL ret (Cond.code y bytes maxL ret :: zB) rm mc ms n :=
  va_cnB n Z.ts (zGood K.2.2.1) rfl hR.2.1.1 hR.2.1.2 (Z.Nw _ K.1 rfl) (Z.ts _ K.2.1) ⟨K.2.2.2.1, K.2.2.2.2.1, K.2.2.2.2.2⟩ hR.1
theorem z_SNi (Z : zF p s m args c meth cc nL own G) (E : zE G s h H locs) (hls : ls.size = nL) (K : zCalN own idx y host bytes maxL ret n) (V : Cond.static y ∈ zB) {o : Option (Int32 × zHp)} {F : Int32 → zHp → Option α} (hf : zb2 o F = some out) (hM : ∀ r h', o = some (r, h') → zM0 l y bytes maxL ret rm G As h (zQi G r h')) (hst : st = As.reverse ++ rest) (hn : As.length = n) (hrest : (rest.map fun v => v.category).sum ≤ 8) (hR : zRm rm R maxL 0 0 cells slots) (hdg : decode cc pc = .ok (.invokestatic idx, 3))
    (kk : ∀ (r : Int32) (h1 : zHp) (H1 : Heap) (locs1 : List Loc), F r h1 = some out → zE G s h1 H1 locs1 → W p l e R s m args below meth c H1 locs1 cells slots Q (F0 m (pc + 3) ls (.int r :: rest))) : W p l e R s m args below meth c H locs cells slots Q (F0 m pc ls st) := by
  obtain ⟨r, h1, ho, hf⟩ := zbind2 hf
  exact z_bi E (va_runSN (As := As) (rest := rest) Z.fix (hM r h1 ho) ⟨z_cN Z K hR, Z.ts _ V, trivial⟩ (z_preS Z E) rfl hn hls hst (lv_room hrest) hdg hR.2.2) (fun H1 locs1 E1 => kk r h1 H1 locs1 hf E1)
theorem z_I (Z : zF p s m args c meth cc nL own G) (E : zE G s h H locs) (hls : ls.size = nL) (K : zCal own idx y bytes maxL none n) (hi : Cond.instanceMethod y ∈ zB) (hyn : y.name = "<init>") {o : Option zHp} {F : zHp → Option α} (hf : o.bind F = some out) (hM : ∀ h', o = some h' → zMn l y bytes maxL rm mc ms G (.ref b :: As) h h') (hst : st = As.reverse ++ .ref b :: rest) (hn : As.length = n) (hrest : (rest.map fun v => v.category).sum ≤ 8) (hR : zRm rm R maxL mc ms cells slots) (hdg : decode cc pc = .ok (.invokespecial idx, 3))
    (kk : ∀ (h1 : zHp) (H1 : Heap) (locs1 : List Loc), F h1 = some out → zE G s h1 H1 locs1 → W p l e R s m args below meth c H1 locs1 (cells + mc) (slots + ms) Q (F0 m (pc + 3) ls rest)) : W p l e R s m args below meth c H locs cells slots Q (F0 m pc ls st) := by
  obtain ⟨h1, ho, hf⟩ := zbind hf
  exact z_bv E (va_runI (As := As) (rest := rest) Z.fix (hM h1 ho) ⟨callB_of n Z.ts (zGood K.2.2.1) rfl hR.2.1.1 hR.2.1.2 (Z.ts _ K.2.1) (Z.ts _ K.1) ⟨K.2.2.2.1, K.2.2.2.2.1, K.2.2.2.2.2⟩ hR.1, hyn, Z.ts _ hi⟩ (z_preS Z E) rfl hn hls hst (lv_room hrest) hdg hR.2.2) (fun H1 locs1 E1 => kk h1 H1 locs1 hf E1)
theorem z_IN (Z : zF p s m args c meth cc nL own G) (E : zE G s h H locs) (hls : ls.size = nL) (K : zCalN own idx y host bytes maxL none n) (hi : Cond.instanceMethod y ∈ zB) (hyn : y.name = "<init>") {o : Option zHp} {F : zHp → Option α} (hf : o.bind F = some out) (hM : ∀ h', o = some h' → zMn l y bytes maxL rm mc ms G (.ref b :: As) h h') (hst : st = As.reverse ++ .ref b :: rest) (hn : As.length = n) (hrest : (rest.map fun v => v.category).sum ≤ 8) (hR : zRm rm R maxL mc ms cells slots) (hdg : decode cc pc = .ok (.invokespecial idx, 3))
    (kk : ∀ (h1 : zHp) (H1 : Heap) (locs1 : List Loc), F h1 = some out → zE G s h1 H1 locs1 → W p l e R s m args below meth c H1 locs1 (cells + mc) (slots + ms) Q (F0 m (pc + 3) ls rest)) : W p l e R s m args below meth c H locs cells slots Q (F0 m pc ls st) := by
  obtain ⟨h1, ho, hf⟩ := zbind hf
  exact z_bv E (va_runIN (As := As) (rest := rest) Z.fix (hM h1 ho) ⟨z_cN Z K hR, hyn, Z.ts _ hi⟩ (z_preS Z E) rfl hn hls hst (lv_room hrest) hdg hR.2.2) (fun H1 locs1 E1 => kk h1 H1 locs1 hf E1)
-- makings
theorem z_new (Z : zF p s m args c meth cc nL own G) (E : zE G s h H locs) {C : String} {T : u_T} {N : Nat} {ty : Nat → FieldType} {fs : List Value} (hc : zcl[ci]? = some (C, T, N)) (hin : ∀ w ∈ u_ws C T N, w ∈ zB) (hty : ∀ k, k < N → parseFieldDescriptor (T k).2.2.1 = some (ty k)) (h1 : Cond.classLink own idx C ∈ zB) (h2 : Cond.instantiable C N ∈ zB) (h3 : Cond.initialized C ∈ zB) (hfs : ∀ j, j < N → defaultValue (ty j) = vp_V fs j) (hcells : cells + 1 ≤ R.cells) (hslots : slots + N ≤ R.slots) (hdg : decode cc pc = .ok (.new idx, 3)) {F : Nat → zHp → Option α} (hf : znm h.1 (fun q => znm (zadd h (.inr (.inr (ci, fs)))) (F q)) = some out)
    (kk : ∀ (q : Nat) (h1 : zHp) (H1 : Heap), F q h1 = some out → zE G s h1 H1 locs → W p l e R s m args below meth c H1 locs (cells + 1) (slots + N) Q (F0 m (pc + 3) ls (.ref q :: rest))) : W p l e R s m args below meth c H locs cells slots Q (F0 m pc ls rest) := by
  have hKn := Z.K.1 ci _ hc
  refine W.newcK Z.x Z.b Z.ow (Z.ts _ h1) (Z.ts _ h2) (Z.ts _ h3) rfl hdg hcells hslots hKn.2.1 rfl fun H1 kC hkC e1 z1 o1 => ?_
  have hq : H.size = h.1 := E.1.1.symm
  refine kk H.size _ H1 (by rw [hq]; exact hf) ⟨zH_add E.1 ?_ z1 o1, ⟨Nat.le_trans E.2.1 (by omega), fun x g1 g2 => (o1 x (Nat.lt_of_lt_of_le g1 E.2.1)).trans (E.2.2.1 x g1 g2), E.2.2.2⟩⟩
  exact ⟨_, hc, (u_born ty Z.ts hin hKn hkC e1 hty).to hfs⟩
theorem z_newi (Z : zF p s m args c meth cc nL own G) (E : zE G s h H locs) {v : Int32} {N : Nat} (hw : Cond.arrayClass .int ∈ zB) (hn : ¬ v < 0) (hN : v.toNatClampNeg = N) (hbytes : N * 4 ≤ 536870912) (hcells : cells + 1 ≤ R.cells) (hslots : slots + N ≤ R.slots) (hdg : decode cc pc = .ok (.newarray .int, 2)) {F : Nat → zHp → Option α} (hf : znm h.1 (fun q => znm (zadd h (.inl (0, N, fun _ => 0))) (F q)) = some out)
    (kk : ∀ (q : Nat) (h1 : zHp) (H1 : Heap), F q h1 = some out → zE G s h1 H1 locs → W p l e R s m args below meth c H1 locs (cells + 1) (slots + N) Q (F0 m (pc + 2) ls (.ref q :: rest))) : W p l e R s m args below meth c H locs cells slots Q (F0 m pc ls (.int v :: rest)) := by
  have hq : H.size = h.1 := E.1.1.symm
  refine va_newaK (atype := .int) Z.x Z.b (Z.ts _ hw) rfl hdg rfl hn hN hbytes hcells hslots rfl fun H1 cA e1 z1 o1 hAr hNm => ?_
  have hcA : cA = G.2.1 0 := Option.some.inj (hNm.symm.trans (Z.K.2 0 (G.2.1 0, .int) rfl).2)
  subst hcA
  refine kk H.size _ H1 (by rw [hq]; exact hf) ⟨zH_add E.1 ?_ z1 o1, ⟨Nat.le_trans E.2.1 (by omega), fun x g1 g2 => (o1 x (Nat.lt_of_lt_of_le g1 E.2.1)).trans (E.2.2.1 x g1 g2), E.2.2.2⟩⟩
  exact e1
theorem z_newc (Z : zF p s m args c meth cc nL own G) (E : zE G s h H locs) {v : Int32} {N : Nat} (hw : Cond.arrayClass .char ∈ zB) (hn : ¬ v < 0) (hN : v.toNatClampNeg = N) (hbytes : N * 2 ≤ 536870912) (hcells : cells + 1 ≤ R.cells) (hslots : slots + N ≤ R.slots) (hdg : decode cc pc = .ok (.newarray .char, 2)) {F : Nat → zHp → Option α} (hf : znm h.1 (fun q => znm (zadd h (.inl (1, N, fun _ => 0))) (F q)) = some out)
    (kk : ∀ (q : Nat) (h1 : zHp) (H1 : Heap), F q h1 = some out → zE G s h1 H1 locs → W p l e R s m args below meth c H1 locs (cells + 1) (slots + N) Q (F0 m (pc + 2) ls (.ref q :: rest))) : W p l e R s m args below meth c H locs cells slots Q (F0 m pc ls (.int v :: rest)) := by
  have hq : H.size = h.1 := E.1.1.symm
  refine va_newaK (atype := .char) Z.x Z.b (Z.ts _ hw) rfl hdg rfl hn hN hbytes hcells hslots rfl fun H1 cA e1 z1 o1 hAr hNm => ?_
  have hcA : cA = G.2.1 1 := Option.some.inj (hNm.symm.trans (Z.K.2 1 (G.2.1 1, .char) rfl).2)
  subst hcA
  refine kk H.size _ H1 (by rw [hq]; exact hf) ⟨zH_add E.1 ?_ z1 o1, ⟨Nat.le_trans E.2.1 (by omega), fun x g1 g2 => (o1 x (Nat.lt_of_lt_of_le g1 E.2.1)).trans (E.2.2.1 x g1 g2), E.2.2.2⟩⟩
  exact e1
theorem z_newR (Z : zF p s m args c meth cc nL own G) (E : zE G s h H locs) {v : Int32} {N kd : Nat} {C : String} (hkd : (ztys G.2.1)[kd]? = some (G.2.1 kd, .object C)) (hcl : Cond.classLink own idx C ∈ zB) (hao : va_AO C s) (hn : ¬ v < 0) (hN : v.toNatClampNeg = N) (hbytes : N * 4 ≤ 536870912) (hcells : cells + 1 ≤ R.cells) (hslots : slots + N ≤ R.slots) (hdg : decode cc pc = .ok (.anewarray idx, 3)) {F : Nat → zHp → Option α} (hf : znm h.1 (fun q => znm (zadd h (.inr (.inl (kd, N, fun _ => none)))) (F q)) = some out)
    (kk : ∀ (q : Nat) (h1 : zHp) (H1 : Heap), F q h1 = some out → zE G s h1 H1 locs → W p l e R s m args below meth c H1 locs (cells + 1) (slots + N) Q (F0 m (pc + 3) ls (.ref q :: rest))) : W p l e R s m args below meth c H locs cells slots Q (F0 m pc ls (.int v :: rest)) := by
  have hq : H.size = h.1 := E.1.1.symm
  subst hN
  refine W.anew Z.x Z.b Z.ow (Z.ts _ hcl) (va_AO.use hao) rfl hdg rfl hn hbytes hcells hslots fun cA kA comp f1 f2 f3 f4 => ?_
  have hcA : cA = G.2.1 kd := by
    obtain ⟨-, kA', comp', g1, g2, g3, g4⟩ := Z.K.2 kd _ hkd
    exact Option.some.inj (f1.symm.trans g4)
  subst hcA
  generalize hH1 : H.push ({ cls := G.2.1 kd, slots := Array.replicate v.toNatClampNeg .null, vm := .none } : Cell) = H1
  have z1 : H1.size = H.size + 1 := by rw [← hH1, Array.size_push]
  have e1 : H1[H.size]? = some (arrV (G.2.1 kd) v.toNatClampNeg (fun _ => .null)) := by rw [← hH1, Array.getElem?_push_size, ← arrV_new]
  have o1 : ∀ q : Nat, q < H.size → H1[q]? = H[q]? := fun q hq => by rw [← hH1, Array.getElem?_push, if_neg (Nat.ne_of_lt hq)]
  refine kk H.size _ H1 (by rw [hq]; exact hf) ⟨zH_add E.1 ?_ z1 o1, ⟨Nat.le_trans E.2.1 (by omega), fun x g1 g2 => (o1 x (Nat.lt_of_lt_of_le g1 E.2.1)).trans (E.2.2.1 x g1 g2), E.2.2.2⟩⟩
  exact e1
theorem z_obj (Z : zF p s m args c meth cc nL own G) (E : zE G s h H locs) (hls : ls.size = nL) (h1 : Cond.methodLink own idx objectInit ∈ zB) (h2 : Cond.instanceMethod objectInit ∈ zB) (h3 : Cond.code objectInit ⟨#[0xb1]⟩ 1 none ∈ zB) (hdg : decode cc pc = .ok (.invokespecial idx, 3)) (hframes : 1 ≤ R.frames) (hlocals : (rest.map fun v => v.category).sum + 12 ≤ R.locals)
    (kk : W p l e R s m args below meth c H locs cells slots Q (F0 m (pc + 3) ls rest)) : W p l e R s m args below meth c H locs cells slots Q (F0 m pc ls (.ref a :: rest)) :=
  W.objInit Z.x Z.b Z.ow (Z.ts _ h1) (Z.ts _ h2) (Z.ts _ h3) rfl (by rw [Z.ml]; exact hls) rfl hdg hframes (by show 2 * 0 + _ + _ ≤ _; omega) kk
theorem z_max (Z : zF p s m args c meth cc nL own G) (hls : ls.size = nL) (h1 : Cond.methodLink own idx Lib.Math.max.name ∈ zB) (h2 : Cond.static Lib.Math.max.name ∈ zB) (h3 : Cond.initialized "java/lang/Math" ∈ zB) (h4 : Cond.code Lib.Math.max.name Lib.Math.max.code 2 (some .int) ∈ zB) (hframes : 1 ≤ R.frames) (hlocals : (rest.map fun v => v.category).sum + 13 ≤ R.locals) (hc : cells ≤ R.cells) (hs : slots ≤ R.slots) {x y : Int32} (hdg : decode cc pc = .ok (.invokestatic idx, 3))
    (kk : W p l e R s m args below meth c H locs cells slots Q (F0 m (pc + 3) ls (.int (zmax x y) :: rest))) : W p l e R s m args below meth c H locs cells slots Q (F0 m pc ls (.int y :: .int x :: rest)) :=
  va_mmax Z.x Z.b (by rw [Z.ml]; exact hls.symm) Z.ow (Z.ts _ h1) (Z.ts _ h2) (Z.ts _ h3) (Z.ts _ h4) hframes hlocals hc hs hdg kk
def zrmB (rm R : Room) (maxL : Nat) : Bool := Nat.ble (rm.frames + 1) R.frames && Nat.ble (8 + (maxL + 11) + rm.locals) R.locals && Nat.beq rm.cells 0 && Nat.beq rm.slots 0
theorem zRm_of {rm R : Room} {maxL cells slots : Nat} (h : zrmB rm R maxL = true) (hc : cells ≤ R.cells) (hs : slots ≤ R.slots) : zRm rm R maxL 0 0 cells slots := by
  unfold zrmB at h
  simp only [Bool.and_eq_true] at h
  exact ⟨⟨Nat.le_of_ble_eq_true h.1.1.1, Nat.le_of_ble_eq_true h.1.1.2⟩, ⟨Nat.eq_of_beq_eq_true h.1.2, Nat.eq_of_beq_eq_true h.2⟩, hc, hs⟩
/-- a switch's last case -/
theorem zsw {x : Int32} {k : Int} (c : ¬ x = Int32.ofInt k) (hk : (Int32.ofInt k).toInt = k) : x.toInt ≠ k := fun q => c (Int32.toInt_inj.mp (q.trans hk.symm))
end ZR
