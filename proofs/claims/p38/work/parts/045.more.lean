/-- a place of the script -/
def zsc (L : Nat) (xs : Nat → Int32) (i : Int32) : Option Int32 := if i < 0 ∨ L ≤ i.toNatClampNeg then none else some (xs i.toNatClampNeg)
section ZL
variable {p : Program} {l : Launch} {e : Env} {R : Room} {s : State} {m : MethodId} {args : Array Value} {below : List Frame} {meth : Method} {c : Code} {H : Heap} {locs : List Loc} {cells slots : Nat} {Q : State → Prop}
variable {cc : ByteArray} {nL : Nat} {own : String} {G : zG} {h : zHp} {pc idx : Nat} {ls : Array Slot} {rest : List Value} {α : Type} {out : α} {b L : Nat} {xs : Nat → Int32}
/-- the script, where a call finds it -/
def zX (b L : Nat) (xs : Nat → Int32) (G : zG) (U : State) : Prop := va_X b L xs U U.heap ∧ b < U.heap.size ∧ ¬ zA G b
theorem z_sld (Z : zF p s m args c meth cc nL own G) (E : zE G s h H locs) (hX : zX b L xs G s) {i : Int32} (hdg : decode cc pc = .ok (.iaload, 1)) {F : Int32 → Option α} (hf : (zsc L xs i).bind F = some out)
    (kk : ∀ v, F v = some out → W p l e R s m args below meth c H locs cells slots Q (F0 m (pc + 1) ls (.int v :: rest))) : W p l e R s m args below meth c H locs cells slots Q (F0 m pc ls (.int i :: .ref b :: rest)) := by
  obtain ⟨v, hv, hf⟩ := zbind hf
  unfold zsc at hv
  split at hv
  · cases hv
  · rename_i hin
    cases hv
    exact va_sld Z.x Z.b hX.1 hX.2.1 hX.2.2 E.2 hin hdg (kk _ hf)
theorem zX.calling {U : State} {g : JFrame} {mk : MethodId} {a : Array Value} (q : zX b L xs G U) : zX b L xs G (U.calling g mk a) := ⟨va_X.moved (u := U) (U := U.calling g mk a) (Vm.Alike.refl U.vm) q.1, q.2⟩
theorem zX.at_ (E : zE G s h H locs) {U : State} (hU : U.heap = H) (hW : s.WarmedH U.vm) (q : zX b L xs G s) : zX b L xs G U :=
  ⟨(va_X.moved hW.alike q.1).kept (by rw [hU]; exact E.2.2.1 b q.2.1 q.2.2), by rw [hU]; exact Nat.lt_of_lt_of_le q.2.1 E.2.1, q.2.2⟩
/-- a method that makes cells and answers -/
def zMr (l : Launch) (y : MethodName) (bytes : ByteArray) (maxL : Nat) (ret : Option FieldType) (rm : Room) (mc ms : Nat) (G : zG) (av : List Value) (h : zHp) (Qc : Array Value → State → Outcome → State → Prop) : Prop := Met l y (Cond.code y bytes maxL ret :: zB) rm (va_Pc av (zW G h)) Qc mc ms (zA G)
theorem z_aretA (Z : zF p s m args c meth cc nL own G) (E : zE G s h H locs) (hr : meth.sig.returnType = some (.array .int)) (hdg : decode cc pc = .ok (.areturn, 1)) {v : Option Nat} {o : Option Nat × zHp} (hf : some (v, h) = some o) : W p l e R s m args below meth c H locs cells slots (MQ below (zQq G o.1 o.2) args s cells slots (zA G)) (F0 m pc ls [va_rf v]) := by
  cases hf
  exact W.aret (v := va_rf v) Z.x Z.b hr (Or.inr ⟨_, rfl⟩) (by cases v; exact Or.inl rfl; exact Or.inr ⟨_, rfl⟩) (fun t ht hW => ⟨⟨v, (), rfl, rfl, E.end_ Z ht hW⟩, E.2.F ht⟩) E.2.2.2 hdg (hlocks := Z.lk)
variable {y : MethodName} {bytes : ByteArray} {maxL n mc ms : Nat} {ret : Option FieldType} {rm : Room} {As st : List Value} {host : String}
theorem z_Sq (Z : zF p s m args c meth cc nL own G) (E : zE G s h H locs) (hls : ls.size = nL) (K : zCal own idx y bytes maxL ret n) (V : Cond.static y ∈ zB) {o : Option (Option Nat × zHp)} {F : Option Nat → zHp → Option α} (hf : zb2 o F = some out) (hM : ∀ r h', o = some (r, h') → zMr l y bytes maxL ret rm mc ms G As h (zQq G r h')) (hst : st = As.reverse ++ rest) (hn : As.length = n) (hrest : (rest.map fun v => v.category).sum ≤ 8) (hR : zRm rm R maxL mc ms cells slots) (hdg : decode cc pc = .ok (.invokestatic idx, 3))
    (kk : ∀ (r : Option Nat) (h1 : zHp) (H1 : Heap) (locs1 : List Loc), F r h1 = some out → zE G s h1 H1 locs1 → W p l e R s m args below meth c H1 locs1 (cells + mc) (slots + ms) Q (F0 m (pc + 3) ls (va_rf r :: rest))) : W p l e R s m args below meth c H locs cells slots Q (F0 m pc ls st) := by
  obtain ⟨r, h1, ho, hf⟩ := zbind2 hf
  refine va_callq (va_runS (As := As) (rest := rest) Z.fix (hM r h1 ho) ⟨callB_of n Z.ts (zGood K.2.2.1) rfl hR.2.1.1 hR.2.1.2 (Z.ts _ K.2.1) (Z.ts _ K.1) ⟨K.2.2.2.1, K.2.2.2.2.1, K.2.2.2.2.2⟩ hR.1, Z.ts _ V⟩ (z_preS Z E) rfl hn hls hst (lv_room hrest) hdg hR.2.2) E.2 (fun _ _ h => h) (fun _ h => h) fun r' _ t H1 locs1 ht _ hr' hB _ _ hS => ?_
  subst hr'
  exact kk r' h1 H1 locs1 hf ⟨by rw [← ht]; exact hB.1, hS⟩
end ZL
