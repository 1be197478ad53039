/-! ===== the pictured heap: its size, and of the cells that are the law's own what they hold ===== -/
/-- a cell: a row of ints (kind, length, contents), a row of references, an object (class, fields) -/
abbrev zCl : Type := (Nat × Nat × (Nat → Int32)) ⊕ ((Nat × Nat × (Nat → Option Nat)) ⊕ (Nat × List Value))
abbrev zHp : Type := Nat × (Nat → Option zCl)
/-- the classes' numbers and slots, the array classes' numbers (0 int, 1 char, 2.. of references), the first address that is the law's -/
abbrev zG : Type := va_G × ((Nat → ClassId) × Nat)
def ze (dA : Nat → ClassId) (c : zCl) : va_E := match c with
  | .inl x => .inl (dA x.1, x.2.1, .inl x.2.2)
  | .inr (.inl x) => .inl (dA x.1, x.2.1, .inr (.inr (.inr (.inr x.2.2))))
  | .inr (.inr o) => .inr o
def zset (h : zHp) (a : Nat) (c : zCl) : zHp := (h.1, fun q => if q = a then some c else h.2 q)
def zadd (h : zHp) (c : zCl) : zHp := (h.1 + 1, fun q => if q = h.1 then some c else h.2 q)
-- what the instructions do with it
def zob (h : zHp) (a ci : Nat) : Option (List Value) := match h.2 a with
  | some (.inr (.inr (c, fs))) => if c = ci then some fs else none
  | _ => none
def zgI (h : zHp) (a ci k : Nat) : Option Int32 := match zob h a ci with
  | some fs => match fs[k]? with
    | some (.int v) => some v
    | _ => none
  | none => none
def zgR (h : zHp) (a ci k : Nat) : Option Nat := match zob h a ci with
  | some fs => match fs[k]? with
    | some (.ref v) => some v
    | _ => none
  | none => none
def zpV (h : zHp) (a ci k : Nat) (v : Value) : Option zHp := match zob h a ci with
  | some fs => if k < fs.length then some (zset h a (.inr (.inr (ci, fs.set k v)))) else none
  | none => none
def zar (h : zHp) (a kd : Nat) : Option (Nat × (Nat → Int32)) := match h.2 a with
  | some (.inl (k, x)) => if k = kd then some x else none
  | _ => none
def zrr (h : zHp) (a kd : Nat) : Option (Nat × (Nat → Option Nat)) := match h.2 a with
  | some (.inr (.inl (k, x))) => if k = kd then some x else none
  | _ => none
def zld (h : zHp) (a kd : Nat) (i : Int32) : Option Int32 := match zar h a kd with
  | some x => if i < 0 ∨ x.1 ≤ i.toNatClampNeg then none else some (x.2 i.toNatClampNeg)
  | none => none
def zst (h : zHp) (a kd : Nat) (i v : Int32) : Option zHp := match zar h a kd with
  | some x => if i < 0 ∨ x.1 ≤ i.toNatClampNeg then none else some (zset h a (.inl (kd, x.1, upd x.2 i.toNatClampNeg v)))
  | none => none
def zldR (h : zHp) (a kd : Nat) (i : Int32) : Option Nat := match zrr h a kd with
  | some x => if i < 0 ∨ x.1 ≤ i.toNatClampNeg then none else x.2 i.toNatClampNeg
  | none => none
def zstR (h : zHp) (a kd ci : Nat) (i : Int32) (v : Nat) : Option zHp := match zrr h a kd, zob h v ci with
  | some x, some _ => if i < 0 ∨ x.1 ≤ i.toNatClampNeg then none else some (zset h a (.inr (.inl (kd, x.1, va_up x.2 i.toNatClampNeg (some v)))))
  | _, _ => none
def zlnI (h : zHp) (a kd : Nat) : Option Int32 := match zar h a kd with
  | some x => some (Int32.ofNat x.1)
  | none => none
def zlnR (h : zHp) (a kd : Nat) : Option Int32 := match zrr h a kd with
  | some x => some (Int32.ofNat x.1)
  | none => none
def zcopy (h : zHp) (a0 : Nat) (sp : Int32) (a1 : Nat) (dp n : Int32) : Option zHp := match zar h a0 0, zar h a1 0 with
  | some x, some y => if a0 = a1 ∨ sp < 0 ∨ dp < 0 ∨ n < 0 ∨ x.1 < sp.toNatClampNeg + n.toNatClampNeg ∨ y.1 < dp.toNatClampNeg + n.toNatClampNeg then none else some (zset h a1 (.inl (0, y.1, va_cpy x.2 y.2 sp.toNatClampNeg dp.toNatClampNeg n.toNatClampNeg)))
  | _, _ => none
def zis (h : zHp) (a ci : Nat) : Bool := match h.2 a with
  | some (.inr (.inr (c, _))) => c == ci
  | _ => false
def zif {α : Type} (b : Bool) (o : Option α) : Option α := match b with
  | true => o
  | false => none
def zopt {α : Type} (x : Option Nat) (n : α) (f : Nat → α) : α := match x with
  | none => n
  | some a => f a
def zdiv (x y : Int32) : Option Int32 := if y = 0 then none else some (x / y)
def zrem (x y : Int32) : Option Int32 := if y = 0 then none else some (x - x / y * y)
/-- a table of the class's own: its places -/
def ztab (n : Nat) (f : Nat → Int32) (i : Int32) : Option Int32 := if i < 0 ∨ n ≤ i.toNatClampNeg then none else some (f i.toNatClampNeg)
/-- a truth's end -/
def zbool (v : Int32) (h : zHp) : Option (Int32 × zHp) := if v = 0 ∨ v = 1 then some (v, h) else none
/-- an answer and a heap, taken on -/
def zb2 {α β : Type} (o : Option (α × zHp)) (F : α → zHp → Option β) : Option β := match o with
  | none => none
  | some x => F x.1 x.2
def znm {α β : Type} (x : α) (F : α → β) : β := F x
def zmax (x y : Int32) : Int32 := if x < y then y else x
/-- turns that a loop has at most -/
noncomputable def zN : Nat := Classical.choose (⟨1000000, rfl⟩ : ∃ n : Nat, n = 1000000)
theorem zN_eq : zN = 1000000 := Classical.choose_spec (⟨1000000, rfl⟩ : ∃ n : Nat, n = 1000000)
-- inversions
theorem zob_inv {h : zHp} {a ci : Nat} {fs : List Value} (e : zob h a ci = some fs) : h.2 a = some (.inr (.inr (ci, fs))) := by
  unfold zob at e
  split at e
  · rename_i c fs' he
    split at e
    · rename_i hc; cases e; rw [← hc]; exact he
    · cases e
  · cases e
theorem zar_inv {h : zHp} {a kd : Nat} {x : Nat × (Nat → Int32)} (e : zar h a kd = some x) : h.2 a = some (.inl (kd, x)) := by
  unfold zar at e
  split at e
  · rename_i c fs' he
    split at e
    · rename_i hc; cases e; rw [← hc]; exact he
    · cases e
  · cases e
theorem zrr_inv {h : zHp} {a kd : Nat} {x : Nat × (Nat → Option Nat)} (e : zrr h a kd = some x) : h.2 a = some (.inr (.inl (kd, x))) := by
  unfold zrr at e
  split at e
  · rename_i c fs' he
    split at e
    · rename_i hc; cases e; rw [← hc]; exact he
    · cases e
  · cases e
theorem zis_inv {h : zHp} {a ci : Nat} (e : zis h a ci = true) : ∃ fs, h.2 a = some (.inr (.inr (ci, fs))) := by
  unfold zis at e
  split at e
  · rename_i c fs he
    have hc : c = ci := by simpa using e
    exact ⟨fs, by rw [← hc]; exact he⟩
  · cases e
theorem zif_inv {α : Type} {b : Bool} {o : Option α} {x : α} (e : zif b o = some x) : b = true ∧ o = some x := by
  cases b
  · cases e
  · exact ⟨rfl, e⟩
theorem zbind {α β : Type} {o : Option α} {F : α → Option β} {y : β} (e : o.bind F = some y) : ∃ x, o = some x ∧ F x = some y := by
  cases o with
  | none => cases e
  | some x => exact ⟨x, rfl, e⟩
theorem zbind2 {α β : Type} {o : Option (α × zHp)} {F : α → zHp → Option β} {y : β} (e : zb2 o F = some y) : ∃ r h, o = some (r, h) ∧ F r h = some y := by
  cases o with
  | none => cases e
  | some x => exact ⟨x.1, x.2, rfl, e⟩
theorem zopt_inv {α : Type} {x : Option Nat} {F : Nat → Option α} {y : α} (e : zopt x none F = some y) : ∃ a, x = some a ∧ F a = some y := by
  cases x with
  | none => cases e
  | some a => exact ⟨a, rfl, e⟩
theorem zit {α : Type} {c : Prop} {d : Decidable c} {A B o : α} (e : (@ite α c d A B) = o) (h : c) : A = o := by rw [if_pos h] at e; exact e
theorem zif_ {α : Type} {c : Prop} {d : Decidable c} {A B o : α} (e : (@ite α c d A B) = o) (h : ¬ c) : B = o := by rw [if_neg h] at e; exact e
/-! ===== the heap holds it ===== -/
def ztys (dA : Nat → ClassId) : List (ClassId × FieldType) := [(dA 0, .int), (dA 1, .char), (dA 2, .object RX4), (dA 3, .object RX3), (dA 4, .object RX2), (dA 5, .object RX5)]
def zH (G : zG) (h : zHp) (H : Heap) : Prop := h.1 = H.size ∧ G.2.2 ≤ H.size ∧ ∀ (a : Nat) (e : zCl), h.2 a = some e → G.2.2 ≤ a ∧ va_at G.1 zcl (a, ze G.2.1 e) H
def zT1 : Nat → Int32 := fun k => match k with
  | 0 => 10
  | 1 => 6
  | 2 => 77
  | 3 => 1
  | _ => 48
def zT2 : Nat → Int32 := fun k => match k with
  | 0 => 20
  | 1 => 12
  | 2 => 140
  | 3 => 1
  | _ => 100
def zA (G : zG) : Nat → Prop := fun q => G.2.2 ≤ q
def zSt1 (G : zG) (n : String) (f : Nat → Int32) (U : State) (H : Heap) : Prop := ∃ t : Nat, va_Z RX7 n "[I" (.ref t) (zA G) U H ∧ va_T .int t 5 (fun j => .int (f j)) (zA G) U H
def zSt (G : zG) (U : State) (H : Heap) : Prop := zSt1 G "FIRST_SETTINGS" zT1 U H ∧ zSt1 G "HIGHEST_SETTINGS" zT2 U H
def zNest (w : Cond) : Bool := match w with
  | .methodLinkNest .. => true
  | .fieldLinkNest .. => true
  | _ => false
def zNw (U : State) : Prop := ∀ w ∈ lw_tbl, zNest w = true → va_Nw w U
def zAO (U : State) : Prop := va_AO RX4 U ∧ va_AO RX3 U ∧ va_AO RX2 U ∧ va_AO RX5 U
/-- what holds of a state around any call -/
def zW (G : zG) (h : zHp) (U : State) : Prop := zH G h U.heap ∧ va_K G.1 zcl (ztys G.2.1) U ∧ zSt G U U.heap ∧ zNw U ∧ zAO U
theorem zSt1.moved {G : zG} {n : String} {f : Nat → Int32} {u U : State} {H : Heap} (hvm : u.vm.Alike U.vm) (h : zSt1 G n f u H) : zSt1 G n f U H := by
  obtain ⟨t, a, b⟩ := h
  exact ⟨t, a.moved hvm, b.moved hvm⟩
theorem zSt1.kept {G : zG} {n : String} {f : Nat → Int32} {U : State} {H H1 : Heap} (h : zSt1 G n f U H) (hq : ∀ a : Nat, a < H.size → ¬ zA G a → H1[a]? = H[a]?) : zSt1 G n f U H1 := by
  obtain ⟨t, a, b⟩ := h
  exact ⟨t, a.kept hq, b.kept hq⟩
theorem zSt.moved {G : zG} {u U : State} {H : Heap} (hvm : u.vm.Alike U.vm) (h : zSt G u H) : zSt G U H := ⟨h.1.moved hvm, h.2.moved hvm⟩
theorem zSt.kept {G : zG} {U : State} {H H1 : Heap} (h : zSt G U H) (hq : ∀ a : Nat, a < H.size → ¬ zA G a → H1[a]? = H[a]?) : zSt G U H1 := ⟨h.1.kept hq, h.2.kept hq⟩
theorem zNw.warm {s U : State} (hW : s.WarmedH U.vm) (h : zNw s) : zNw U := by
  intro w hw hn
  have h1 := h w hw hn
  cases w with
  | methodLinkNest a i x host => exact va_Nw.warmM hW h1
  | fieldLinkNest a i b n d host => exact va_Nw.warmF hW h1
  | _ => cases hn
theorem zNest_on {w : Cond} (h : zNest w = true) : w.onTables = true := by
  cases w <;> first | rfl | cases h
theorem zNw.same {u U : State} (hv : u.vm = U.vm) (h : zNw u) : zNw U := fun w hw hn => va_Nw.same (zNest_on hn) hv (h w hw hn)
theorem zAO.moved {u U : State} (hvm : u.vm.Alike U.vm) (h : zAO u) : zAO U := ⟨h.1.moved hvm, h.2.1.moved hvm, h.2.2.1.moved hvm, h.2.2.2.moved hvm⟩
theorem zW.calling {G : zG} {h : zHp} {U : State} {g : JFrame} {mk : MethodId} {a : Array Value} (q : zW G h U) : zW G h (U.calling g mk a) :=
  ⟨q.1, va_K.moved (u := U) (U := U.calling g mk a) (Vm.Alike.refl U.vm) q.2.1, zSt.moved (u := U) (U := U.calling g mk a) (Vm.Alike.refl U.vm) q.2.2.1, zNw.same (u := U) (U := U.calling g mk a) rfl q.2.2.2.1, zAO.moved (u := U) (U := U.calling g mk a) (Vm.Alike.refl U.vm) q.2.2.2.2⟩
/-- what holds all through a method's walk -/
def zF (p : Program) (s : State) (m : MethodId) (args : Array Value) (c : Code) (meth : Method) (cc : ByteArray) (nL : Nat) (own : String) (G : zG) : Prop :=
  p.tables.exec = Jvm.exec ∧ c.code = cc ∧ c.maxLocals = nL ∧ s.vm.findClass own = some m.cls ∧ (∀ w ∈ zB, w.before args s = true) ∧ meth.locks = false ∧ va_K G.1 zcl (ztys G.2.1) s ∧ zSt G s s.heap ∧ zNw s ∧ zAO s
/-- what holds at a point of it -/
def zE (G : zG) (s : State) (h : zHp) (H : Heap) (locs : List Loc) : Prop := zH G h H ∧ va_S (zA G) s.heap H locs
section ZF
variable {p : Program} {s : State} {m : MethodId} {args : Array Value} {c : Code} {meth : Method} {cc : ByteArray} {nL : Nat} {own : String} {G : zG}
theorem zF.x (Z : zF p s m args c meth cc nL own G) : p.tables.exec = Jvm.exec := Z.1
theorem zF.b (Z : zF p s m args c meth cc nL own G) : c.code = cc := Z.2.1
theorem zF.ml (Z : zF p s m args c meth cc nL own G) : c.maxLocals = nL := Z.2.2.1
theorem zF.ow (Z : zF p s m args c meth cc nL own G) : s.vm.findClass own = some m.cls := Z.2.2.2.1
theorem zF.ts (Z : zF p s m args c meth cc nL own G) : ∀ w ∈ zB, w.before args s = true := Z.2.2.2.2.1
theorem zF.lk (Z : zF p s m args c meth cc nL own G) : meth.locks = false := Z.2.2.2.2.2.1
theorem zF.K (Z : zF p s m args c meth cc nL own G) : va_K G.1 zcl (ztys G.2.1) s := Z.2.2.2.2.2.2.1
theorem zF.St (Z : zF p s m args c meth cc nL own G) : zSt G s s.heap := Z.2.2.2.2.2.2.2.1
theorem zF.Nw (Z : zF p s m args c meth cc nL own G) : zNw s := Z.2.2.2.2.2.2.2.2.1
theorem zF.AO (Z : zF p s m args c meth cc nL own G) : zAO s := Z.2.2.2.2.2.2.2.2.2
theorem zF.fix (Z : zF p s m args c meth cc nL own G) : CallFix p m c cc nL s args zB own := ⟨Z.x, Z.b, Z.ml, Z.ow, Z.ts⟩
/-- the world at an end -/
theorem zE.end_ {h : zHp} {H : Heap} {locs : List Loc} (Z : zF p s m args c meth cc nL own G) (E : zE G s h H locs) {t : State} (ht : t.heap = H) (hW : s.WarmedH t.vm) : zW G h t :=
  ⟨by rw [ht]; exact E.1, va_K.moved hW.alike Z.K, by rw [ht]; exact (Z.St.moved hW.alike).kept E.2.2.1, Z.Nw.warm hW, Z.AO.moved hW.alike⟩
/-- .. and at a call -/
theorem zE.at_ {h : zHp} {H : Heap} {locs : List Loc} (Z : zF p s m args c meth cc nL own G) (E : zE G s h H locs) {U : State} (hU : U.heap = H) (hW : s.WarmedH U.vm) : zW G h U := E.end_ Z hU hW
end ZF
theorem zP1 {G : zG} {h : zHp} {H : Heap} {a : Nat} {e : zCl} (q : zH G h H) (ha : h.2 a = some e) : va_P G.1 zcl [(a, ze G.2.1 e)] H := by
  intro k x hk
  cases k with
  | zero => cases hk; exact (q.2.2 a e ha).2
  | succ k => simp at hk
theorem zH_set {G : zG} {h : zHp} {H H1 : Heap} {a : Nat} {e0 e : zCl} (q : zH G h H) (ha : h.2 a = some e0) (hat : va_at G.1 zcl (a, ze G.2.1 e) H1) (z : H1.size = H.size) (oq : ∀ x : Nat, x ≠ a → H1[x]? = H[x]?) : zH G (zset h a e) H1 := by
  refine ⟨by rw [z]; exact q.1, by rw [z]; exact q.2.1, fun x y hxy => ?_⟩
  by_cases hx : x = a
  · subst hx
    have hy : e = y := by simpa [zset] using hxy
    subst hy
    exact ⟨(q.2.2 x e0 ha).1, hat⟩
  · have hy : h.2 x = some y := by simpa [zset, hx] using hxy
    exact ⟨(q.2.2 x y hy).1, (q.2.2 x y hy).2.kept (oq x hx)⟩
theorem zH_add {G : zG} {h : zHp} {H H1 : Heap} {e : zCl} (q : zH G h H) (hat : va_at G.1 zcl (H.size, ze G.2.1 e) H1) (z : H1.size = H.size + 1) (oq : ∀ x : Nat, x < H.size → H1[x]? = H[x]?) : zH G (zadd h e) H1 := by
  refine ⟨by rw [z]; show h.1 + 1 = _; rw [q.1], by rw [z]; exact Nat.le_succ_of_le q.2.1, fun x y hxy => ?_⟩
  by_cases hx : x = h.1
  · subst hx
    have hy : e = y := by simpa [zadd] using hxy
    subst hy
    rw [q.1]
    exact ⟨q.2.1, hat⟩
  · have hy : h.2 x = some y := by simpa [zadd, hx] using hxy
    exact ⟨(q.2.2 x y hy).1, (q.2.2 x y hy).2.kept (oq x ((q.2.2 x y hy).2.lt))⟩
/-! ===== facts that a program decides: of a field's link, of a call's ===== -/
def zFld (own : String) (idx ci k : Nat) : Prop := ∃ (C : String) (T : u_T) (N : Nat), zcl[ci]? = some (C, T, N) ∧ k < N ∧ (∀ w ∈ u_ws C T N, w ∈ zB) ∧ Cond.fieldLink own idx C (T k).2.1 (T k).2.2.1 ∈ zB ∧ (T k).1 = C
def zPut (own : String) (idx ci k : Nat) (fin : Bool) (ty : FieldType) : Prop := ∃ (C : String) (T : u_T) (N : Nat) (ty0 : Nat → FieldType), zcl[ci]? = some (C, T, N) ∧ k < N ∧ (∀ w ∈ u_ws C T N, w ∈ zB) ∧ Cond.fieldLink own idx C (T k).2.1 (T k).2.2.1 ∈ zB ∧ (T k).1 = C ∧ (∀ j, j < N → parseFieldDescriptor (T j).2.2.1 = some (ty0 j)) ∧ (∀ a, a < N → ∀ b, b < N → a ≠ b → (T a).2.1 ≠ (T b).2.1) ∧ (T k).2.2.2 = fin ∧ parseFieldDescriptor (T k).2.2.1 = some ty ∧ (fin = true → C = own)
def zCal (own : String) (idx : Nat) (y : MethodName) (bytes : ByteArray) (maxL : Nat) (ret : Option FieldType) (n : Nat) : Prop := Cond.methodLink own idx y ∈ zB ∧ Cond.initialized y.cls ∈ zB ∧ Cond.code y bytes maxL ret ∈ zB ∧ y.cls ≠ "java/lang/invoke/MethodHandle" ∧ y.cls ≠ "java/lang/invoke/VarHandle" ∧ (parseMethodDescriptor y.desc).map (fun d => d.parameters.length) = some n
def zCalN (own : String) (idx : Nat) (y : MethodName) (host : String) (bytes : ByteArray) (maxL : Nat) (ret : Option FieldType) (n : Nat) : Prop := Cond.methodLinkNest own idx y host ∈ lw_tbl ∧ Cond.initialized y.cls ∈ zB ∧ Cond.code y bytes maxL ret ∈ zB ∧ y.cls ≠ "java/lang/invoke/MethodHandle" ∧ y.cls ≠ "java/lang/invoke/VarHandle" ∧ (parseMethodDescriptor y.desc).map (fun d => d.parameters.length) = some n
theorem zGood {y : MethodName} {bytes : ByteArray} {maxL : Nat} {ret : Option FieldType} (h : Cond.code y bytes maxL ret ∈ zB) : GoodIn zB (Cond.code y bytes maxL ret :: zB) := by
  intro w hw
  have hm : w ∈ zB := by
    rcases List.mem_cons.mp hw with q | q
    · rw [q]; exact h
    · exact q
  exact ⟨hm, good_of_word (List.mem_filter.mp hm).2⟩
/-- contracts -/
def zQi (G : zG) (r : Int32) (h : zHp) : Array Value → State → Outcome → State → Prop := va_Qi (fun (r' : Int32) (_ : Unit) => r' = r) (fun _ t => zW G h t) (zA G)
def zQv (G : zG) (h : zHp) : Array Value → State → Outcome → State → Prop := va_Qv (fun (_ : Unit) => True) (fun _ t => zW G h t) (zA G)
def zQq (G : zG) (r : Option Nat) (h : zHp) : Array Value → State → Outcome → State → Prop := va_Qq (fun (r' : Option Nat) (_ : Unit) => r' = r) (fun _ t => zW G h t) (zA G)
def zMi (l : Launch) (y : MethodName) (bytes : ByteArray) (maxL : Nat) (ret : Option FieldType) (rm : Room) (G : zG) (av : List Value) (h : zHp) (r : Int32) (h' : zHp) : Prop := Met l y (Cond.code y bytes maxL ret :: zB) rm (va_Pc av (zW G h)) (zQi G r h') rm.cells rm.slots (zA G)
def zMv (l : Launch) (y : MethodName) (bytes : ByteArray) (maxL : Nat) (ret : Option FieldType) (rm : Room) (G : zG) (av : List Value) (h : zHp) (h' : zHp) : Prop := Met l y (Cond.code y bytes maxL ret :: zB) rm (va_Pc av (zW G h)) (zQv G h') rm.cells rm.slots (zA G)
def zMq (l : Launch) (y : MethodName) (bytes : ByteArray) (maxL : Nat) (ret : Option FieldType) (rm : Room) (G : zG) (av : List Value) (h : zHp) (r : Option Nat) (h' : zHp) : Prop := Met l y (Cond.code y bytes maxL ret :: zB) rm (va_Pc av (zW G h)) (zQq G r h') rm.cells rm.slots (zA G)
/-- a method's entry -/
theorem zEnter {p : Program} {l : Launch} {e : Env} {s : State} {m : MethodId} {args : Array Value} {below : List Frame} {meth : Method} {c : Code} {s₁ : State} {y : MethodName} {cc : ByteArray} {nL : Nat} {ret : Option FieldType} {rm : Room} {own : String} {G : zG} {h : zHp} (B : BodyLoose p l y (headSpec (Cond.code y cc nL ret :: zB) rm) cc nL ret e s m args below meth c s₁) (hml : c.maxLocals = nL) (hown : y.cls = own) (hW : zW G h s) : zF p s m args c meth cc nL own G ∧ zE G s h s.heap [] ∧ meth.sig.returnType = ret := by
  have hts := atoms_spec (ws := Cond.code y cc nL ret :: zB) B.pre
  refine ⟨⟨B.exec, B.bytes, hml, ?_, fun w hw => hts w (List.mem_cons_of_mem _ hw), B.notSynchronized, hW.2.1, hW.2.2.1, hW.2.2.2.1, hW.2.2.2.2⟩, ⟨hW.1, va_S.rf⟩, B.returns⟩
  rw [← hown]
  exact findClass_of_methodNamed B.named
