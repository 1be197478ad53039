/-! FerryCrews$Duties.<init>()V -/
theorem dX0_init_0 : decode cX0_init 0 = .ok (.aload_n 0, 1) := by decide +kernel
theorem dX0_init_1 : decode cX0_init 1 = .ok (.invokespecial 3, 3) := by decide +kernel
theorem dX0_init_4 : decode cX0_init 4 = .ok (.aload_n 0, 1) := by decide +kernel
theorem dX0_init_5 : decode cX0_init 5 = .ok (.sipush 1168, 3) := by decide +kernel
theorem dX0_init_8 : decode cX0_init 8 = .ok (.newarray .int, 2) := by decide +kernel
theorem dX0_init_10 : decode cX0_init 10 = .ok (.putfield 11, 3) := by decide +kernel
theorem dX0_init_13 : decode cX0_init 13 = .ok (.return_, 1) := by decide +kernel
set_option maxRecDepth 20000 in
theorem wo_X0_3 : Cond.methodLink RX0 3 objectInit ∈ zB := List.mem_filter.mpr ⟨List.mem_of_getElem? (i := 30) (by decide +kernel), by decide +kernel⟩
set_option maxRecDepth 20000 in
theorem wo_inst : Cond.instanceMethod objectInit ∈ zB := List.mem_filter.mpr ⟨List.mem_of_getElem? (i := 23) (by decide +kernel), by decide +kernel⟩
set_option maxRecDepth 20000 in
theorem wo_code : Cond.code objectInit ⟨#[0xb1]⟩ 1 none ∈ zB := List.mem_filter.mpr ⟨List.mem_of_getElem? (i := 24) (by decide +kernel), by decide +kernel⟩
set_option maxRecDepth 20000 in
theorem wr_0 : Cond.arrayClass .int ∈ zB := List.mem_filter.mpr ⟨List.mem_of_getElem? (i := 47) (by decide +kernel), by decide +kernel⟩
set_option maxRecDepth 20000 in
theorem wf_X0_11 : Cond.fieldLink RX0 11 RX0 "marks" "[I" ∈ zB := List.mem_filter.mpr ⟨List.mem_of_getElem? (i := 31) (by decide +kernel), by decide +kernel⟩
theorem p_X0_11 : zPut RX0 11 0 0 true (.array .int) := ⟨RX0, TX0, 4, tyX0, rfl, by decide, iX0, wf_X0_11, rfl, tyX0_ok, nmX0, rfl, by decide +kernel, fun _ => rfl⟩
def rm_X0_init : Room := { frames := 1, cells := 1, slots := 1168, locals := 20 }
set_option maxHeartbeats 4000000 in
set_option maxRecDepth 20000 in
theorem t_X0_init {p : Program} {l : Launch} {e : Env} {s : State} {m : MethodId} {args : Array Value} {below : List Frame} {meth : Method} {c : Code} {G : zG} (Z : zF p s m args c meth cX0_init 1 RX0 G) (hr : meth.sig.returnType = none) (hin : meth.name = "<init>") {out : zHp} {a0 : Nat} {h : zHp} {H : Heap} {locs : List Loc} {ls : Array Slot} {cells slots : Nat} (hf : f_X0_init a0 h = some out) (E : zE G s h H locs) (hl : lv_has ls 1 [(0, .ref a0)]) (hc : cells + 1 ≤ 1) (hs : slots + 1168 ≤ 1168) : W p l e rm_X0_init s m args below meth c H locs cells slots (MQ below (zQv G out) args s 1 1168 (zA G)) (F0 m 0 ls []) := by
  unfold f_X0_init at hf
  refine lv_aload_n Z.x Z.b dX0_init_0 rfl (lv_at hl 0 rfl) ?_
  refine z_obj Z E hl.1 wo_X0_3 wo_inst wo_code dX0_init_1 (by decide) (by decide) ?_
  refine lv_aload_n Z.x Z.b dX0_init_4 rfl (lv_at hl 0 rfl) ?_
  refine lv_sipush (v := 1168) Z.x Z.b dX0_init_5 (by decide) ?_
  refine z_newi (N := 1168) Z E wr_0 (by decide) (by decide) (by decide) (show _ ≤ 1 by omega) (show _ ≤ 1168 by omega) dX0_init_8 hf (fun q1 h2 H hf E => ?_)
  refine z_putF Z E hin p_X0_11 rfl rfl dX0_init_10 hf (fun h3 H locs hf E => ?_)
  refine W.widen (k := 1) (n := 1168) (by omega) (by omega) ?_
  exact z_vret Z E hr dX0_init_13 hf
set_option maxHeartbeats 4000000 in
set_option maxRecDepth 20000 in
theorem c_X0_init (l : Launch) (G : zG) (h : zHp) (h' : zHp) (a0 : Nat) (hf : f_X0_init a0 h = some h') : zMn l yX0_init cX0_init 1 rm_X0_init 1 1168 G [.ref a0] h h' := by
  refine Met.ofW (cc := cX0_init) (maxL := 1) (ret := none) (by decide) rfl ?_
  intro p e s m args below meth c s₁ B hml hv
  obtain ⟨rfl, hW⟩ := hv
  obtain ⟨Z, E, hr⟩ := zEnter (own := RX0) B hml rfl hW
  have hin : meth.name = "<init>" := (name_of_methodNamed B.named B.method).1
  have hl := lv_entry ([.ref a0]) (n := 1) (Nat.le_of_ble_eq_true rfl)
  rw [lg_entry_eq]
  generalize (lg_sl ([.ref a0]) ++ List.replicate (1 - (lg_sl ([.ref a0])).length) Slot.unset).toArray = ls at hl ⊢
  have hl : lv_has ls 1 [(0, .ref a0)] := hl
  exact t_X0_init (out := h') Z hr hin hf E hl (by decide) (by decide)
/-! FerryCrews$Duties.clear()V -/
theorem dX0_clear_0 : decode cX0_clear 0 = .ok (.iconst 0, 1) := by decide +kernel
theorem dX0_clear_1 : decode cX0_clear 1 = .ok (.istore_n 1, 1) := by decide +kernel
theorem dX0_clear_2 : decode cX0_clear 2 = .ok (.iload_n 1, 1) := by decide +kernel
theorem dX0_clear_3 : decode cX0_clear 3 = .ok (.aload_n 0, 1) := by decide +kernel
theorem dX0_clear_4 : decode cX0_clear 4 = .ok (.getfield 15, 3) := by decide +kernel
theorem dX0_clear_7 : decode cX0_clear 7 = .ok (.if_icmp .ge 23, 3) := by decide +kernel
theorem dX0_clear_10 : decode cX0_clear 10 = .ok (.iload_n 1, 1) := by decide +kernel
theorem dX0_clear_11 : decode cX0_clear 11 = .ok (.sipush 1168, 3) := by decide +kernel
theorem dX0_clear_14 : decode cX0_clear 14 = .ok (.if_icmp .ge 16, 3) := by decide +kernel
theorem dX0_clear_17 : decode cX0_clear 17 = .ok (.aload_n 0, 1) := by decide +kernel
theorem dX0_clear_18 : decode cX0_clear 18 = .ok (.getfield 11, 3) := by decide +kernel
theorem dX0_clear_21 : decode cX0_clear 21 = .ok (.iload_n 1, 1) := by decide +kernel
theorem dX0_clear_22 : decode cX0_clear 22 = .ok (.iconst 0, 1) := by decide +kernel
theorem dX0_clear_23 : decode cX0_clear 23 = .ok (.iastore, 1) := by decide +kernel
theorem dX0_clear_24 : decode cX0_clear 24 = .ok (.iinc 1 1, 3) := by decide +kernel
theorem dX0_clear_27 : decode cX0_clear 27 = .ok (.goto (-25), 3) := by decide +kernel
theorem dX0_clear_30 : decode cX0_clear 30 = .ok (.aload_n 0, 1) := by decide +kernel
theorem dX0_clear_31 : decode cX0_clear 31 = .ok (.iconst 0, 1) := by decide +kernel
theorem dX0_clear_32 : decode cX0_clear 32 = .ok (.putfield 19, 3) := by decide +kernel
theorem dX0_clear_35 : decode cX0_clear 35 = .ok (.aload_n 0, 1) := by decide +kernel
theorem dX0_clear_36 : decode cX0_clear 36 = .ok (.iconst 0, 1) := by decide +kernel
theorem dX0_clear_37 : decode cX0_clear 37 = .ok (.putfield 15, 3) := by decide +kernel
theorem dX0_clear_40 : decode cX0_clear 40 = .ok (.aload_n 0, 1) := by decide +kernel
theorem dX0_clear_41 : decode cX0_clear 41 = .ok (.iconst 0, 1) := by decide +kernel
theorem dX0_clear_42 : decode cX0_clear 42 = .ok (.putfield 22, 3) := by decide +kernel
theorem dX0_clear_45 : decode cX0_clear 45 = .ok (.return_, 1) := by decide +kernel
set_option maxRecDepth 20000 in
theorem wf_X0_15 : Cond.fieldLink RX0 15 RX0 "end" "I" ∈ zB := List.mem_filter.mpr ⟨List.mem_of_getElem? (i := 34) (by decide +kernel), by decide +kernel⟩
theorem q_X0_15 : zFld RX0 15 0 2 := ⟨RX0, TX0, 4, rfl, by decide, iX0, wf_X0_15, rfl⟩
theorem q_X0_11 : zFld RX0 11 0 0 := ⟨RX0, TX0, 4, rfl, by decide, iX0, wf_X0_11, rfl⟩
set_option maxRecDepth 20000 in
theorem wf_X0_19 : Cond.fieldLink RX0 19 RX0 "hours" "I" ∈ zB := List.mem_filter.mpr ⟨List.mem_of_getElem? (i := 32) (by decide +kernel), by decide +kernel⟩
theorem p_X0_19 : zPut RX0 19 0 1 false .int := ⟨RX0, TX0, 4, tyX0, rfl, by decide, iX0, wf_X0_19, rfl, tyX0_ok, nmX0, rfl, by decide +kernel, fun _ => rfl⟩
theorem p_X0_15 : zPut RX0 15 0 2 false .int := ⟨RX0, TX0, 4, tyX0, rfl, by decide, iX0, wf_X0_15, rfl, tyX0_ok, nmX0, rfl, by decide +kernel, fun _ => rfl⟩
set_option maxRecDepth 20000 in
theorem wf_X0_22 : Cond.fieldLink RX0 22 RX0 "collide" "Z" ∈ zB := List.mem_filter.mpr ⟨List.mem_of_getElem? (i := 36) (by decide +kernel), by decide +kernel⟩
theorem p_X0_22 : zPut RX0 22 0 3 false .boolean := ⟨RX0, TX0, 4, tyX0, rfl, by decide, iX0, wf_X0_22, rfl, tyX0_ok, nmX0, rfl, by decide +kernel, fun _ => rfl⟩
def rm_X0_clear : Room := { frames := 0, cells := 0, slots := 0, locals := 0 }
set_option maxHeartbeats 4000000 in
set_option maxRecDepth 20000 in
theorem t_X0_clear_30 {p : Program} {l : Launch} {e : Env} {s : State} {m : MethodId} {args : Array Value} {below : List Frame} {meth : Method} {c : Code} {G : zG} (Z : zF p s m args c meth cX0_clear 2 RX0 G) (hr : meth.sig.returnType = none) {out : zHp} {a0 : Nat} {h : zHp} {H : Heap} {locs : List Loc} {ls : Array Slot} (hf : f_X0_clear_30 a0 h = some out) (E : zE G s h H locs) (hl : lv_has ls 2 [(0, .ref a0)]) : W p l e rm_X0_clear s m args below meth c H locs 0 0 (MQ below (zQv G out) args s 0 0 (zA G)) (F0 m 30 ls []) := by
  unfold f_X0_clear_30 at hf
  refine lv_aload_n Z.x Z.b dX0_clear_30 rfl (lv_at hl 0 rfl) ?_
  refine lv_iconst (v := 0) Z.x Z.b dX0_clear_31 (by decide) ?_
  refine z_put Z E p_X0_19 rfl rfl dX0_clear_32 hf (fun h1 H locs hf E => ?_)
  refine lv_aload_n Z.x Z.b dX0_clear_35 rfl (lv_at hl 0 rfl) ?_
  refine lv_iconst (v := 0) Z.x Z.b dX0_clear_36 (by decide) ?_
  refine z_put Z E p_X0_15 rfl rfl dX0_clear_37 hf (fun h2 H locs hf E => ?_)
  refine lv_aload_n Z.x Z.b dX0_clear_40 rfl (lv_at hl 0 rfl) ?_
  refine lv_iconst (v := 0) Z.x Z.b dX0_clear_41 (by decide) ?_
  refine z_put Z E p_X0_22 rfl rfl dX0_clear_42 hf (fun h3 H locs hf E => ?_)
  exact z_vret Z E hr dX0_clear_45 hf
set_option maxHeartbeats 4000000 in
set_option maxRecDepth 20000 in
theorem t_X0_clear_2_body {p : Program} {l : Launch} {e : Env} {s : State} {m : MethodId} {args : Array Value} {below : List Frame} {meth : Method} {c : Code} {G : zG} (Z : zF p s m args c meth cX0_clear 2 RX0 G) (hr : meth.sig.returnType = none) {out : zHp} {r2 : Nat → Int32 → zHp → Option (zHp)} (k2 : ∀ {a0 : Nat} {a1 : Int32} {h : zHp} {H : Heap} {locs : List Loc} {ls : Array Slot}, r2 a0 a1 h = some out → zE G s h H locs → lv_has ls 2 [(0, .ref a0), (1, .int a1)] → W p l e rm_X0_clear s m args below meth c H locs 0 0 (MQ below (zQv G out) args s 0 0 (zA G)) (F0 m 2 ls [])) {a0 : Nat} {a1 : Int32} {h : zHp} {H : Heap} {locs : List Loc} {ls : Array Slot} (hf : f_X0_clear_2_body r2 a0 a1 h = some out) (E : zE G s h H locs) (hl : lv_has ls 2 [(0, .ref a0), (1, .int a1)]) : W p l e rm_X0_clear s m args below meth c H locs 0 0 (MQ below (zQv G out) args s 0 0 (zA G)) (F0 m 2 ls []) := by
  unfold f_X0_clear_2_body at hf
  refine lv_iload_n Z.x Z.b dX0_clear_2 rfl (lv_at hl 1 rfl) ?_
  refine lv_aload_n Z.x Z.b dX0_clear_3 rfl (lv_at hl 0 rfl) ?_
  refine z_getI Z E q_X0_15 dX0_clear_4 hf (fun v1 hf => ?_)
  refine lv_icmp_ge (tgt := 30) Z.x Z.b dX0_clear_7 (by decide) (fun c => ?_) (fun c => ?_)
  · have hf := zit hf c
    exact t_X0_clear_30 Z hr hf E (lv_sub hl [0] rfl)
  · have hf := zif_ hf c
    refine lv_iload_n Z.x Z.b dX0_clear_10 rfl (lv_at hl 1 rfl) ?_
    refine lv_sipush (v := 1168) Z.x Z.b dX0_clear_11 (by decide) ?_
    refine lv_icmp_ge (tgt := 30) Z.x Z.b dX0_clear_14 (by decide) (fun c => ?_) (fun c => ?_)
    · have hf := zit hf c
      exact t_X0_clear_30 Z hr hf E (lv_sub hl [0] rfl)
    · have hf := zif_ hf c
      refine lv_aload_n Z.x Z.b dX0_clear_17 rfl (lv_at hl 0 rfl) ?_
      refine z_getR Z E q_X0_11 dX0_clear_18 hf (fun v2 hf => ?_)
      refine lv_iload_n Z.x Z.b dX0_clear_21 rfl (lv_at hl 1 rfl) ?_
      refine lv_iconst (v := 0) Z.x Z.b dX0_clear_22 (by decide) ?_
      refine z_iast Z E dX0_clear_23 hf (fun h3 H locs hf E => ?_)
      refine lv_iinc (v := (a1 + 1)) (lv' := [(1, .int (a1 + 1)), (0, .ref a0)]) Z.x Z.b dX0_clear_24 hl (k := 1) rfl rfl (by decide) rfl (fun ls hl => ?_)
      refine lv_goto (tgt := 2) Z.x Z.b dX0_clear_27 (by decide) ?_
      exact k2 hf E (lv_sub hl [1, 0] rfl)
theorem t_X0_clear_2 {p : Program} {l : Launch} {e : Env} {s : State} {m : MethodId} {args : Array Value} {below : List Frame} {meth : Method} {c : Code} {G : zG} (Z : zF p s m args c meth cX0_clear 2 RX0 G) (hr : meth.sig.returnType = none) {out : zHp} : ∀ (n : Nat), ∀ {a0 : Nat} {a1 : Int32} {h : zHp} {H : Heap} {locs : List Loc} {ls : Array Slot}, f_X0_clear_2 n a0 a1 h = some out → zE G s h H locs → lv_has ls 2 [(0, .ref a0), (1, .int a1)] → W p l e rm_X0_clear s m args below meth c H locs 0 0 (MQ below (zQv G out) args s 0 0 (zA G)) (F0 m 2 ls [])
  | 0 => fun hf => by cases hf
  | n + 1 => fun hf E hl => t_X0_clear_2_body Z hr (r2 := f_X0_clear_2 n) (t_X0_clear_2 Z hr n) hf E hl
set_option maxHeartbeats 4000000 in
set_option maxRecDepth 20000 in
theorem t_X0_clear {p : Program} {l : Launch} {e : Env} {s : State} {m : MethodId} {args : Array Value} {below : List Frame} {meth : Method} {c : Code} {G : zG} (Z : zF p s m args c meth cX0_clear 2 RX0 G) (hr : meth.sig.returnType = none) {out : zHp} {a0 : Nat} {h : zHp} {H : Heap} {locs : List Loc} {ls : Array Slot} (hf : f_X0_clear a0 h = some out) (E : zE G s h H locs) (hl : lv_has ls 2 [(0, .ref a0)]) : W p l e rm_X0_clear s m args below meth c H locs 0 0 (MQ below (zQv G out) args s 0 0 (zA G)) (F0 m 0 ls []) := by
  unfold f_X0_clear at hf
  refine lv_iconst (v := 0) Z.x Z.b dX0_clear_0 (by decide) ?_
  refine lv_istore_n (lv' := [(1, .int 0), (0, .ref a0)]) Z.x Z.b dX0_clear_1 rfl hl (by decide) rfl (fun ls hl => ?_)
  exact t_X0_clear_2 Z hr zN hf E (lv_sub hl [1, 0] rfl)
set_option maxHeartbeats 4000000 in
set_option maxRecDepth 20000 in
theorem c_X0_clear (l : Launch) (G : zG) (h : zHp) (h' : zHp) (a0 : Nat) (hf : f_X0_clear a0 h = some h') : zM0 l yX0_clear cX0_clear 2 none rm_X0_clear G [.ref a0] h (zQv G h') := by
  refine Met.ofW (cc := cX0_clear) (maxL := 2) (ret := none) (by decide) rfl ?_
  intro p e s m args below meth c s₁ B hml hv
  obtain ⟨rfl, hW⟩ := hv
  obtain ⟨Z, E, hr⟩ := zEnter (own := RX0) B hml rfl hW
  have hl := lv_entry ([.ref a0]) (n := 2) (Nat.le_of_ble_eq_true rfl)
  rw [lg_entry_eq]
  generalize (lg_sl ([.ref a0]) ++ List.replicate (2 - (lg_sl ([.ref a0])).length) Slot.unset).toArray = ls at hl ⊢
  have hl : lv_has ls 2 [(0, .ref a0)] := hl
  exact t_X0_clear (out := h') Z hr hf E hl
/-! FerryCrews$Duties.mark(II)V -/
theorem dX0_mark_0 : decode cX0_mark 0 = .ok (.iload_n 1, 1) := by decide +kernel
theorem dX0_mark_1 : decode cX0_mark 1 = .ok (.ifCond .lt 10, 3) := by decide +kernel
theorem dX0_mark_4 : decode cX0_mark 4 = .ok (.iload_n 1, 1) := by decide +kernel
theorem dX0_mark_5 : decode cX0_mark 5 = .ok (.sipush 1168, 3) := by decide +kernel
theorem dX0_mark_8 : decode cX0_mark 8 = .ok (.if_icmp .lt 4, 3) := by decide +kernel
theorem dX0_mark_11 : decode cX0_mark 11 = .ok (.return_, 1) := by decide +kernel
theorem dX0_mark_12 : decode cX0_mark 12 = .ok (.aload_n 0, 1) := by decide +kernel
theorem dX0_mark_13 : decode cX0_mark 13 = .ok (.getfield 11, 3) := by decide +kernel
theorem dX0_mark_16 : decode cX0_mark 16 = .ok (.iload_n 1, 1) := by decide +kernel
theorem dX0_mark_17 : decode cX0_mark 17 = .ok (.iaload, 1) := by decide +kernel
theorem dX0_mark_18 : decode cX0_mark 18 = .ok (.ifCond .eq 8, 3) := by decide +kernel
theorem dX0_mark_21 : decode cX0_mark 21 = .ok (.aload_n 0, 1) := by decide +kernel
theorem dX0_mark_22 : decode cX0_mark 22 = .ok (.iconst 1, 1) := by decide +kernel
theorem dX0_mark_23 : decode cX0_mark 23 = .ok (.putfield 22, 3) := by decide +kernel
theorem dX0_mark_26 : decode cX0_mark 26 = .ok (.aload_n 0, 1) := by decide +kernel
theorem dX0_mark_27 : decode cX0_mark 27 = .ok (.getfield 11, 3) := by decide +kernel
theorem dX0_mark_30 : decode cX0_mark 30 = .ok (.iload_n 1, 1) := by decide +kernel
theorem dX0_mark_31 : decode cX0_mark 31 = .ok (.iload_n 2, 1) := by decide +kernel
theorem dX0_mark_32 : decode cX0_mark 32 = .ok (.iastore, 1) := by decide +kernel
theorem dX0_mark_33 : decode cX0_mark 33 = .ok (.aload_n 0, 1) := by decide +kernel
theorem dX0_mark_34 : decode cX0_mark 34 = .ok (.dup, 1) := by decide +kernel
theorem dX0_mark_35 : decode cX0_mark 35 = .ok (.getfield 19, 3) := by decide +kernel
theorem dX0_mark_38 : decode cX0_mark 38 = .ok (.iconst 1, 1) := by decide +kernel
theorem dX0_mark_39 : decode cX0_mark 39 = .ok (.iadd, 1) := by decide +kernel
theorem dX0_mark_40 : decode cX0_mark 40 = .ok (.putfield 19, 3) := by decide +kernel
theorem dX0_mark_43 : decode cX0_mark 43 = .ok (.iload_n 1, 1) := by decide +kernel
theorem dX0_mark_44 : decode cX0_mark 44 = .ok (.aload_n 0, 1) := by decide +kernel
theorem dX0_mark_45 : decode cX0_mark 45 = .ok (.getfield 15, 3) := by decide +kernel
theorem dX0_mark_48 : decode cX0_mark 48 = .ok (.if_icmp .lt 10, 3) := by decide +kernel
theorem dX0_mark_51 : decode cX0_mark 51 = .ok (.aload_n 0, 1) := by decide +kernel
theorem dX0_mark_52 : decode cX0_mark 52 = .ok (.iload_n 1, 1) := by decide +kernel
theorem dX0_mark_53 : decode cX0_mark 53 = .ok (.iconst 1, 1) := by decide +kernel
theorem dX0_mark_54 : decode cX0_mark 54 = .ok (.iadd, 1) := by decide +kernel
theorem dX0_mark_55 : decode cX0_mark 55 = .ok (.putfield 15, 3) := by decide +kernel
theorem dX0_mark_58 : decode cX0_mark 58 = .ok (.return_, 1) := by decide +kernel
theorem q_X0_19 : zFld RX0 19 0 1 := ⟨RX0, TX0, 4, rfl, by decide, iX0, wf_X0_19, rfl⟩
def rm_X0_mark : Room := { frames := 0, cells := 0, slots := 0, locals := 0 }
set_option maxHeartbeats 4000000 in
set_option maxRecDepth 20000 in
theorem t_X0_mark_26 {p : Program} {l : Launch} {e : Env} {s : State} {m : MethodId} {args : Array Value} {below : List Frame} {meth : Method} {c : Code} {G : zG} (Z : zF p s m args c meth cX0_mark 3 RX0 G) (hr : meth.sig.returnType = none) {out : zHp} {a0 : Nat} {a1 : Int32} {a2 : Int32} {h : zHp} {H : Heap} {locs : List Loc} {ls : Array Slot} (hf : f_X0_mark_26 a0 a1 a2 h = some out) (E : zE G s h H locs) (hl : lv_has ls 3 [(0, .ref a0), (1, .int a1), (2, .int a2)]) : W p l e rm_X0_mark s m args below meth c H locs 0 0 (MQ below (zQv G out) args s 0 0 (zA G)) (F0 m 26 ls []) := by
  unfold f_X0_mark_26 at hf
  refine lv_aload_n Z.x Z.b dX0_mark_26 rfl (lv_at hl 0 rfl) ?_
  refine z_getR Z E q_X0_11 dX0_mark_27 hf (fun v1 hf => ?_)
  refine lv_iload_n Z.x Z.b dX0_mark_30 rfl (lv_at hl 1 rfl) ?_
  refine lv_iload_n Z.x Z.b dX0_mark_31 rfl (lv_at hl 2 rfl) ?_
  refine z_iast Z E dX0_mark_32 hf (fun h2 H locs hf E => ?_)
  refine lv_aload_n Z.x Z.b dX0_mark_33 rfl (lv_at hl 0 rfl) ?_
  refine lv_dup Z.x Z.b dX0_mark_34 rfl ?_
  refine z_getI Z E q_X0_19 dX0_mark_35 hf (fun v3 hf => ?_)
  refine lv_iconst (v := 1) Z.x Z.b dX0_mark_38 (by decide) ?_
  refine lv_iadd Z.x Z.b dX0_mark_39 ?_
  refine z_put Z E p_X0_19 rfl rfl dX0_mark_40 hf (fun h4 H locs hf E => ?_)
  refine lv_iload_n Z.x Z.b dX0_mark_43 rfl (lv_at hl 1 rfl) ?_
  refine lv_aload_n Z.x Z.b dX0_mark_44 rfl (lv_at hl 0 rfl) ?_
  refine z_getI Z E q_X0_15 dX0_mark_45 hf (fun v5 hf => ?_)
  refine lv_icmp_lt (tgt := 58) Z.x Z.b dX0_mark_48 (by decide) (fun c => ?_) (fun c => ?_)
  · have hf := zit hf c
    exact z_vret Z E hr dX0_mark_58 hf
  · have hf := zif_ hf c
    refine lv_aload_n Z.x Z.b dX0_mark_51 rfl (lv_at hl 0 rfl) ?_
    refine lv_iload_n Z.x Z.b dX0_mark_52 rfl (lv_at hl 1 rfl) ?_
    refine lv_iconst (v := 1) Z.x Z.b dX0_mark_53 (by decide) ?_
    refine lv_iadd Z.x Z.b dX0_mark_54 ?_
    refine z_put Z E p_X0_15 rfl rfl dX0_mark_55 hf (fun h6 H locs hf E => ?_)
    exact z_vret Z E hr dX0_mark_58 hf
set_option maxHeartbeats 4000000 in
set_option maxRecDepth 20000 in
theorem t_X0_mark {p : Program} {l : Launch} {e : Env} {s : State} {m : MethodId} {args : Array Value} {below : List Frame} {meth : Method} {c : Code} {G : zG} (Z : zF p s m args c meth cX0_mark 3 RX0 G) (hr : meth.sig.returnType = none) {out : zHp} {a0 : Nat} {a1 : Int32} {a2 : Int32} {h : zHp} {H : Heap} {locs : List Loc} {ls : Array Slot} (hf : f_X0_mark a0 a1 a2 h = some out) (E : zE G s h H locs) (hl : lv_has ls 3 [(0, .ref a0), (1, .int a1), (2, .int a2)]) : W p l e rm_X0_mark s m args below meth c H locs 0 0 (MQ below (zQv G out) args s 0 0 (zA G)) (F0 m 0 ls []) := by
  unfold f_X0_mark at hf
  refine lv_iload_n Z.x Z.b dX0_mark_0 rfl (lv_at hl 1 rfl) ?_
  refine lv_if_lt (tgt := 11) Z.x Z.b dX0_mark_1 (by decide) (fun c => ?_) (fun c => ?_)
  · have hf := zit hf c
    exact z_vret Z E hr dX0_mark_11 hf
  · have hf := zif_ hf c
    refine lv_iload_n Z.x Z.b dX0_mark_4 rfl (lv_at hl 1 rfl) ?_
    refine lv_sipush (v := 1168) Z.x Z.b dX0_mark_5 (by decide) ?_
    refine lv_icmp_lt (tgt := 12) Z.x Z.b dX0_mark_8 (by decide) (fun c => ?_) (fun c => ?_)
    · have hf := zit hf c
      refine lv_aload_n Z.x Z.b dX0_mark_12 rfl (lv_at hl 0 rfl) ?_
      refine z_getR Z E q_X0_11 dX0_mark_13 hf (fun v1 hf => ?_)
      refine lv_iload_n Z.x Z.b dX0_mark_16 rfl (lv_at hl 1 rfl) ?_
      refine z_iald Z E dX0_mark_17 hf (fun v2 hf => ?_)
      refine lv_if_eq (tgt := 26) Z.x Z.b dX0_mark_18 (by decide) (fun c => ?_) (fun c => ?_)
      · have hf := zit hf c
        exact t_X0_mark_26 Z hr hf E (lv_sub hl [0, 1, 2] rfl)
      · have hf := zif_ hf c
        refine lv_aload_n Z.x Z.b dX0_mark_21 rfl (lv_at hl 0 rfl) ?_
        refine lv_iconst (v := 1) Z.x Z.b dX0_mark_22 (by decide) ?_
        refine z_put Z E p_X0_22 rfl rfl dX0_mark_23 hf (fun h3 H locs hf E => ?_)
        exact t_X0_mark_26 Z hr hf E (lv_sub hl [0, 1, 2] rfl)
    · have hf := zif_ hf c
      exact z_vret Z E hr dX0_mark_11 hf
set_option maxHeartbeats 4000000 in
set_option maxRecDepth 20000 in
theorem c_X0_mark (l : Launch) (G : zG) (h : zHp) (h' : zHp) (a0 : Nat) (a1 : Int32) (a2 : Int32) (hf : f_X0_mark a0 a1 a2 h = some h') : zM0 l yX0_mark cX0_mark 3 none rm_X0_mark G [.ref a0, .int a1, .int a2] h (zQv G h') := by
  refine Met.ofW (cc := cX0_mark) (maxL := 3) (ret := none) (by decide) rfl ?_
  intro p e s m args below meth c s₁ B hml hv
  obtain ⟨rfl, hW⟩ := hv
  obtain ⟨Z, E, hr⟩ := zEnter (own := RX0) B hml rfl hW
  have hl := lv_entry ([.ref a0, .int a1, .int a2]) (n := 3) (Nat.le_of_ble_eq_true rfl)
  rw [lg_entry_eq]
  generalize (lg_sl ([.ref a0, .int a1, .int a2]) ++ List.replicate (3 - (lg_sl ([.ref a0, .int a1, .int a2])).length) Slot.unset).toArray = ls at hl ⊢
  have hl : lv_has ls 3 [(0, .ref a0), (1, .int a1), (2, .int a2)] := hl
  exact t_X0_mark (out := h') Z hr hf E hl
/-! FerryCrews$Duties.addSailing(LFerryCrews$Sailing;)V -/
theorem dX0_addSailing_0 : decode cX0_addSailing 0 = .ok (.aload_n 1, 1) := by decide +kernel
theorem dX0_addSailing_1 : decode cX0_addSailing 1 = .ok (.getfield 26, 3) := by decide +kernel
theorem dX0_addSailing_4 : decode cX0_addSailing 4 = .ok (.istore_n 2, 1) := by decide +kernel
theorem dX0_addSailing_5 : decode cX0_addSailing 5 = .ok (.iload_n 2, 1) := by decide +kernel
theorem dX0_addSailing_6 : decode cX0_addSailing 6 = .ok (.aload_n 1, 1) := by decide +kernel
theorem dX0_addSailing_7 : decode cX0_addSailing 7 = .ok (.getfield 31, 3) := by decide +kernel
theorem dX0_addSailing_10 : decode cX0_addSailing 10 = .ok (.if_icmp .ge 20, 3) := by decide +kernel
theorem dX0_addSailing_13 : decode cX0_addSailing 13 = .ok (.aload_n 0, 1) := by decide +kernel
theorem dX0_addSailing_14 : decode cX0_addSailing 14 = .ok (.iload_n 2, 1) := by decide +kernel
theorem dX0_addSailing_15 : decode cX0_addSailing 15 = .ok (.aload_n 1, 1) := by decide +kernel
theorem dX0_addSailing_16 : decode cX0_addSailing 16 = .ok (.getfield 32, 3) := by decide +kernel
theorem dX0_addSailing_19 : decode cX0_addSailing 19 = .ok (.iconst 1, 1) := by decide +kernel
theorem dX0_addSailing_20 : decode cX0_addSailing 20 = .ok (.iadd, 1) := by decide +kernel
theorem dX0_addSailing_21 : decode cX0_addSailing 21 = .ok (.invokevirtual 35, 3) := by decide +kernel
theorem dX0_addSailing_24 : decode cX0_addSailing 24 = .ok (.iinc 2 1, 3) := by decide +kernel
theorem dX0_addSailing_27 : decode cX0_addSailing 27 = .ok (.goto (-22), 3) := by decide +kernel
theorem dX0_addSailing_30 : decode cX0_addSailing 30 = .ok (.return_, 1) := by decide +kernel
set_option maxRecDepth 20000 in
theorem wf_X0_26 : Cond.fieldLink RX0 26 RX4 "start" "I" ∈ zB := List.mem_filter.mpr ⟨List.mem_of_getElem? (i := 77) (by decide +kernel), by decide +kernel⟩
theorem q_X0_26 : zFld RX0 26 4 2 := ⟨RX4, TX4, 9, rfl, by decide, iX4, wf_X0_26, rfl⟩
set_option maxRecDepth 20000 in
theorem wf_X0_31 : Cond.fieldLink RX0 31 RX4 "end" "I" ∈ zB := List.mem_filter.mpr ⟨List.mem_of_getElem? (i := 81) (by decide +kernel), by decide +kernel⟩
theorem q_X0_31 : zFld RX0 31 4 3 := ⟨RX4, TX4, 9, rfl, by decide, iX4, wf_X0_31, rfl⟩
set_option maxRecDepth 20000 in
theorem wf_X0_32 : Cond.fieldLink RX0 32 RX4 "ferry" "I" ∈ zB := List.mem_filter.mpr ⟨List.mem_of_getElem? (i := 74) (by decide +kernel), by decide +kernel⟩
theorem q_X0_32 : zFld RX0 32 4 1 := ⟨RX4, TX4, 9, rfl, by decide, iX4, wf_X0_32, rfl⟩
set_option maxRecDepth 20000 in
theorem wi_X0 : Cond.initialized RX0 ∈ zB := List.mem_filter.mpr ⟨List.mem_of_getElem? (i := 8) (by decide +kernel), by decide +kernel⟩
set_option maxRecDepth 20000 in
theorem wc_X0_mark : Cond.code yX0_mark cX0_mark 3 none ∈ zB := List.mem_filter.mpr ⟨List.mem_of_getElem? (i := 322) (by decide +kernel), by decide +kernel⟩
set_option maxRecDepth 20000 in
theorem wm_X0_35 : Cond.methodLink RX0 35 yX0_mark ∈ zB := List.mem_filter.mpr ⟨List.mem_of_getElem? (i := 319) (by decide +kernel), by decide +kernel⟩
theorem k_X0_35 : zCal RX0 35 yX0_mark cX0_mark 3 none 2 := ⟨wm_X0_35, wi_X0, wc_X0_mark, by decide +kernel, by decide +kernel, by decide +kernel⟩
set_option maxRecDepth 20000 in
theorem wn_X0_mark : Cond.instanceMethod yX0_mark ∈ zB := List.mem_filter.mpr ⟨List.mem_of_getElem? (i := 321) (by decide +kernel), by decide +kernel⟩
set_option maxRecDepth 20000 in
theorem ws_X0_mark : Cond.selects RX0 yX0_mark yX0_mark ∈ zB := List.mem_filter.mpr ⟨List.mem_of_getElem? (i := 1) (by decide +kernel), by decide +kernel⟩
theorem v_X0_mark : zVir yX0_mark 0 := ⟨wn_X0_mark, ws_X0_mark, TX0, 4, rfl⟩
def rm_X0_addSailing : Room := { frames := 1, cells := 0, slots := 0, locals := 22 }
set_option maxHeartbeats 4000000 in
set_option maxRecDepth 20000 in
theorem t_X0_addSailing_5_body {p : Program} {l : Launch} {e : Env} {s : State} {m : MethodId} {args : Array Value} {below : List Frame} {meth : Method} {c : Code} {G : zG} (Z : zF p s m args c meth cX0_addSailing 3 RX0 G) (hr : meth.sig.returnType = none) {out : zHp} {r5 : Nat → Nat → Int32 → zHp → Option (zHp)} (k5 : ∀ {a0 : Nat} {a1 : Nat} {a2 : Int32} {h : zHp} {H : Heap} {locs : List Loc} {ls : Array Slot}, r5 a0 a1 a2 h = some out → zE G s h H locs → lv_has ls 3 [(0, .ref a0), (1, .ref a1), (2, .int a2)] → W p l e rm_X0_addSailing s m args below meth c H locs 0 0 (MQ below (zQv G out) args s 0 0 (zA G)) (F0 m 5 ls [])) {a0 : Nat} {a1 : Nat} {a2 : Int32} {h : zHp} {H : Heap} {locs : List Loc} {ls : Array Slot} (hf : f_X0_addSailing_5_body r5 a0 a1 a2 h = some out) (E : zE G s h H locs) (hl : lv_has ls 3 [(0, .ref a0), (1, .ref a1), (2, .int a2)]) : W p l e rm_X0_addSailing s m args below meth c H locs 0 0 (MQ below (zQv G out) args s 0 0 (zA G)) (F0 m 5 ls []) := by
  unfold f_X0_addSailing_5_body at hf
  refine lv_iload_n Z.x Z.b dX0_addSailing_5 rfl (lv_at hl 2 rfl) ?_
  refine lv_aload_n Z.x Z.b dX0_addSailing_6 rfl (lv_at hl 1 rfl) ?_
  refine z_getI Z E q_X0_31 dX0_addSailing_7 hf (fun v1 hf => ?_)
  refine lv_icmp_ge (tgt := 30) Z.x Z.b dX0_addSailing_10 (by decide) (fun c => ?_) (fun c => ?_)
  · have hf := zit hf c
    exact z_vret Z E hr dX0_addSailing_30 hf
  · have hf := zif_ hf c
    refine lv_aload_n Z.x Z.b dX0_addSailing_13 rfl (lv_at hl 0 rfl) ?_
    refine lv_iload_n Z.x Z.b dX0_addSailing_14 rfl (lv_at hl 2 rfl) ?_
    refine lv_aload_n Z.x Z.b dX0_addSailing_15 rfl (lv_at hl 1 rfl) ?_
    refine z_getI Z E q_X0_32 dX0_addSailing_16 hf (fun v2 hf => ?_)
    refine lv_iconst (v := 1) Z.x Z.b dX0_addSailing_19 (by decide) ?_
    refine lv_iadd Z.x Z.b dX0_addSailing_20 ?_
    refine z_Vv (As := [.int a2, .int (v2 + 1)]) Z E hl.1 k_X0_35 v_X0_mark hf (fun h' e => c_X0_mark l G h h' a0 a2 (v2 + 1) e) rfl rfl (Nat.le_of_ble_eq_true rfl) (zRm_of rfl (Nat.zero_le _) (Nat.zero_le _)) dX0_addSailing_21 (fun h3 H locs hf E => ?_)
    refine lv_iinc (v := (a2 + 1)) (lv' := [(2, .int (a2 + 1)), (0, .ref a0), (1, .ref a1)]) Z.x Z.b dX0_addSailing_24 hl (k := 2) rfl rfl (by decide) rfl (fun ls hl => ?_)
    refine lv_goto (tgt := 5) Z.x Z.b dX0_addSailing_27 (by decide) ?_
    exact k5 hf E (lv_sub hl [1, 2, 0] rfl)
theorem t_X0_addSailing_5 {p : Program} {l : Launch} {e : Env} {s : State} {m : MethodId} {args : Array Value} {below : List Frame} {meth : Method} {c : Code} {G : zG} (Z : zF p s m args c meth cX0_addSailing 3 RX0 G) (hr : meth.sig.returnType = none) {out : zHp} : ∀ (n : Nat), ∀ {a0 : Nat} {a1 : Nat} {a2 : Int32} {h : zHp} {H : Heap} {locs : List Loc} {ls : Array Slot}, f_X0_addSailing_5 n a0 a1 a2 h = some out → zE G s h H locs → lv_has ls 3 [(0, .ref a0), (1, .ref a1), (2, .int a2)] → W p l e rm_X0_addSailing s m args below meth c H locs 0 0 (MQ below (zQv G out) args s 0 0 (zA G)) (F0 m 5 ls [])
  | 0 => fun hf => by cases hf
  | n + 1 => fun hf E hl => t_X0_addSailing_5_body Z hr (r5 := f_X0_addSailing_5 n) (t_X0_addSailing_5 Z hr n) hf E hl
set_option maxHeartbeats 4000000 in
set_option maxRecDepth 20000 in
theorem t_X0_addSailing {p : Program} {l : Launch} {e : Env} {s : State} {m : MethodId} {args : Array Value} {below : List Frame} {meth : Method} {c : Code} {G : zG} (Z : zF p s m args c meth cX0_addSailing 3 RX0 G) (hr : meth.sig.returnType = none) {out : zHp} {a0 : Nat} {a1 : Nat} {h : zHp} {H : Heap} {locs : List Loc} {ls : Array Slot} (hf : f_X0_addSailing a0 a1 h = some out) (E : zE G s h H locs) (hl : lv_has ls 3 [(0, .ref a0), (1, .ref a1)]) : W p l e rm_X0_addSailing s m args below meth c H locs 0 0 (MQ below (zQv G out) args s 0 0 (zA G)) (F0 m 0 ls []) := by
  unfold f_X0_addSailing at hf
  refine lv_aload_n Z.x Z.b dX0_addSailing_0 rfl (lv_at hl 1 rfl) ?_
  refine z_getI Z E q_X0_26 dX0_addSailing_1 hf (fun v1 hf => ?_)
  refine lv_istore_n (lv' := [(2, .int v1), (0, .ref a0), (1, .ref a1)]) Z.x Z.b dX0_addSailing_4 rfl hl (by decide) rfl (fun ls hl => ?_)
  exact t_X0_addSailing_5 Z hr zN hf E (lv_sub hl [1, 2, 0] rfl)
set_option maxHeartbeats 4000000 in
set_option maxRecDepth 20000 in
theorem c_X0_addSailing (l : Launch) (G : zG) (h : zHp) (h' : zHp) (a0 : Nat) (a1 : Nat) (hf : f_X0_addSailing a0 a1 h = some h') : zM0 l yX0_addSailing cX0_addSailing 3 none rm_X0_addSailing G [.ref a0, .ref a1] h (zQv G h') := by
  refine Met.ofW (cc := cX0_addSailing) (maxL := 3) (ret := none) (by decide) rfl ?_
  intro p e s m args below meth c s₁ B hml hv
  obtain ⟨rfl, hW⟩ := hv
  obtain ⟨Z, E, hr⟩ := zEnter (own := RX0) B hml rfl hW
  have hl := lv_entry ([.ref a0, .ref a1]) (n := 3) (Nat.le_of_ble_eq_true rfl)
  rw [lg_entry_eq]
  generalize (lg_sl ([.ref a0, .ref a1]) ++ List.replicate (3 - (lg_sl ([.ref a0, .ref a1])).length) Slot.unset).toArray = ls at hl ⊢
  have hl : lv_has ls 3 [(0, .ref a0), (1, .ref a1)] := hl
  exact t_X0_addSailing (out := h') Z hr hf E hl
/-! FerryCrews$Duties.addHandover(LFerryCrews$Sailing;)V -/
theorem dX0_addHandover_0 : decode cX0_addHandover 0 = .ok (.aload_n 1, 1) := by decide +kernel
theorem dX0_addHandover_1 : decode cX0_addHandover 1 = .ok (.getfield 26, 3) := by decide +kernel
theorem dX0_addHandover_4 : decode cX0_addHandover 4 = .ok (.iconst 1, 1) := by decide +kernel
theorem dX0_addHandover_5 : decode cX0_addHandover 5 = .ok (.isub, 1) := by decide +kernel
theorem dX0_addHandover_6 : decode cX0_addHandover 6 = .ok (.istore_n 2, 1) := by decide +kernel
theorem dX0_addHandover_7 : decode cX0_addHandover 7 = .ok (.iload_n 2, 1) := by decide +kernel
theorem dX0_addHandover_8 : decode cX0_addHandover 8 = .ok (.ifCond .lt 32, 3) := by decide +kernel
theorem dX0_addHandover_11 : decode cX0_addHandover 11 = .ok (.iload_n 2, 1) := by decide +kernel
theorem dX0_addHandover_12 : decode cX0_addHandover 12 = .ok (.sipush 1168, 3) := by decide +kernel
theorem dX0_addHandover_15 : decode cX0_addHandover 15 = .ok (.if_icmp .ge 25, 3) := by decide +kernel
theorem dX0_addHandover_18 : decode cX0_addHandover 18 = .ok (.aload_n 0, 1) := by decide +kernel
theorem dX0_addHandover_19 : decode cX0_addHandover 19 = .ok (.getfield 11, 3) := by decide +kernel
theorem dX0_addHandover_22 : decode cX0_addHandover 22 = .ok (.iload_n 2, 1) := by decide +kernel
theorem dX0_addHandover_23 : decode cX0_addHandover 23 = .ok (.iaload, 1) := by decide +kernel
theorem dX0_addHandover_24 : decode cX0_addHandover 24 = .ok (.aload_n 1, 1) := by decide +kernel
theorem dX0_addHandover_25 : decode cX0_addHandover 25 = .ok (.getfield 32, 3) := by decide +kernel
theorem dX0_addHandover_28 : decode cX0_addHandover 28 = .ok (.iconst 1, 1) := by decide +kernel
theorem dX0_addHandover_29 : decode cX0_addHandover 29 = .ok (.iadd, 1) := by decide +kernel
theorem dX0_addHandover_30 : decode cX0_addHandover 30 = .ok (.if_icmp .eq 10, 3) := by decide +kernel
theorem dX0_addHandover_33 : decode cX0_addHandover 33 = .ok (.aload_n 0, 1) := by decide +kernel
theorem dX0_addHandover_34 : decode cX0_addHandover 34 = .ok (.iload_n 2, 1) := by decide +kernel
theorem dX0_addHandover_35 : decode cX0_addHandover 35 = .ok (.bipush 7, 2) := by decide +kernel
theorem dX0_addHandover_37 : decode cX0_addHandover 37 = .ok (.invokevirtual 35, 3) := by decide +kernel
theorem dX0_addHandover_40 : decode cX0_addHandover 40 = .ok (.return_, 1) := by decide +kernel
def rm_X0_addHandover : Room := { frames := 1, cells := 0, slots := 0, locals := 22 }
set_option maxHeartbeats 4000000 in
set_option maxRecDepth 20000 in
theorem t_X0_addHandover {p : Program} {l : Launch} {e : Env} {s : State} {m : MethodId} {args : Array Value} {below : List Frame} {meth : Method} {c : Code} {G : zG} (Z : zF p s m args c meth cX0_addHandover 3 RX0 G) (hr : meth.sig.returnType = none) {out : zHp} {a0 : Nat} {a1 : Nat} {h : zHp} {H : Heap} {locs : List Loc} {ls : Array Slot} (hf : f_X0_addHandover a0 a1 h = some out) (E : zE G s h H locs) (hl : lv_has ls 3 [(0, .ref a0), (1, .ref a1)]) : W p l e rm_X0_addHandover s m args below meth c H locs 0 0 (MQ below (zQv G out) args s 0 0 (zA G)) (F0 m 0 ls []) := by
  unfold f_X0_addHandover at hf
  refine lv_aload_n Z.x Z.b dX0_addHandover_0 rfl (lv_at hl 1 rfl) ?_
  refine z_getI Z E q_X0_26 dX0_addHandover_1 hf (fun v1 hf => ?_)
  refine lv_iconst (v := 1) Z.x Z.b dX0_addHandover_4 (by decide) ?_
  refine lv_isub Z.x Z.b dX0_addHandover_5 ?_
  refine lv_istore_n (lv' := [(2, .int (v1 - 1)), (0, .ref a0), (1, .ref a1)]) Z.x Z.b dX0_addHandover_6 rfl hl (by decide) rfl (fun ls hl => ?_)
  refine lv_iload_n Z.x Z.b dX0_addHandover_7 rfl (lv_at hl 0 rfl) ?_
  refine lv_if_lt (tgt := 40) Z.x Z.b dX0_addHandover_8 (by decide) (fun c => ?_) (fun c => ?_)
  · have hf := zit hf c
    exact z_vret Z E hr dX0_addHandover_40 hf
  · have hf := zif_ hf c
    refine lv_iload_n Z.x Z.b dX0_addHandover_11 rfl (lv_at hl 0 rfl) ?_
    refine lv_sipush (v := 1168) Z.x Z.b dX0_addHandover_12 (by decide) ?_
    refine lv_icmp_ge (tgt := 40) Z.x Z.b dX0_addHandover_15 (by decide) (fun c => ?_) (fun c => ?_)
    · have hf := zit hf c
      exact z_vret Z E hr dX0_addHandover_40 hf
    · have hf := zif_ hf c
      refine lv_aload_n Z.x Z.b dX0_addHandover_18 rfl (lv_at hl 1 rfl) ?_
      refine z_getR Z E q_X0_11 dX0_addHandover_19 hf (fun v2 hf => ?_)
      refine lv_iload_n Z.x Z.b dX0_addHandover_22 rfl (lv_at hl 0 rfl) ?_
      refine z_iald Z E dX0_addHandover_23 hf (fun v3 hf => ?_)
      refine lv_aload_n Z.x Z.b dX0_addHandover_24 rfl (lv_at hl 2 rfl) ?_
      refine z_getI Z E q_X0_32 dX0_addHandover_25 hf (fun v4 hf => ?_)
      refine lv_iconst (v := 1) Z.x Z.b dX0_addHandover_28 (by decide) ?_
      refine lv_iadd Z.x Z.b dX0_addHandover_29 ?_
      refine lv_icmp_eq (tgt := 40) Z.x Z.b dX0_addHandover_30 (by decide) (fun c => ?_) (fun c => ?_)
      · have hf := zit hf c
        exact z_vret Z E hr dX0_addHandover_40 hf
      · have hf := zif_ hf c
        refine lv_aload_n Z.x Z.b dX0_addHandover_33 rfl (lv_at hl 1 rfl) ?_
        refine lv_iload_n Z.x Z.b dX0_addHandover_34 rfl (lv_at hl 0 rfl) ?_
        refine lv_bipush (v := 7) Z.x Z.b dX0_addHandover_35 (by decide) ?_
        refine z_Vv (As := [.int (v1 - 1), .int 7]) Z E hl.1 k_X0_35 v_X0_mark hf (fun h' e => c_X0_mark l G h h' a0 (v1 - 1) 7 e) rfl rfl (Nat.le_of_ble_eq_true rfl) (zRm_of rfl (Nat.zero_le _) (Nat.zero_le _)) dX0_addHandover_37 (fun h5 H locs hf E => ?_)
        exact z_vret Z E hr dX0_addHandover_40 hf
set_option maxHeartbeats 4000000 in
set_option maxRecDepth 20000 in
theorem c_X0_addHandover (l : Launch) (G : zG) (h : zHp) (h' : zHp) (a0 : Nat) (a1 : Nat) (hf : f_X0_addHandover a0 a1 h = some h') : zM0 l yX0_addHandover cX0_addHandover 3 none rm_X0_addHandover G [.ref a0, .ref a1] h (zQv G h') := by
  refine Met.ofW (cc := cX0_addHandover) (maxL := 3) (ret := none) (by decide) rfl ?_
  intro p e s m args below meth c s₁ B hml hv
  obtain ⟨rfl, hW⟩ := hv
  obtain ⟨Z, E, hr⟩ := zEnter (own := RX0) B hml rfl hW
  have hl := lv_entry ([.ref a0, .ref a1]) (n := 3) (Nat.le_of_ble_eq_true rfl)
  rw [lg_entry_eq]
  generalize (lg_sl ([.ref a0, .ref a1]) ++ List.replicate (3 - (lg_sl ([.ref a0, .ref a1])).length) Slot.unset).toArray = ls at hl ⊢
  have hl : lv_has ls 3 [(0, .ref a0), (1, .ref a1)] := hl
  exact t_X0_addHandover (out := h') Z hr hf E hl
/-! FerryCrews$Duties.beginOf(LFerryCrews$Sailing;)I -/
theorem dX0_beginOf_0 : decode cX0_beginOf 0 = .ok (.aload_n 1, 1) := by decide +kernel
theorem dX0_beginOf_1 : decode cX0_beginOf 1 = .ok (.getfield 26, 3) := by decide +kernel
theorem dX0_beginOf_4 : decode cX0_beginOf 4 = .ok (.iconst 1, 1) := by decide +kernel
theorem dX0_beginOf_5 : decode cX0_beginOf 5 = .ok (.isub, 1) := by decide +kernel
theorem dX0_beginOf_6 : decode cX0_beginOf 6 = .ok (.istore_n 2, 1) := by decide +kernel
theorem dX0_beginOf_7 : decode cX0_beginOf 7 = .ok (.iload_n 2, 1) := by decide +kernel
theorem dX0_beginOf_8 : decode cX0_beginOf 8 = .ok (.ifCond .lt 25, 3) := by decide +kernel
theorem dX0_beginOf_11 : decode cX0_beginOf 11 = .ok (.iload_n 2, 1) := by decide +kernel
theorem dX0_beginOf_12 : decode cX0_beginOf 12 = .ok (.sipush 1168, 3) := by decide +kernel
theorem dX0_beginOf_15 : decode cX0_beginOf 15 = .ok (.if_icmp .ge 18, 3) := by decide +kernel
theorem dX0_beginOf_18 : decode cX0_beginOf 18 = .ok (.aload_n 0, 1) := by decide +kernel
theorem dX0_beginOf_19 : decode cX0_beginOf 19 = .ok (.getfield 11, 3) := by decide +kernel
theorem dX0_beginOf_22 : decode cX0_beginOf 22 = .ok (.iload_n 2, 1) := by decide +kernel
theorem dX0_beginOf_23 : decode cX0_beginOf 23 = .ok (.iaload, 1) := by decide +kernel
theorem dX0_beginOf_24 : decode cX0_beginOf 24 = .ok (.bipush 7, 2) := by decide +kernel
theorem dX0_beginOf_26 : decode cX0_beginOf 26 = .ok (.if_icmp .ne 7, 3) := by decide +kernel
theorem dX0_beginOf_29 : decode cX0_beginOf 29 = .ok (.iconst 1, 1) := by decide +kernel
theorem dX0_beginOf_30 : decode cX0_beginOf 30 = .ok (.goto 4, 3) := by decide +kernel
theorem dX0_beginOf_33 : decode cX0_beginOf 33 = .ok (.iconst 0, 1) := by decide +kernel
theorem dX0_beginOf_34 : decode cX0_beginOf 34 = .ok (.istore_n 3, 1) := by decide +kernel
theorem dX0_beginOf_35 : decode cX0_beginOf 35 = .ok (.iload_n 3, 1) := by decide +kernel
theorem dX0_beginOf_36 : decode cX0_beginOf 36 = .ok (.ifCond .eq 7, 3) := by decide +kernel
theorem dX0_beginOf_39 : decode cX0_beginOf 39 = .ok (.iload_n 2, 1) := by decide +kernel
theorem dX0_beginOf_40 : decode cX0_beginOf 40 = .ok (.goto 7, 3) := by decide +kernel
theorem dX0_beginOf_43 : decode cX0_beginOf 43 = .ok (.aload_n 1, 1) := by decide +kernel
theorem dX0_beginOf_44 : decode cX0_beginOf 44 = .ok (.getfield 26, 3) := by decide +kernel
theorem dX0_beginOf_47 : decode cX0_beginOf 47 = .ok (.ireturn, 1) := by decide +kernel
def rm_X0_beginOf : Room := { frames := 0, cells := 0, slots := 0, locals := 0 }
set_option maxHeartbeats 4000000 in
set_option maxRecDepth 20000 in
theorem t_X0_beginOf_34 {p : Program} {l : Launch} {e : Env} {s : State} {m : MethodId} {args : Array Value} {below : List Frame} {meth : Method} {c : Code} {G : zG} (Z : zF p s m args c meth cX0_beginOf 4 RX0 G) (hr : meth.sig.returnType = (some .int)) {out : Int32 × zHp} {a1 : Nat} {a2 : Int32} {s0 : Int32} {h : zHp} {H : Heap} {locs : List Loc} {ls : Array Slot} (hf : f_X0_beginOf_34 a1 a2 s0 h = some out) (E : zE G s h H locs) (hl : lv_has ls 4 [(1, .ref a1), (2, .int a2)]) : W p l e rm_X0_beginOf s m args below meth c H locs 0 0 (MQ below (zQi G out.1 out.2) args s 0 0 (zA G)) (F0 m 34 ls [.int s0]) := by
  unfold f_X0_beginOf_34 at hf
  refine lv_istore_n (lv' := [(3, .int s0), (1, .ref a1), (2, .int a2)]) Z.x Z.b dX0_beginOf_34 rfl hl (by decide) rfl (fun ls hl => ?_)
  refine lv_iload_n Z.x Z.b dX0_beginOf_35 rfl (lv_at hl 0 rfl) ?_
  refine lv_if_eq (tgt := 43) Z.x Z.b dX0_beginOf_36 (by decide) (fun c => ?_) (fun c => ?_)
  · have hf := zit hf c
    refine lv_aload_n Z.x Z.b dX0_beginOf_43 rfl (lv_at hl 1 rfl) ?_
    refine z_getI Z E q_X0_26 dX0_beginOf_44 hf (fun v1 hf => ?_)
    exact z_iret Z E hr dX0_beginOf_47 hf
  · have hf := zif_ hf c
    refine lv_iload_n Z.x Z.b dX0_beginOf_39 rfl (lv_at hl 2 rfl) ?_
    refine lv_goto (tgt := 47) Z.x Z.b dX0_beginOf_40 (by decide) ?_
    exact z_iret Z E hr dX0_beginOf_47 hf
set_option maxHeartbeats 4000000 in
set_option maxRecDepth 20000 in
theorem t_X0_beginOf_33 {p : Program} {l : Launch} {e : Env} {s : State} {m : MethodId} {args : Array Value} {below : List Frame} {meth : Method} {c : Code} {G : zG} (Z : zF p s m args c meth cX0_beginOf 4 RX0 G) (hr : meth.sig.returnType = (some .int)) {out : Int32 × zHp} {a1 : Nat} {a2 : Int32} {h : zHp} {H : Heap} {locs : List Loc} {ls : Array Slot} (hf : f_X0_beginOf_33 a1 a2 h = some out) (E : zE G s h H locs) (hl : lv_has ls 4 [(1, .ref a1), (2, .int a2)]) : W p l e rm_X0_beginOf s m args below meth c H locs 0 0 (MQ below (zQi G out.1 out.2) args s 0 0 (zA G)) (F0 m 33 ls []) := by
  unfold f_X0_beginOf_33 at hf
  refine lv_iconst (v := 0) Z.x Z.b dX0_beginOf_33 (by decide) ?_
  exact t_X0_beginOf_34 Z hr hf E (lv_sub hl [0, 1] rfl)
set_option maxHeartbeats 4000000 in
set_option maxRecDepth 20000 in
theorem t_X0_beginOf {p : Program} {l : Launch} {e : Env} {s : State} {m : MethodId} {args : Array Value} {below : List Frame} {meth : Method} {c : Code} {G : zG} (Z : zF p s m args c meth cX0_beginOf 4 RX0 G) (hr : meth.sig.returnType = (some .int)) {out : Int32 × zHp} {a0 : Nat} {a1 : Nat} {h : zHp} {H : Heap} {locs : List Loc} {ls : Array Slot} (hf : f_X0_beginOf a0 a1 h = some out) (E : zE G s h H locs) (hl : lv_has ls 4 [(0, .ref a0), (1, .ref a1)]) : W p l e rm_X0_beginOf s m args below meth c H locs 0 0 (MQ below (zQi G out.1 out.2) args s 0 0 (zA G)) (F0 m 0 ls []) := by
  unfold f_X0_beginOf at hf
  refine lv_aload_n Z.x Z.b dX0_beginOf_0 rfl (lv_at hl 1 rfl) ?_
  refine z_getI Z E q_X0_26 dX0_beginOf_1 hf (fun v1 hf => ?_)
  refine lv_iconst (v := 1) Z.x Z.b dX0_beginOf_4 (by decide) ?_
  refine lv_isub Z.x Z.b dX0_beginOf_5 ?_
  refine lv_istore_n (lv' := [(2, .int (v1 - 1)), (0, .ref a0), (1, .ref a1)]) Z.x Z.b dX0_beginOf_6 rfl hl (by decide) rfl (fun ls hl => ?_)
  refine lv_iload_n Z.x Z.b dX0_beginOf_7 rfl (lv_at hl 0 rfl) ?_
  refine lv_if_lt (tgt := 33) Z.x Z.b dX0_beginOf_8 (by decide) (fun c => ?_) (fun c => ?_)
  · have hf := zit hf c
    exact t_X0_beginOf_33 Z hr hf E (lv_sub hl [2, 0] rfl)
  · have hf := zif_ hf c
    refine lv_iload_n Z.x Z.b dX0_beginOf_11 rfl (lv_at hl 0 rfl) ?_
    refine lv_sipush (v := 1168) Z.x Z.b dX0_beginOf_12 (by decide) ?_
    refine lv_icmp_ge (tgt := 33) Z.x Z.b dX0_beginOf_15 (by decide) (fun c => ?_) (fun c => ?_)
    · have hf := zit hf c
      exact t_X0_beginOf_33 Z hr hf E (lv_sub hl [2, 0] rfl)
    · have hf := zif_ hf c
      refine lv_aload_n Z.x Z.b dX0_beginOf_18 rfl (lv_at hl 1 rfl) ?_
      refine z_getR Z E q_X0_11 dX0_beginOf_19 hf (fun v2 hf => ?_)
      refine lv_iload_n Z.x Z.b dX0_beginOf_22 rfl (lv_at hl 0 rfl) ?_
      refine z_iald Z E dX0_beginOf_23 hf (fun v3 hf => ?_)
      refine lv_bipush (v := 7) Z.x Z.b dX0_beginOf_24 (by decide) ?_
      refine lv_icmp_ne (tgt := 33) Z.x Z.b dX0_beginOf_26 (by decide) (fun c => ?_) (fun c => ?_)
      · have hf := zif_ hf c
        exact t_X0_beginOf_33 Z hr hf E (lv_sub hl [2, 0] rfl)
      · have hf := zit hf c
        refine lv_iconst (v := 1) Z.x Z.b dX0_beginOf_29 (by decide) ?_
        refine lv_goto (tgt := 34) Z.x Z.b dX0_beginOf_30 (by decide) ?_
        exact t_X0_beginOf_34 Z hr hf E (lv_sub hl [2, 0] rfl)
set_option maxHeartbeats 4000000 in
set_option maxRecDepth 20000 in
theorem c_X0_beginOf (l : Launch) (G : zG) (h : zHp) (h' : zHp) (a0 : Nat) (a1 : Nat) (r : Int32) (hf : f_X0_beginOf a0 a1 h = some (r, h')) : zM0 l yX0_beginOf cX0_beginOf 4 (some .int) rm_X0_beginOf G [.ref a0, .ref a1] h (zQi G r h') := by
  refine Met.ofW (cc := cX0_beginOf) (maxL := 4) (ret := (some .int)) (by decide) rfl ?_
  intro p e s m args below meth c s₁ B hml hv
  obtain ⟨rfl, hW⟩ := hv
  obtain ⟨Z, E, hr⟩ := zEnter (own := RX0) B hml rfl hW
  have hl := lv_entry ([.ref a0, .ref a1]) (n := 4) (Nat.le_of_ble_eq_true rfl)
  rw [lg_entry_eq]
  generalize (lg_sl ([.ref a0, .ref a1]) ++ List.replicate (4 - (lg_sl ([.ref a0, .ref a1])).length) Slot.unset).toArray = ls at hl ⊢
  have hl : lv_has ls 4 [(0, .ref a0), (1, .ref a1)] := hl
  exact t_X0_beginOf (out := (r, h')) Z hr hf E hl
/-! FerryCrews$Duties.restAt(I)I -/
theorem dX0_restAt_0 : decode cX0_restAt 0 = .ok (.iload_n 1, 1) := by decide +kernel
theorem dX0_restAt_1 : decode cX0_restAt 1 = .ok (.ifCond .lt 19, 3) := by decide +kernel
theorem dX0_restAt_4 : decode cX0_restAt 4 = .ok (.iload_n 1, 1) := by decide +kernel
theorem dX0_restAt_5 : decode cX0_restAt 5 = .ok (.sipush 1168, 3) := by decide +kernel
theorem dX0_restAt_8 : decode cX0_restAt 8 = .ok (.if_icmp .ge 12, 3) := by decide +kernel
theorem dX0_restAt_11 : decode cX0_restAt 11 = .ok (.aload_n 0, 1) := by decide +kernel
theorem dX0_restAt_12 : decode cX0_restAt 12 = .ok (.getfield 11, 3) := by decide +kernel
theorem dX0_restAt_15 : decode cX0_restAt 15 = .ok (.iload_n 1, 1) := by decide +kernel
theorem dX0_restAt_16 : decode cX0_restAt 16 = .ok (.iaload, 1) := by decide +kernel
theorem dX0_restAt_17 : decode cX0_restAt 17 = .ok (.ifCond .ne 7, 3) := by decide +kernel
theorem dX0_restAt_20 : decode cX0_restAt 20 = .ok (.iconst 1, 1) := by decide +kernel
theorem dX0_restAt_21 : decode cX0_restAt 21 = .ok (.goto 4, 3) := by decide +kernel
theorem dX0_restAt_24 : decode cX0_restAt 24 = .ok (.iconst 0, 1) := by decide +kernel
theorem dX0_restAt_25 : decode cX0_restAt 25 = .ok (.ireturn, 1) := by decide +kernel
def rm_X0_restAt : Room := { frames := 0, cells := 0, slots := 0, locals := 0 }
set_option maxHeartbeats 4000000 in
set_option maxRecDepth 20000 in
theorem t_X0_restAt_20 {p : Program} {l : Launch} {e : Env} {s : State} {m : MethodId} {args : Array Value} {below : List Frame} {meth : Method} {c : Code} {G : zG} (Z : zF p s m args c meth cX0_restAt 2 RX0 G) (hr : meth.sig.returnType = (some .int)) {out : Int32 × zHp} {h : zHp} {H : Heap} {locs : List Loc} {ls : Array Slot} (hf : f_X0_restAt_20 h = some out) (E : zE G s h H locs) (hl : lv_has ls 2 []) : W p l e rm_X0_restAt s m args below meth c H locs 0 0 (MQ below (zQi G out.1 out.2) args s 0 0 (zA G)) (F0 m 20 ls []) := by
  unfold f_X0_restAt_20 at hf
  refine lv_iconst (v := 1) Z.x Z.b dX0_restAt_20 (by decide) ?_
  refine lv_goto (tgt := 25) Z.x Z.b dX0_restAt_21 (by decide) ?_
  exact z_iret Z E hr dX0_restAt_25 hf
set_option maxHeartbeats 4000000 in
set_option maxRecDepth 20000 in
theorem t_X0_restAt {p : Program} {l : Launch} {e : Env} {s : State} {m : MethodId} {args : Array Value} {below : List Frame} {meth : Method} {c : Code} {G : zG} (Z : zF p s m args c meth cX0_restAt 2 RX0 G) (hr : meth.sig.returnType = (some .int)) {out : Int32 × zHp} {a0 : Nat} {a1 : Int32} {h : zHp} {H : Heap} {locs : List Loc} {ls : Array Slot} (hf : f_X0_restAt a0 a1 h = some out) (E : zE G s h H locs) (hl : lv_has ls 2 [(0, .ref a0), (1, .int a1)]) : W p l e rm_X0_restAt s m args below meth c H locs 0 0 (MQ below (zQi G out.1 out.2) args s 0 0 (zA G)) (F0 m 0 ls []) := by
  unfold f_X0_restAt at hf
  refine lv_iload_n Z.x Z.b dX0_restAt_0 rfl (lv_at hl 1 rfl) ?_
  refine lv_if_lt (tgt := 20) Z.x Z.b dX0_restAt_1 (by decide) (fun c => ?_) (fun c => ?_)
  · have hf := zit hf c
    exact t_X0_restAt_20 Z hr hf E (lv_sub hl [] rfl)
  · have hf := zif_ hf c
    refine lv_iload_n Z.x Z.b dX0_restAt_4 rfl (lv_at hl 1 rfl) ?_
    refine lv_sipush (v := 1168) Z.x Z.b dX0_restAt_5 (by decide) ?_
    refine lv_icmp_ge (tgt := 20) Z.x Z.b dX0_restAt_8 (by decide) (fun c => ?_) (fun c => ?_)
    · have hf := zit hf c
      exact t_X0_restAt_20 Z hr hf E (lv_sub hl [] rfl)
    · have hf := zif_ hf c
      refine lv_aload_n Z.x Z.b dX0_restAt_11 rfl (lv_at hl 0 rfl) ?_
      refine z_getR Z E q_X0_11 dX0_restAt_12 hf (fun v1 hf => ?_)
      refine lv_iload_n Z.x Z.b dX0_restAt_15 rfl (lv_at hl 1 rfl) ?_
      refine z_iald Z E dX0_restAt_16 hf (fun v2 hf => ?_)
      refine lv_if_ne (tgt := 24) Z.x Z.b dX0_restAt_17 (by decide) (fun c => ?_) (fun c => ?_)
      · have hf := zif_ hf c
        refine lv_iconst (v := 0) Z.x Z.b dX0_restAt_24 (by decide) ?_
        exact z_iret Z E hr dX0_restAt_25 hf
      · have hf := zit hf c
        exact t_X0_restAt_20 Z hr hf E (lv_sub hl [] rfl)
set_option maxHeartbeats 4000000 in
set_option maxRecDepth 20000 in
theorem c_X0_restAt (l : Launch) (G : zG) (h : zHp) (h' : zHp) (a0 : Nat) (a1 : Int32) (r : Int32) (hf : f_X0_restAt a0 a1 h = some (r, h')) : zM0 l yX0_restAt cX0_restAt 2 (some .int) rm_X0_restAt G [.ref a0, .int a1] h (zQi G r h') := by
  refine Met.ofW (cc := cX0_restAt) (maxL := 2) (ret := (some .int)) (by decide) rfl ?_
  intro p e s m args below meth c s₁ B hml hv
  obtain ⟨rfl, hW⟩ := hv
  obtain ⟨Z, E, hr⟩ := zEnter (own := RX0) B hml rfl hW
  have hl := lv_entry ([.ref a0, .int a1]) (n := 2) (Nat.le_of_ble_eq_true rfl)
  rw [lg_entry_eq]
  generalize (lg_sl ([.ref a0, .int a1]) ++ List.replicate (2 - (lg_sl ([.ref a0, .int a1])).length) Slot.unset).toArray = ls at hl ⊢
  have hl : lv_has ls 2 [(0, .ref a0), (1, .int a1)] := hl
  exact t_X0_restAt (out := (r, h')) Z hr hf E hl
/-! FerryCrews$Duties.restIn(II)I -/
theorem dX0_restIn_0 : decode cX0_restIn 0 = .ok (.iload_n 2, 1) := by decide +kernel
theorem dX0_restIn_1 : decode cX0_restIn 1 = .ok (.istore_n 3, 1) := by decide +kernel
theorem dX0_restIn_2 : decode cX0_restIn 2 = .ok (.iload_n 1, 1) := by decide +kernel
theorem dX0_restIn_3 : decode cX0_restIn 3 = .ok (.istore 4, 2) := by decide +kernel
theorem dX0_restIn_5 : decode cX0_restIn 5 = .ok (.iload 4, 2) := by decide +kernel
theorem dX0_restIn_7 : decode cX0_restIn 7 = .ok (.iload_n 1, 1) := by decide +kernel
theorem dX0_restIn_8 : decode cX0_restIn 8 = .ok (.iload_n 2, 1) := by decide +kernel
theorem dX0_restIn_9 : decode cX0_restIn 9 = .ok (.iadd, 1) := by decide +kernel
theorem dX0_restIn_10 : decode cX0_restIn 10 = .ok (.if_icmp .ge 35, 3) := by decide +kernel
theorem dX0_restIn_13 : decode cX0_restIn 13 = .ok (.iload 4, 2) := by decide +kernel
theorem dX0_restIn_15 : decode cX0_restIn 15 = .ok (.ifCond .lt 24, 3) := by decide +kernel
theorem dX0_restIn_18 : decode cX0_restIn 18 = .ok (.iload 4, 2) := by decide +kernel
theorem dX0_restIn_20 : decode cX0_restIn 20 = .ok (.sipush 1168, 3) := by decide +kernel
theorem dX0_restIn_23 : decode cX0_restIn 23 = .ok (.if_icmp .ge 16, 3) := by decide +kernel
theorem dX0_restIn_26 : decode cX0_restIn 26 = .ok (.aload_n 0, 1) := by decide +kernel
theorem dX0_restIn_27 : decode cX0_restIn 27 = .ok (.getfield 11, 3) := by decide +kernel
theorem dX0_restIn_30 : decode cX0_restIn 30 = .ok (.iload 4, 2) := by decide +kernel
theorem dX0_restIn_32 : decode cX0_restIn 32 = .ok (.iaload, 1) := by decide +kernel
theorem dX0_restIn_33 : decode cX0_restIn 33 = .ok (.ifCond .eq 6, 3) := by decide +kernel
theorem dX0_restIn_36 : decode cX0_restIn 36 = .ok (.iinc 3 (-1), 3) := by decide +kernel
theorem dX0_restIn_39 : decode cX0_restIn 39 = .ok (.iinc 4 1, 3) := by decide +kernel
theorem dX0_restIn_42 : decode cX0_restIn 42 = .ok (.goto (-37), 3) := by decide +kernel
theorem dX0_restIn_45 : decode cX0_restIn 45 = .ok (.iload_n 3, 1) := by decide +kernel
theorem dX0_restIn_46 : decode cX0_restIn 46 = .ok (.ireturn, 1) := by decide +kernel
def rm_X0_restIn : Room := { frames := 0, cells := 0, slots := 0, locals := 0 }
set_option maxHeartbeats 4000000 in
set_option maxRecDepth 20000 in
theorem t_X0_restIn_39 {p : Program} {l : Launch} {e : Env} {s : State} {m : MethodId} {args : Array Value} {below : List Frame} {meth : Method} {c : Code} {G : zG} (Z : zF p s m args c meth cX0_restIn 5 RX0 G) (hr : meth.sig.returnType = (some .int)) {out : Int32 × zHp} {r5 : Nat → Int32 → Int32 → Int32 → Int32 → zHp → Option (Int32 × zHp)} (k5 : ∀ {a0 : Nat} {a1 : Int32} {a2 : Int32} {a3 : Int32} {a4 : Int32} {h : zHp} {H : Heap} {locs : List Loc} {ls : Array Slot}, r5 a0 a1 a2 a3 a4 h = some out → zE G s h H locs → lv_has ls 5 [(0, .ref a0), (1, .int a1), (2, .int a2), (3, .int a3), (4, .int a4)] → W p l e rm_X0_restIn s m args below meth c H locs 0 0 (MQ below (zQi G out.1 out.2) args s 0 0 (zA G)) (F0 m 5 ls [])) {a0 : Nat} {a1 : Int32} {a2 : Int32} {a3 : Int32} {a4 : Int32} {h : zHp} {H : Heap} {locs : List Loc} {ls : Array Slot} (hf : f_X0_restIn_39 r5 a0 a1 a2 a3 a4 h = some out) (E : zE G s h H locs) (hl : lv_has ls 5 [(0, .ref a0), (1, .int a1), (2, .int a2), (3, .int a3), (4, .int a4)]) : W p l e rm_X0_restIn s m args below meth c H locs 0 0 (MQ below (zQi G out.1 out.2) args s 0 0 (zA G)) (F0 m 39 ls []) := by
  unfold f_X0_restIn_39 at hf
  refine lv_iinc (v := (a4 + 1)) (lv' := [(4, .int (a4 + 1)), (0, .ref a0), (1, .int a1), (2, .int a2), (3, .int a3)]) Z.x Z.b dX0_restIn_39 hl (k := 4) rfl rfl (by decide) rfl (fun ls hl => ?_)
  refine lv_goto (tgt := 5) Z.x Z.b dX0_restIn_42 (by decide) ?_
  exact k5 hf E (lv_sub hl [1, 2, 3, 4, 0] rfl)
set_option maxHeartbeats 4000000 in
set_option maxRecDepth 20000 in
theorem t_X0_restIn_5_body {p : Program} {l : Launch} {e : Env} {s : State} {m : MethodId} {args : Array Value} {below : List Frame} {meth : Method} {c : Code} {G : zG} (Z : zF p s m args c meth cX0_restIn 5 RX0 G) (hr : meth.sig.returnType = (some .int)) {out : Int32 × zHp} {r5 : Nat → Int32 → Int32 → Int32 → Int32 → zHp → Option (Int32 × zHp)} (k5 : ∀ {a0 : Nat} {a1 : Int32} {a2 : Int32} {a3 : Int32} {a4 : Int32} {h : zHp} {H : Heap} {locs : List Loc} {ls : Array Slot}, r5 a0 a1 a2 a3 a4 h = some out → zE G s h H locs → lv_has ls 5 [(0, .ref a0), (1, .int a1), (2, .int a2), (3, .int a3), (4, .int a4)] → W p l e rm_X0_restIn s m args below meth c H locs 0 0 (MQ below (zQi G out.1 out.2) args s 0 0 (zA G)) (F0 m 5 ls [])) {a0 : Nat} {a1 : Int32} {a2 : Int32} {a3 : Int32} {a4 : Int32} {h : zHp} {H : Heap} {locs : List Loc} {ls : Array Slot} (hf : f_X0_restIn_5_body r5 a0 a1 a2 a3 a4 h = some out) (E : zE G s h H locs) (hl : lv_has ls 5 [(0, .ref a0), (1, .int a1), (2, .int a2), (3, .int a3), (4, .int a4)]) : W p l e rm_X0_restIn s m args below meth c H locs 0 0 (MQ below (zQi G out.1 out.2) args s 0 0 (zA G)) (F0 m 5 ls []) := by
  unfold f_X0_restIn_5_body at hf
  refine lv_iload Z.x Z.b dX0_restIn_5 (lv_at hl 4 rfl) ?_
  refine lv_iload_n Z.x Z.b dX0_restIn_7 rfl (lv_at hl 1 rfl) ?_
  refine lv_iload_n Z.x Z.b dX0_restIn_8 rfl (lv_at hl 2 rfl) ?_
  refine lv_iadd Z.x Z.b dX0_restIn_9 ?_
  refine lv_icmp_ge (tgt := 45) Z.x Z.b dX0_restIn_10 (by decide) (fun c => ?_) (fun c => ?_)
  · have hf := zit hf c
    refine lv_iload_n Z.x Z.b dX0_restIn_45 rfl (lv_at hl 3 rfl) ?_
    exact z_iret Z E hr dX0_restIn_46 hf
  · have hf := zif_ hf c
    refine lv_iload Z.x Z.b dX0_restIn_13 (lv_at hl 4 rfl) ?_
    refine lv_if_lt (tgt := 39) Z.x Z.b dX0_restIn_15 (by decide) (fun c => ?_) (fun c => ?_)
    · have hf := zit hf c
      exact t_X0_restIn_39 Z hr k5 hf E (lv_sub hl [0, 1, 2, 3, 4] rfl)
    · have hf := zif_ hf c
      refine lv_iload Z.x Z.b dX0_restIn_18 (lv_at hl 4 rfl) ?_
      refine lv_sipush (v := 1168) Z.x Z.b dX0_restIn_20 (by decide) ?_
      refine lv_icmp_ge (tgt := 39) Z.x Z.b dX0_restIn_23 (by decide) (fun c => ?_) (fun c => ?_)
      · have hf := zit hf c
        exact t_X0_restIn_39 Z hr k5 hf E (lv_sub hl [0, 1, 2, 3, 4] rfl)
      · have hf := zif_ hf c
        refine lv_aload_n Z.x Z.b dX0_restIn_26 rfl (lv_at hl 0 rfl) ?_
        refine z_getR Z E q_X0_11 dX0_restIn_27 hf (fun v1 hf => ?_)
        refine lv_iload Z.x Z.b dX0_restIn_30 (lv_at hl 4 rfl) ?_
        refine z_iald Z E dX0_restIn_32 hf (fun v2 hf => ?_)
        refine lv_if_eq (tgt := 39) Z.x Z.b dX0_restIn_33 (by decide) (fun c => ?_) (fun c => ?_)
        · have hf := zit hf c
          exact t_X0_restIn_39 Z hr k5 hf E (lv_sub hl [0, 1, 2, 3, 4] rfl)
        · have hf := zif_ hf c
          refine lv_iinc (v := (a3 + (-1))) (lv' := [(3, .int (a3 + (-1))), (0, .ref a0), (1, .int a1), (2, .int a2), (4, .int a4)]) Z.x Z.b dX0_restIn_36 hl (k := 3) rfl rfl (by decide) rfl (fun ls hl => ?_)
          exact t_X0_restIn_39 Z hr k5 hf E (lv_sub hl [1, 2, 3, 0, 4] rfl)
theorem t_X0_restIn_5 {p : Program} {l : Launch} {e : Env} {s : State} {m : MethodId} {args : Array Value} {below : List Frame} {meth : Method} {c : Code} {G : zG} (Z : zF p s m args c meth cX0_restIn 5 RX0 G) (hr : meth.sig.returnType = (some .int)) {out : Int32 × zHp} : ∀ (n : Nat), ∀ {a0 : Nat} {a1 : Int32} {a2 : Int32} {a3 : Int32} {a4 : Int32} {h : zHp} {H : Heap} {locs : List Loc} {ls : Array Slot}, f_X0_restIn_5 n a0 a1 a2 a3 a4 h = some out → zE G s h H locs → lv_has ls 5 [(0, .ref a0), (1, .int a1), (2, .int a2), (3, .int a3), (4, .int a4)] → W p l e rm_X0_restIn s m args below meth c H locs 0 0 (MQ below (zQi G out.1 out.2) args s 0 0 (zA G)) (F0 m 5 ls [])
  | 0 => fun hf => by cases hf
  | n + 1 => fun hf E hl => t_X0_restIn_5_body Z hr (r5 := f_X0_restIn_5 n) (t_X0_restIn_5 Z hr n) hf E hl
set_option maxHeartbeats 4000000 in
set_option maxRecDepth 20000 in
theorem t_X0_restIn {p : Program} {l : Launch} {e : Env} {s : State} {m : MethodId} {args : Array Value} {below : List Frame} {meth : Method} {c : Code} {G : zG} (Z : zF p s m args c meth cX0_restIn 5 RX0 G) (hr : meth.sig.returnType = (some .int)) {out : Int32 × zHp} {a0 : Nat} {a1 : Int32} {a2 : Int32} {h : zHp} {H : Heap} {locs : List Loc} {ls : Array Slot} (hf : f_X0_restIn a0 a1 a2 h = some out) (E : zE G s h H locs) (hl : lv_has ls 5 [(0, .ref a0), (1, .int a1), (2, .int a2)]) : W p l e rm_X0_restIn s m args below meth c H locs 0 0 (MQ below (zQi G out.1 out.2) args s 0 0 (zA G)) (F0 m 0 ls []) := by
  unfold f_X0_restIn at hf
  refine lv_iload_n Z.x Z.b dX0_restIn_0 rfl (lv_at hl 2 rfl) ?_
  refine lv_istore_n (lv' := [(3, .int a2), (0, .ref a0), (1, .int a1), (2, .int a2)]) Z.x Z.b dX0_restIn_1 rfl hl (by decide) rfl (fun ls hl => ?_)
  refine lv_iload_n Z.x Z.b dX0_restIn_2 rfl (lv_at hl 2 rfl) ?_
  refine lv_istore (lv' := [(4, .int a1), (3, .int a2), (0, .ref a0), (1, .int a1), (2, .int a2)]) Z.x Z.b dX0_restIn_3 hl (by decide) rfl (fun ls hl => ?_)
  exact t_X0_restIn_5 Z hr zN hf E (lv_sub hl [2, 3, 4, 1, 0] rfl)
set_option maxHeartbeats 4000000 in
set_option maxRecDepth 20000 in
theorem c_X0_restIn (l : Launch) (G : zG) (h : zHp) (h' : zHp) (a0 : Nat) (a1 : Int32) (a2 : Int32) (r : Int32) (hf : f_X0_restIn a0 a1 a2 h = some (r, h')) : zM0 l yX0_restIn cX0_restIn 5 (some .int) rm_X0_restIn G [.ref a0, .int a1, .int a2] h (zQi G r h') := by
  refine Met.ofW (cc := cX0_restIn) (maxL := 5) (ret := (some .int)) (by decide) rfl ?_
  intro p e s m args below meth c s₁ B hml hv
  obtain ⟨rfl, hW⟩ := hv
  obtain ⟨Z, E, hr⟩ := zEnter (own := RX0) B hml rfl hW
  have hl := lv_entry ([.ref a0, .int a1, .int a2]) (n := 5) (Nat.le_of_ble_eq_true rfl)
  rw [lg_entry_eq]
  generalize (lg_sl ([.ref a0, .int a1, .int a2]) ++ List.replicate (5 - (lg_sl ([.ref a0, .int a1, .int a2])).length) Slot.unset).toArray = ls at hl ⊢
  have hl : lv_has ls 5 [(0, .ref a0), (1, .int a1), (2, .int a2)] := hl
  exact t_X0_restIn (out := (r, h')) Z hr hf E hl
/-! FerryCrews$Duties.everyRowHas(IIII)Z -/
theorem dX0_everyRowHas_0 : decode cX0_everyRowHas 0 = .ok (.aload_n 0, 1) := by decide +kernel
theorem dX0_everyRowHas_1 : decode cX0_everyRowHas 1 = .ok (.iload_n 3, 1) := by decide +kernel
theorem dX0_everyRowHas_2 : decode cX0_everyRowHas 2 = .ok (.iload_n 2, 1) := by decide +kernel
theorem dX0_everyRowHas_3 : decode cX0_everyRowHas 3 = .ok (.invokevirtual 39, 3) := by decide +kernel
theorem dX0_everyRowHas_6 : decode cX0_everyRowHas 6 = .ok (.istore 5, 2) := by decide +kernel
theorem dX0_everyRowHas_8 : decode cX0_everyRowHas 8 = .ok (.iload_n 3, 1) := by decide +kernel
theorem dX0_everyRowHas_9 : decode cX0_everyRowHas 9 = .ok (.istore 6, 2) := by decide +kernel
theorem dX0_everyRowHas_11 : decode cX0_everyRowHas 11 = .ok (.iload 6, 2) := by decide +kernel
theorem dX0_everyRowHas_13 : decode cX0_everyRowHas 13 = .ok (.iload 4, 2) := by decide +kernel
theorem dX0_everyRowHas_15 : decode cX0_everyRowHas 15 = .ok (.if_icmp .ge 37, 3) := by decide +kernel
theorem dX0_everyRowHas_18 : decode cX0_everyRowHas 18 = .ok (.iload 5, 2) := by decide +kernel
theorem dX0_everyRowHas_20 : decode cX0_everyRowHas 20 = .ok (.iload_n 1, 1) := by decide +kernel
theorem dX0_everyRowHas_21 : decode cX0_everyRowHas 21 = .ok (.if_icmp .ge 5, 3) := by decide +kernel
theorem dX0_everyRowHas_24 : decode cX0_everyRowHas 24 = .ok (.iconst 0, 1) := by decide +kernel
theorem dX0_everyRowHas_25 : decode cX0_everyRowHas 25 = .ok (.ireturn, 1) := by decide +kernel
theorem dX0_everyRowHas_26 : decode cX0_everyRowHas 26 = .ok (.iload 5, 2) := by decide +kernel
theorem dX0_everyRowHas_28 : decode cX0_everyRowHas 28 = .ok (.aload_n 0, 1) := by decide +kernel
theorem dX0_everyRowHas_29 : decode cX0_everyRowHas 29 = .ok (.iload 6, 2) := by decide +kernel
theorem dX0_everyRowHas_31 : decode cX0_everyRowHas 31 = .ok (.iload_n 2, 1) := by decide +kernel
theorem dX0_everyRowHas_32 : decode cX0_everyRowHas 32 = .ok (.iadd, 1) := by decide +kernel
theorem dX0_everyRowHas_33 : decode cX0_everyRowHas 33 = .ok (.invokevirtual 43, 3) := by decide +kernel
theorem dX0_everyRowHas_36 : decode cX0_everyRowHas 36 = .ok (.aload_n 0, 1) := by decide +kernel
theorem dX0_everyRowHas_37 : decode cX0_everyRowHas 37 = .ok (.iload 6, 2) := by decide +kernel
theorem dX0_everyRowHas_39 : decode cX0_everyRowHas 39 = .ok (.invokevirtual 43, 3) := by decide +kernel
theorem dX0_everyRowHas_42 : decode cX0_everyRowHas 42 = .ok (.isub, 1) := by decide +kernel
theorem dX0_everyRowHas_43 : decode cX0_everyRowHas 43 = .ok (.iadd, 1) := by decide +kernel
theorem dX0_everyRowHas_44 : decode cX0_everyRowHas 44 = .ok (.istore 5, 2) := by decide +kernel
theorem dX0_everyRowHas_46 : decode cX0_everyRowHas 46 = .ok (.iinc 6 1, 3) := by decide +kernel
theorem dX0_everyRowHas_49 : decode cX0_everyRowHas 49 = .ok (.goto (-38), 3) := by decide +kernel
theorem dX0_everyRowHas_52 : decode cX0_everyRowHas 52 = .ok (.iconst 1, 1) := by decide +kernel
theorem dX0_everyRowHas_53 : decode cX0_everyRowHas 53 = .ok (.ireturn, 1) := by decide +kernel
set_option maxRecDepth 20000 in
theorem wc_X0_restIn : Cond.code yX0_restIn cX0_restIn 5 (some .int) ∈ zB := List.mem_filter.mpr ⟨List.mem_of_getElem? (i := 330) (by decide +kernel), by decide +kernel⟩
set_option maxRecDepth 20000 in
theorem wm_X0_39 : Cond.methodLink RX0 39 yX0_restIn ∈ zB := List.mem_filter.mpr ⟨List.mem_of_getElem? (i := 421) (by decide +kernel), by decide +kernel⟩
theorem k_X0_39 : zCal RX0 39 yX0_restIn cX0_restIn 5 (some .int) 2 := ⟨wm_X0_39, wi_X0, wc_X0_restIn, by decide +kernel, by decide +kernel, by decide +kernel⟩
set_option maxRecDepth 20000 in
theorem wn_X0_restIn : Cond.instanceMethod yX0_restIn ∈ zB := List.mem_filter.mpr ⟨List.mem_of_getElem? (i := 328) (by decide +kernel), by decide +kernel⟩
set_option maxRecDepth 20000 in
theorem ws_X0_restIn : Cond.selects RX0 yX0_restIn yX0_restIn ∈ zB := List.mem_filter.mpr ⟨List.mem_of_getElem? (i := 329) (by decide +kernel), by decide +kernel⟩
theorem v_X0_restIn : zVir yX0_restIn 0 := ⟨wn_X0_restIn, ws_X0_restIn, TX0, 4, rfl⟩
set_option maxRecDepth 20000 in
theorem wc_X0_restAt : Cond.code yX0_restAt cX0_restAt 2 (some .int) ∈ zB := List.mem_filter.mpr ⟨List.mem_of_getElem? (i := 425) (by decide +kernel), by decide +kernel⟩
set_option maxRecDepth 20000 in
theorem wm_X0_43 : Cond.methodLink RX0 43 yX0_restAt ∈ zB := List.mem_filter.mpr ⟨List.mem_of_getElem? (i := 422) (by decide +kernel), by decide +kernel⟩
theorem k_X0_43 : zCal RX0 43 yX0_restAt cX0_restAt 2 (some .int) 1 := ⟨wm_X0_43, wi_X0, wc_X0_restAt, by decide +kernel, by decide +kernel, by decide +kernel⟩
set_option maxRecDepth 20000 in
theorem wn_X0_restAt : Cond.instanceMethod yX0_restAt ∈ zB := List.mem_filter.mpr ⟨List.mem_of_getElem? (i := 424) (by decide +kernel), by decide +kernel⟩
set_option maxRecDepth 20000 in
theorem ws_X0_restAt : Cond.selects RX0 yX0_restAt yX0_restAt ∈ zB := List.mem_filter.mpr ⟨List.mem_of_getElem? (i := 3) (by decide +kernel), by decide +kernel⟩
theorem v_X0_restAt : zVir yX0_restAt 0 := ⟨wn_X0_restAt, ws_X0_restAt, TX0, 4, rfl⟩
def rm_X0_everyRowHas : Room := { frames := 1, cells := 0, slots := 0, locals := 24 }
set_option maxHeartbeats 4000000 in
set_option maxRecDepth 20000 in
theorem t_X0_everyRowHas_11_body {p : Program} {l : Launch} {e : Env} {s : State} {m : MethodId} {args : Array Value} {below : List Frame} {meth : Method} {c : Code} {G : zG} (Z : zF p s m args c meth cX0_everyRowHas 7 RX0 G) (hr : meth.sig.returnType = (some .boolean)) {out : Int32 × zHp} {r11 : Nat → Int32 → Int32 → Int32 → Int32 → Int32 → zHp → Option (Int32 × zHp)} (k11 : ∀ {a0 : Nat} {a1 : Int32} {a2 : Int32} {a4 : Int32} {a5 : Int32} {a6 : Int32} {h : zHp} {H : Heap} {locs : List Loc} {ls : Array Slot}, r11 a0 a1 a2 a4 a5 a6 h = some out → zE G s h H locs → lv_has ls 7 [(0, .ref a0), (1, .int a1), (2, .int a2), (4, .int a4), (5, .int a5), (6, .int a6)] → W p l e rm_X0_everyRowHas s m args below meth c H locs 0 0 (MQ below (zQi G out.1 out.2) args s 0 0 (zA G)) (F0 m 11 ls [])) {a0 : Nat} {a1 : Int32} {a2 : Int32} {a4 : Int32} {a5 : Int32} {a6 : Int32} {h : zHp} {H : Heap} {locs : List Loc} {ls : Array Slot} (hf : f_X0_everyRowHas_11_body r11 a0 a1 a2 a4 a5 a6 h = some out) (E : zE G s h H locs) (hl : lv_has ls 7 [(0, .ref a0), (1, .int a1), (2, .int a2), (4, .int a4), (5, .int a5), (6, .int a6)]) : W p l e rm_X0_everyRowHas s m args below meth c H locs 0 0 (MQ below (zQi G out.1 out.2) args s 0 0 (zA G)) (F0 m 11 ls []) := by
  unfold f_X0_everyRowHas_11_body at hf
  refine lv_iload Z.x Z.b dX0_everyRowHas_11 (lv_at hl 5 rfl) ?_
  refine lv_iload Z.x Z.b dX0_everyRowHas_13 (lv_at hl 3 rfl) ?_
  refine lv_icmp_ge (tgt := 52) Z.x Z.b dX0_everyRowHas_15 (by decide) (fun c => ?_) (fun c => ?_)
  · have hf := zit hf c
    refine lv_iconst (v := 1) Z.x Z.b dX0_everyRowHas_52 (by decide) ?_
    exact z_zret Z E hr dX0_everyRowHas_53 hf
  · have hf := zif_ hf c
    refine lv_iload Z.x Z.b dX0_everyRowHas_18 (lv_at hl 4 rfl) ?_
    refine lv_iload_n Z.x Z.b dX0_everyRowHas_20 rfl (lv_at hl 1 rfl) ?_
    refine lv_icmp_ge (tgt := 26) Z.x Z.b dX0_everyRowHas_21 (by decide) (fun c => ?_) (fun c => ?_)
    · have hf := zit hf c
      refine lv_iload Z.x Z.b dX0_everyRowHas_26 (lv_at hl 4 rfl) ?_
      refine lv_aload_n Z.x Z.b dX0_everyRowHas_28 rfl (lv_at hl 0 rfl) ?_
      refine lv_iload Z.x Z.b dX0_everyRowHas_29 (lv_at hl 5 rfl) ?_
      refine lv_iload_n Z.x Z.b dX0_everyRowHas_31 rfl (lv_at hl 2 rfl) ?_
      refine lv_iadd Z.x Z.b dX0_everyRowHas_32 ?_
      refine z_Vi (As := [.int (a6 + a2)]) Z E hl.1 k_X0_43 v_X0_restAt hf (fun r h' e => c_X0_restAt l G h h' a0 (a6 + a2) r e) rfl rfl (Nat.le_of_ble_eq_true rfl) (zRm_of rfl (Nat.zero_le _) (Nat.zero_le _)) dX0_everyRowHas_33 (fun v1 h2 H locs hf E => ?_)
      refine lv_aload_n Z.x Z.b dX0_everyRowHas_36 rfl (lv_at hl 0 rfl) ?_
      refine lv_iload Z.x Z.b dX0_everyRowHas_37 (lv_at hl 5 rfl) ?_
      refine z_Vi (As := [.int a6]) Z E hl.1 k_X0_43 v_X0_restAt hf (fun r h' e => c_X0_restAt l G h2 h' a0 a6 r e) rfl rfl (Nat.le_of_ble_eq_true rfl) (zRm_of rfl (Nat.zero_le _) (Nat.zero_le _)) dX0_everyRowHas_39 (fun v3 h4 H locs hf E => ?_)
      refine lv_isub Z.x Z.b dX0_everyRowHas_42 ?_
      refine lv_iadd Z.x Z.b dX0_everyRowHas_43 ?_
      refine lv_istore (lv' := [(5, .int (a5 + (v1 - v3))), (0, .ref a0), (1, .int a1), (2, .int a2), (4, .int a4), (6, .int a6)]) Z.x Z.b dX0_everyRowHas_44 hl (by decide) rfl (fun ls hl => ?_)
      refine lv_iinc (v := (a6 + 1)) (lv' := [(6, .int (a6 + 1)), (5, .int (a5 + (v1 - v3))), (0, .ref a0), (1, .int a1), (2, .int a2), (4, .int a4)]) Z.x Z.b dX0_everyRowHas_46 hl (k := 5) rfl rfl (by decide) rfl (fun ls hl => ?_)
      refine lv_goto (tgt := 11) Z.x Z.b dX0_everyRowHas_49 (by decide) ?_
      exact k11 hf E (lv_sub hl [2, 3, 4, 5, 1, 0] rfl)
    · have hf := zif_ hf c
      refine lv_iconst (v := 0) Z.x Z.b dX0_everyRowHas_24 (by decide) ?_
      exact z_zret Z E hr dX0_everyRowHas_25 hf
theorem t_X0_everyRowHas_11 {p : Program} {l : Launch} {e : Env} {s : State} {m : MethodId} {args : Array Value} {below : List Frame} {meth : Method} {c : Code} {G : zG} (Z : zF p s m args c meth cX0_everyRowHas 7 RX0 G) (hr : meth.sig.returnType = (some .boolean)) {out : Int32 × zHp} : ∀ (n : Nat), ∀ {a0 : Nat} {a1 : Int32} {a2 : Int32} {a4 : Int32} {a5 : Int32} {a6 : Int32} {h : zHp} {H : Heap} {locs : List Loc} {ls : Array Slot}, f_X0_everyRowHas_11 n a0 a1 a2 a4 a5 a6 h = some out → zE G s h H locs → lv_has ls 7 [(0, .ref a0), (1, .int a1), (2, .int a2), (4, .int a4), (5, .int a5), (6, .int a6)] → W p l e rm_X0_everyRowHas s m args below meth c H locs 0 0 (MQ below (zQi G out.1 out.2) args s 0 0 (zA G)) (F0 m 11 ls [])
  | 0 => fun hf => by cases hf
  | n + 1 => fun hf E hl => t_X0_everyRowHas_11_body Z hr (r11 := f_X0_everyRowHas_11 n) (t_X0_everyRowHas_11 Z hr n) hf E hl
set_option maxHeartbeats 4000000 in
set_option maxRecDepth 20000 in
theorem t_X0_everyRowHas {p : Program} {l : Launch} {e : Env} {s : State} {m : MethodId} {args : Array Value} {below : List Frame} {meth : Method} {c : Code} {G : zG} (Z : zF p s m args c meth cX0_everyRowHas 7 RX0 G) (hr : meth.sig.returnType = (some .boolean)) {out : Int32 × zHp} {a0 : Nat} {a1 : Int32} {a2 : Int32} {a3 : Int32} {a4 : Int32} {h : zHp} {H : Heap} {locs : List Loc} {ls : Array Slot} (hf : f_X0_everyRowHas a0 a1 a2 a3 a4 h = some out) (E : zE G s h H locs) (hl : lv_has ls 7 [(0, .ref a0), (1, .int a1), (2, .int a2), (3, .int a3), (4, .int a4)]) : W p l e rm_X0_everyRowHas s m args below meth c H locs 0 0 (MQ below (zQi G out.1 out.2) args s 0 0 (zA G)) (F0 m 0 ls []) := by
  unfold f_X0_everyRowHas at hf
  refine lv_aload_n Z.x Z.b dX0_everyRowHas_0 rfl (lv_at hl 0 rfl) ?_
  refine lv_iload_n Z.x Z.b dX0_everyRowHas_1 rfl (lv_at hl 3 rfl) ?_
  refine lv_iload_n Z.x Z.b dX0_everyRowHas_2 rfl (lv_at hl 2 rfl) ?_
  refine z_Vi (As := [.int a3, .int a2]) Z E hl.1 k_X0_39 v_X0_restIn hf (fun r h' e => c_X0_restIn l G h h' a0 a3 a2 r e) rfl rfl (Nat.le_of_ble_eq_true rfl) (zRm_of rfl (Nat.zero_le _) (Nat.zero_le _)) dX0_everyRowHas_3 (fun v1 h2 H locs hf E => ?_)
  refine lv_istore (lv' := [(5, .int v1), (0, .ref a0), (1, .int a1), (2, .int a2), (3, .int a3), (4, .int a4)]) Z.x Z.b dX0_everyRowHas_6 hl (by decide) rfl (fun ls hl => ?_)
  refine lv_iload_n Z.x Z.b dX0_everyRowHas_8 rfl (lv_at hl 4 rfl) ?_
  refine lv_istore (lv' := [(6, .int a3), (5, .int v1), (0, .ref a0), (1, .int a1), (2, .int a2), (3, .int a3), (4, .int a4)]) Z.x Z.b dX0_everyRowHas_9 hl (by decide) rfl (fun ls hl => ?_)
  exact t_X0_everyRowHas_11 Z hr zN hf E (lv_sub hl [2, 3, 4, 6, 1, 0] rfl)
set_option maxHeartbeats 4000000 in
set_option maxRecDepth 20000 in
theorem c_X0_everyRowHas (l : Launch) (G : zG) (h : zHp) (h' : zHp) (a0 : Nat) (a1 : Int32) (a2 : Int32) (a3 : Int32) (a4 : Int32) (r : Int32) (hf : f_X0_everyRowHas a0 a1 a2 a3 a4 h = some (r, h')) : zM0 l yX0_everyRowHas cX0_everyRowHas 7 (some .boolean) rm_X0_everyRowHas G [.ref a0, .int a1, .int a2, .int a3, .int a4] h (zQi G r h') := by
  refine Met.ofW (cc := cX0_everyRowHas) (maxL := 7) (ret := (some .boolean)) (by decide) rfl ?_
  intro p e s m args below meth c s₁ B hml hv
  obtain ⟨rfl, hW⟩ := hv
  obtain ⟨Z, E, hr⟩ := zEnter (own := RX0) B hml rfl hW
  have hl := lv_entry ([.ref a0, .int a1, .int a2, .int a3, .int a4]) (n := 7) (Nat.le_of_ble_eq_true rfl)
  rw [lg_entry_eq]
  generalize (lg_sl ([.ref a0, .int a1, .int a2, .int a3, .int a4]) ++ List.replicate (7 - (lg_sl ([.ref a0, .int a1, .int a2, .int a3, .int a4])).length) Slot.unset).toArray = ls at hl ⊢
  have hl : lv_has ls 7 [(0, .ref a0), (1, .int a1), (2, .int a2), (3, .int a3), (4, .int a4)] := hl
  exact t_X0_everyRowHas (out := (r, h')) Z hr hf E hl
/-! FerryCrews$Duties.everyDayHasLongRest(III)Z -/
theorem dX0_everyDayHasLongRest_0 : decode cX0_everyDayHasLongRest 0 = .ok (.iconst 0, 1) := by decide +kernel
theorem dX0_everyDayHasLongRest_1 : decode cX0_everyDayHasLongRest 1 = .ok (.istore 4, 2) := by decide +kernel
theorem dX0_everyDayHasLongRest_3 : decode cX0_everyDayHasLongRest 3 = .ok (.iconst (-1), 1) := by decide +kernel
theorem dX0_everyDayHasLongRest_4 : decode cX0_everyDayHasLongRest 4 = .ok (.istore 5, 2) := by decide +kernel
theorem dX0_everyDayHasLongRest_6 : decode cX0_everyDayHasLongRest 6 = .ok (.iload_n 2, 1) := by decide +kernel
theorem dX0_everyDayHasLongRest_7 : decode cX0_everyDayHasLongRest 7 = .ok (.istore 6, 2) := by decide +kernel
theorem dX0_everyDayHasLongRest_9 : decode cX0_everyDayHasLongRest 9 = .ok (.iload 6, 2) := by decide +kernel
theorem dX0_everyDayHasLongRest_11 : decode cX0_everyDayHasLongRest 11 = .ok (.iload_n 3, 1) := by decide +kernel
theorem dX0_everyDayHasLongRest_12 : decode cX0_everyDayHasLongRest 12 = .ok (.bipush 24, 2) := by decide +kernel
theorem dX0_everyDayHasLongRest_14 : decode cX0_everyDayHasLongRest 14 = .ok (.iadd, 1) := by decide +kernel
theorem dX0_everyDayHasLongRest_15 : decode cX0_everyDayHasLongRest 15 = .ok (.iconst 1, 1) := by decide +kernel
theorem dX0_everyDayHasLongRest_16 : decode cX0_everyDayHasLongRest 16 = .ok (.isub, 1) := by decide +kernel
theorem dX0_everyDayHasLongRest_17 : decode cX0_everyDayHasLongRest 17 = .ok (.if_icmp .ge 67, 3) := by decide +kernel
theorem dX0_everyDayHasLongRest_20 : decode cX0_everyDayHasLongRest 20 = .ok (.aload_n 0, 1) := by decide +kernel
theorem dX0_everyDayHasLongRest_21 : decode cX0_everyDayHasLongRest 21 = .ok (.iload 6, 2) := by decide +kernel
theorem dX0_everyDayHasLongRest_23 : decode cX0_everyDayHasLongRest 23 = .ok (.invokevirtual 43, 3) := by decide +kernel
theorem dX0_everyDayHasLongRest_26 : decode cX0_everyDayHasLongRest 26 = .ok (.iconst 1, 1) := by decide +kernel
theorem dX0_everyDayHasLongRest_27 : decode cX0_everyDayHasLongRest 27 = .ok (.if_icmp .ne 10, 3) := by decide +kernel
theorem dX0_everyDayHasLongRest_30 : decode cX0_everyDayHasLongRest 30 = .ok (.iload 4, 2) := by decide +kernel
theorem dX0_everyDayHasLongRest_32 : decode cX0_everyDayHasLongRest 32 = .ok (.iconst 1, 1) := by decide +kernel
theorem dX0_everyDayHasLongRest_33 : decode cX0_everyDayHasLongRest 33 = .ok (.iadd, 1) := by decide +kernel
theorem dX0_everyDayHasLongRest_34 : decode cX0_everyDayHasLongRest 34 = .ok (.goto 4, 3) := by decide +kernel
theorem dX0_everyDayHasLongRest_37 : decode cX0_everyDayHasLongRest 37 = .ok (.iconst 0, 1) := by decide +kernel
theorem dX0_everyDayHasLongRest_38 : decode cX0_everyDayHasLongRest 38 = .ok (.istore 4, 2) := by decide +kernel
theorem dX0_everyDayHasLongRest_40 : decode cX0_everyDayHasLongRest 40 = .ok (.iload 4, 2) := by decide +kernel
theorem dX0_everyDayHasLongRest_42 : decode cX0_everyDayHasLongRest 42 = .ok (.iload_n 1, 1) := by decide +kernel
theorem dX0_everyDayHasLongRest_43 : decode cX0_everyDayHasLongRest 43 = .ok (.if_icmp .lt 11, 3) := by decide +kernel
theorem dX0_everyDayHasLongRest_46 : decode cX0_everyDayHasLongRest 46 = .ok (.iload 6, 2) := by decide +kernel
theorem dX0_everyDayHasLongRest_48 : decode cX0_everyDayHasLongRest 48 = .ok (.iload_n 1, 1) := by decide +kernel
theorem dX0_everyDayHasLongRest_49 : decode cX0_everyDayHasLongRest 49 = .ok (.isub, 1) := by decide +kernel
theorem dX0_everyDayHasLongRest_50 : decode cX0_everyDayHasLongRest 50 = .ok (.iconst 1, 1) := by decide +kernel
theorem dX0_everyDayHasLongRest_51 : decode cX0_everyDayHasLongRest 51 = .ok (.iadd, 1) := by decide +kernel
theorem dX0_everyDayHasLongRest_52 : decode cX0_everyDayHasLongRest 52 = .ok (.istore 5, 2) := by decide +kernel
theorem dX0_everyDayHasLongRest_54 : decode cX0_everyDayHasLongRest 54 = .ok (.iload 6, 2) := by decide +kernel
theorem dX0_everyDayHasLongRest_56 : decode cX0_everyDayHasLongRest 56 = .ok (.bipush 24, 2) := by decide +kernel
theorem dX0_everyDayHasLongRest_58 : decode cX0_everyDayHasLongRest 58 = .ok (.isub, 1) := by decide +kernel
theorem dX0_everyDayHasLongRest_59 : decode cX0_everyDayHasLongRest 59 = .ok (.iconst 1, 1) := by decide +kernel
theorem dX0_everyDayHasLongRest_60 : decode cX0_everyDayHasLongRest 60 = .ok (.iadd, 1) := by decide +kernel
theorem dX0_everyDayHasLongRest_61 : decode cX0_everyDayHasLongRest 61 = .ok (.istore 7, 2) := by decide +kernel
theorem dX0_everyDayHasLongRest_63 : decode cX0_everyDayHasLongRest 63 = .ok (.iload 7, 2) := by decide +kernel
theorem dX0_everyDayHasLongRest_65 : decode cX0_everyDayHasLongRest 65 = .ok (.iload_n 2, 1) := by decide +kernel
theorem dX0_everyDayHasLongRest_66 : decode cX0_everyDayHasLongRest 66 = .ok (.if_icmp .lt 12, 3) := by decide +kernel
theorem dX0_everyDayHasLongRest_69 : decode cX0_everyDayHasLongRest 69 = .ok (.iload 5, 2) := by decide +kernel
theorem dX0_everyDayHasLongRest_71 : decode cX0_everyDayHasLongRest 71 = .ok (.iload 7, 2) := by decide +kernel
theorem dX0_everyDayHasLongRest_73 : decode cX0_everyDayHasLongRest 73 = .ok (.if_icmp .ge 5, 3) := by decide +kernel
theorem dX0_everyDayHasLongRest_76 : decode cX0_everyDayHasLongRest 76 = .ok (.iconst 0, 1) := by decide +kernel
theorem dX0_everyDayHasLongRest_77 : decode cX0_everyDayHasLongRest 77 = .ok (.ireturn, 1) := by decide +kernel
theorem dX0_everyDayHasLongRest_78 : decode cX0_everyDayHasLongRest 78 = .ok (.iinc 6 1, 3) := by decide +kernel
theorem dX0_everyDayHasLongRest_81 : decode cX0_everyDayHasLongRest 81 = .ok (.goto (-72), 3) := by decide +kernel
theorem dX0_everyDayHasLongRest_84 : decode cX0_everyDayHasLongRest 84 = .ok (.iconst 1, 1) := by decide +kernel
theorem dX0_everyDayHasLongRest_85 : decode cX0_everyDayHasLongRest 85 = .ok (.ireturn, 1) := by decide +kernel
def rm_X0_everyDayHasLongRest : Room := { frames := 1, cells := 0, slots := 0, locals := 21 }
set_option maxHeartbeats 4000000 in
set_option maxRecDepth 20000 in
theorem t_X0_everyDayHasLongRest_78 {p : Program} {l : Launch} {e : Env} {s : State} {m : MethodId} {args : Array Value} {below : List Frame} {meth : Method} {c : Code} {G : zG} (Z : zF p s m args c meth cX0_everyDayHasLongRest 8 RX0 G) (hr : meth.sig.returnType = (some .boolean)) {out : Int32 × zHp} {r9 : Nat → Int32 → Int32 → Int32 → Int32 → Int32 → Int32 → zHp → Option (Int32 × zHp)} (k9 : ∀ {a0 : Nat} {a1 : Int32} {a2 : Int32} {a3 : Int32} {a4 : Int32} {a5 : Int32} {a6 : Int32} {h : zHp} {H : Heap} {locs : List Loc} {ls : Array Slot}, r9 a0 a1 a2 a3 a4 a5 a6 h = some out → zE G s h H locs → lv_has ls 8 [(0, .ref a0), (1, .int a1), (2, .int a2), (3, .int a3), (4, .int a4), (5, .int a5), (6, .int a6)] → W p l e rm_X0_everyDayHasLongRest s m args below meth c H locs 0 0 (MQ below (zQi G out.1 out.2) args s 0 0 (zA G)) (F0 m 9 ls [])) {a0 : Nat} {a1 : Int32} {a2 : Int32} {a3 : Int32} {a4 : Int32} {a5 : Int32} {a6 : Int32} {h : zHp} {H : Heap} {locs : List Loc} {ls : Array Slot} (hf : f_X0_everyDayHasLongRest_78 r9 a0 a1 a2 a3 a4 a5 a6 h = some out) (E : zE G s h H locs) (hl : lv_has ls 8 [(0, .ref a0), (1, .int a1), (2, .int a2), (3, .int a3), (4, .int a4), (5, .int a5), (6, .int a6)]) : W p l e rm_X0_everyDayHasLongRest s m args below meth c H locs 0 0 (MQ below (zQi G out.1 out.2) args s 0 0 (zA G)) (F0 m 78 ls []) := by
  unfold f_X0_everyDayHasLongRest_78 at hf
  refine lv_iinc (v := (a6 + 1)) (lv' := [(6, .int (a6 + 1)), (0, .ref a0), (1, .int a1), (2, .int a2), (3, .int a3), (4, .int a4), (5, .int a5)]) Z.x Z.b dX0_everyDayHasLongRest_78 hl (k := 6) rfl rfl (by decide) rfl (fun ls hl => ?_)
  refine lv_goto (tgt := 9) Z.x Z.b dX0_everyDayHasLongRest_81 (by decide) ?_
  exact k9 hf E (lv_sub hl [1, 2, 3, 4, 5, 6, 0] rfl)
set_option maxHeartbeats 4000000 in
set_option maxRecDepth 20000 in
theorem t_X0_everyDayHasLongRest_54 {p : Program} {l : Launch} {e : Env} {s : State} {m : MethodId} {args : Array Value} {below : List Frame} {meth : Method} {c : Code} {G : zG} (Z : zF p s m args c meth cX0_everyDayHasLongRest 8 RX0 G) (hr : meth.sig.returnType = (some .boolean)) {out : Int32 × zHp} {r9 : Nat → Int32 → Int32 → Int32 → Int32 → Int32 → Int32 → zHp → Option (Int32 × zHp)} (k9 : ∀ {a0 : Nat} {a1 : Int32} {a2 : Int32} {a3 : Int32} {a4 : Int32} {a5 : Int32} {a6 : Int32} {h : zHp} {H : Heap} {locs : List Loc} {ls : Array Slot}, r9 a0 a1 a2 a3 a4 a5 a6 h = some out → zE G s h H locs → lv_has ls 8 [(0, .ref a0), (1, .int a1), (2, .int a2), (3, .int a3), (4, .int a4), (5, .int a5), (6, .int a6)] → W p l e rm_X0_everyDayHasLongRest s m args below meth c H locs 0 0 (MQ below (zQi G out.1 out.2) args s 0 0 (zA G)) (F0 m 9 ls [])) {a0 : Nat} {a1 : Int32} {a2 : Int32} {a3 : Int32} {a4 : Int32} {a5 : Int32} {a6 : Int32} {h : zHp} {H : Heap} {locs : List Loc} {ls : Array Slot} (hf : f_X0_everyDayHasLongRest_54 r9 a0 a1 a2 a3 a4 a5 a6 h = some out) (E : zE G s h H locs) (hl : lv_has ls 8 [(0, .ref a0), (1, .int a1), (2, .int a2), (3, .int a3), (4, .int a4), (5, .int a5), (6, .int a6)]) : W p l e rm_X0_everyDayHasLongRest s m args below meth c H locs 0 0 (MQ below (zQi G out.1 out.2) args s 0 0 (zA G)) (F0 m 54 ls []) := by
  unfold f_X0_everyDayHasLongRest_54 at hf
  refine lv_iload Z.x Z.b dX0_everyDayHasLongRest_54 (lv_at hl 6 rfl) ?_
  refine lv_bipush (v := 24) Z.x Z.b dX0_everyDayHasLongRest_56 (by decide) ?_
  refine lv_isub Z.x Z.b dX0_everyDayHasLongRest_58 ?_
  refine lv_iconst (v := 1) Z.x Z.b dX0_everyDayHasLongRest_59 (by decide) ?_
  refine lv_iadd Z.x Z.b dX0_everyDayHasLongRest_60 ?_
  refine lv_istore (lv' := [(7, .int ((a6 - 24) + 1)), (0, .ref a0), (1, .int a1), (2, .int a2), (3, .int a3), (4, .int a4), (5, .int a5), (6, .int a6)]) Z.x Z.b dX0_everyDayHasLongRest_61 hl (by decide) rfl (fun ls hl => ?_)
  refine lv_iload Z.x Z.b dX0_everyDayHasLongRest_63 (lv_at hl 0 rfl) ?_
  refine lv_iload_n Z.x Z.b dX0_everyDayHasLongRest_65 rfl (lv_at hl 3 rfl) ?_
  refine lv_icmp_lt (tgt := 78) Z.x Z.b dX0_everyDayHasLongRest_66 (by decide) (fun c => ?_) (fun c => ?_)
  · have hf := zit hf c
    exact t_X0_everyDayHasLongRest_78 Z hr k9 hf E (lv_sub hl [1, 2, 3, 4, 5, 6, 7] rfl)
  · have hf := zif_ hf c
    refine lv_iload Z.x Z.b dX0_everyDayHasLongRest_69 (lv_at hl 6 rfl) ?_
    refine lv_iload Z.x Z.b dX0_everyDayHasLongRest_71 (lv_at hl 0 rfl) ?_
    refine lv_icmp_ge (tgt := 78) Z.x Z.b dX0_everyDayHasLongRest_73 (by decide) (fun c => ?_) (fun c => ?_)
    · have hf := zit hf c
      exact t_X0_everyDayHasLongRest_78 Z hr k9 hf E (lv_sub hl [1, 2, 3, 4, 5, 6, 7] rfl)
    · have hf := zif_ hf c
      refine lv_iconst (v := 0) Z.x Z.b dX0_everyDayHasLongRest_76 (by decide) ?_
      exact z_zret Z E hr dX0_everyDayHasLongRest_77 hf
set_option maxHeartbeats 4000000 in
set_option maxRecDepth 20000 in
theorem t_X0_everyDayHasLongRest_38 {p : Program} {l : Launch} {e : Env} {s : State} {m : MethodId} {args : Array Value} {below : List Frame} {meth : Method} {c : Code} {G : zG} (Z : zF p s m args c meth cX0_everyDayHasLongRest 8 RX0 G) (hr : meth.sig.returnType = (some .boolean)) {out : Int32 × zHp} {r9 : Nat → Int32 → Int32 → Int32 → Int32 → Int32 → Int32 → zHp → Option (Int32 × zHp)} (k9 : ∀ {a0 : Nat} {a1 : Int32} {a2 : Int32} {a3 : Int32} {a4 : Int32} {a5 : Int32} {a6 : Int32} {h : zHp} {H : Heap} {locs : List Loc} {ls : Array Slot}, r9 a0 a1 a2 a3 a4 a5 a6 h = some out → zE G s h H locs → lv_has ls 8 [(0, .ref a0), (1, .int a1), (2, .int a2), (3, .int a3), (4, .int a4), (5, .int a5), (6, .int a6)] → W p l e rm_X0_everyDayHasLongRest s m args below meth c H locs 0 0 (MQ below (zQi G out.1 out.2) args s 0 0 (zA G)) (F0 m 9 ls [])) {a0 : Nat} {a1 : Int32} {a2 : Int32} {a3 : Int32} {a5 : Int32} {a6 : Int32} {s0 : Int32} {h : zHp} {H : Heap} {locs : List Loc} {ls : Array Slot} (hf : f_X0_everyDayHasLongRest_38 r9 a0 a1 a2 a3 a5 a6 s0 h = some out) (E : zE G s h H locs) (hl : lv_has ls 8 [(0, .ref a0), (1, .int a1), (2, .int a2), (3, .int a3), (5, .int a5), (6, .int a6)]) : W p l e rm_X0_everyDayHasLongRest s m args below meth c H locs 0 0 (MQ below (zQi G out.1 out.2) args s 0 0 (zA G)) (F0 m 38 ls [.int s0]) := by
  unfold f_X0_everyDayHasLongRest_38 at hf
  refine lv_istore (lv' := [(4, .int s0), (0, .ref a0), (1, .int a1), (2, .int a2), (3, .int a3), (5, .int a5), (6, .int a6)]) Z.x Z.b dX0_everyDayHasLongRest_38 hl (by decide) rfl (fun ls hl => ?_)
  refine lv_iload Z.x Z.b dX0_everyDayHasLongRest_40 (lv_at hl 0 rfl) ?_
  refine lv_iload_n Z.x Z.b dX0_everyDayHasLongRest_42 rfl (lv_at hl 2 rfl) ?_
  refine lv_icmp_lt (tgt := 54) Z.x Z.b dX0_everyDayHasLongRest_43 (by decide) (fun c => ?_) (fun c => ?_)
  · have hf := zit hf c
    exact t_X0_everyDayHasLongRest_54 Z hr k9 hf E (lv_sub hl [1, 2, 3, 4, 0, 5, 6] rfl)
  · have hf := zif_ hf c
    refine lv_iload Z.x Z.b dX0_everyDayHasLongRest_46 (lv_at hl 6 rfl) ?_
    refine lv_iload_n Z.x Z.b dX0_everyDayHasLongRest_48 rfl (lv_at hl 2 rfl) ?_
    refine lv_isub Z.x Z.b dX0_everyDayHasLongRest_49 ?_
    refine lv_iconst (v := 1) Z.x Z.b dX0_everyDayHasLongRest_50 (by decide) ?_
    refine lv_iadd Z.x Z.b dX0_everyDayHasLongRest_51 ?_
    refine lv_istore (lv' := [(5, .int ((a6 - a1) + 1)), (4, .int s0), (0, .ref a0), (1, .int a1), (2, .int a2), (3, .int a3), (6, .int a6)]) Z.x Z.b dX0_everyDayHasLongRest_52 hl (by decide) rfl (fun ls hl => ?_)
    exact t_X0_everyDayHasLongRest_54 Z hr k9 hf E (lv_sub hl [2, 3, 4, 5, 1, 0, 6] rfl)
set_option maxHeartbeats 4000000 in
set_option maxRecDepth 20000 in
theorem t_X0_everyDayHasLongRest_9_body {p : Program} {l : Launch} {e : Env} {s : State} {m : MethodId} {args : Array Value} {below : List Frame} {meth : Method} {c : Code} {G : zG} (Z : zF p s m args c meth cX0_everyDayHasLongRest 8 RX0 G) (hr : meth.sig.returnType = (some .boolean)) {out : Int32 × zHp} {r9 : Nat → Int32 → Int32 → Int32 → Int32 → Int32 → Int32 → zHp → Option (Int32 × zHp)} (k9 : ∀ {a0 : Nat} {a1 : Int32} {a2 : Int32} {a3 : Int32} {a4 : Int32} {a5 : Int32} {a6 : Int32} {h : zHp} {H : Heap} {locs : List Loc} {ls : Array Slot}, r9 a0 a1 a2 a3 a4 a5 a6 h = some out → zE G s h H locs → lv_has ls 8 [(0, .ref a0), (1, .int a1), (2, .int a2), (3, .int a3), (4, .int a4), (5, .int a5), (6, .int a6)] → W p l e rm_X0_everyDayHasLongRest s m args below meth c H locs 0 0 (MQ below (zQi G out.1 out.2) args s 0 0 (zA G)) (F0 m 9 ls [])) {a0 : Nat} {a1 : Int32} {a2 : Int32} {a3 : Int32} {a4 : Int32} {a5 : Int32} {a6 : Int32} {h : zHp} {H : Heap} {locs : List Loc} {ls : Array Slot} (hf : f_X0_everyDayHasLongRest_9_body r9 a0 a1 a2 a3 a4 a5 a6 h = some out) (E : zE G s h H locs) (hl : lv_has ls 8 [(0, .ref a0), (1, .int a1), (2, .int a2), (3, .int a3), (4, .int a4), (5, .int a5), (6, .int a6)]) : W p l e rm_X0_everyDayHasLongRest s m args below meth c H locs 0 0 (MQ below (zQi G out.1 out.2) args s 0 0 (zA G)) (F0 m 9 ls []) := by
  unfold f_X0_everyDayHasLongRest_9_body at hf
  refine lv_iload Z.x Z.b dX0_everyDayHasLongRest_9 (lv_at hl 6 rfl) ?_
  refine lv_iload_n Z.x Z.b dX0_everyDayHasLongRest_11 rfl (lv_at hl 3 rfl) ?_
  refine lv_bipush (v := 24) Z.x Z.b dX0_everyDayHasLongRest_12 (by decide) ?_
  refine lv_iadd Z.x Z.b dX0_everyDayHasLongRest_14 ?_
  refine lv_iconst (v := 1) Z.x Z.b dX0_everyDayHasLongRest_15 (by decide) ?_
  refine lv_isub Z.x Z.b dX0_everyDayHasLongRest_16 ?_
  refine lv_icmp_ge (tgt := 84) Z.x Z.b dX0_everyDayHasLongRest_17 (by decide) (fun c => ?_) (fun c => ?_)
  · have hf := zit hf c
    refine lv_iconst (v := 1) Z.x Z.b dX0_everyDayHasLongRest_84 (by decide) ?_
    exact z_zret Z E hr dX0_everyDayHasLongRest_85 hf
  · have hf := zif_ hf c
    refine lv_aload_n Z.x Z.b dX0_everyDayHasLongRest_20 rfl (lv_at hl 0 rfl) ?_
    refine lv_iload Z.x Z.b dX0_everyDayHasLongRest_21 (lv_at hl 6 rfl) ?_
    refine z_Vi (As := [.int a6]) Z E hl.1 k_X0_43 v_X0_restAt hf (fun r h' e => c_X0_restAt l G h h' a0 a6 r e) rfl rfl (Nat.le_of_ble_eq_true rfl) (zRm_of rfl (Nat.zero_le _) (Nat.zero_le _)) dX0_everyDayHasLongRest_23 (fun v1 h2 H locs hf E => ?_)
    refine lv_iconst (v := 1) Z.x Z.b dX0_everyDayHasLongRest_26 (by decide) ?_
    refine lv_icmp_ne (tgt := 37) Z.x Z.b dX0_everyDayHasLongRest_27 (by decide) (fun c => ?_) (fun c => ?_)
    · have hf := zif_ hf c
      refine lv_iconst (v := 0) Z.x Z.b dX0_everyDayHasLongRest_37 (by decide) ?_
      exact t_X0_everyDayHasLongRest_38 Z hr k9 hf E (lv_sub hl [0, 1, 2, 3, 5, 6] rfl)
    · have hf := zit hf c
      refine lv_iload Z.x Z.b dX0_everyDayHasLongRest_30 (lv_at hl 4 rfl) ?_
      refine lv_iconst (v := 1) Z.x Z.b dX0_everyDayHasLongRest_32 (by decide) ?_
      refine lv_iadd Z.x Z.b dX0_everyDayHasLongRest_33 ?_
      refine lv_goto (tgt := 38) Z.x Z.b dX0_everyDayHasLongRest_34 (by decide) ?_
      exact t_X0_everyDayHasLongRest_38 Z hr k9 hf E (lv_sub hl [0, 1, 2, 3, 5, 6] rfl)
theorem t_X0_everyDayHasLongRest_9 {p : Program} {l : Launch} {e : Env} {s : State} {m : MethodId} {args : Array Value} {below : List Frame} {meth : Method} {c : Code} {G : zG} (Z : zF p s m args c meth cX0_everyDayHasLongRest 8 RX0 G) (hr : meth.sig.returnType = (some .boolean)) {out : Int32 × zHp} : ∀ (n : Nat), ∀ {a0 : Nat} {a1 : Int32} {a2 : Int32} {a3 : Int32} {a4 : Int32} {a5 : Int32} {a6 : Int32} {h : zHp} {H : Heap} {locs : List Loc} {ls : Array Slot}, f_X0_everyDayHasLongRest_9 n a0 a1 a2 a3 a4 a5 a6 h = some out → zE G s h H locs → lv_has ls 8 [(0, .ref a0), (1, .int a1), (2, .int a2), (3, .int a3), (4, .int a4), (5, .int a5), (6, .int a6)] → W p l e rm_X0_everyDayHasLongRest s m args below meth c H locs 0 0 (MQ below (zQi G out.1 out.2) args s 0 0 (zA G)) (F0 m 9 ls [])
  | 0 => fun hf => by cases hf
  | n + 1 => fun hf E hl => t_X0_everyDayHasLongRest_9_body Z hr (r9 := f_X0_everyDayHasLongRest_9 n) (t_X0_everyDayHasLongRest_9 Z hr n) hf E hl
set_option maxHeartbeats 4000000 in
set_option maxRecDepth 20000 in
theorem t_X0_everyDayHasLongRest {p : Program} {l : Launch} {e : Env} {s : State} {m : MethodId} {args : Array Value} {below : List Frame} {meth : Method} {c : Code} {G : zG} (Z : zF p s m args c meth cX0_everyDayHasLongRest 8 RX0 G) (hr : meth.sig.returnType = (some .boolean)) {out : Int32 × zHp} {a0 : Nat} {a1 : Int32} {a2 : Int32} {a3 : Int32} {h : zHp} {H : Heap} {locs : List Loc} {ls : Array Slot} (hf : f_X0_everyDayHasLongRest a0 a1 a2 a3 h = some out) (E : zE G s h H locs) (hl : lv_has ls 8 [(0, .ref a0), (1, .int a1), (2, .int a2), (3, .int a3)]) : W p l e rm_X0_everyDayHasLongRest s m args below meth c H locs 0 0 (MQ below (zQi G out.1 out.2) args s 0 0 (zA G)) (F0 m 0 ls []) := by
  unfold f_X0_everyDayHasLongRest at hf
  refine lv_iconst (v := 0) Z.x Z.b dX0_everyDayHasLongRest_0 (by decide) ?_
  refine lv_istore (lv' := [(4, .int 0), (0, .ref a0), (1, .int a1), (2, .int a2), (3, .int a3)]) Z.x Z.b dX0_everyDayHasLongRest_1 hl (by decide) rfl (fun ls hl => ?_)
  refine lv_iconst (v := (-1)) Z.x Z.b dX0_everyDayHasLongRest_3 (by decide) ?_
  refine lv_istore (lv' := [(5, .int (-1)), (4, .int 0), (0, .ref a0), (1, .int a1), (2, .int a2), (3, .int a3)]) Z.x Z.b dX0_everyDayHasLongRest_4 hl (by decide) rfl (fun ls hl => ?_)
  refine lv_iload_n Z.x Z.b dX0_everyDayHasLongRest_6 rfl (lv_at hl 4 rfl) ?_
  refine lv_istore (lv' := [(6, .int a2), (5, .int (-1)), (4, .int 0), (0, .ref a0), (1, .int a1), (2, .int a2), (3, .int a3)]) Z.x Z.b dX0_everyDayHasLongRest_7 hl (by decide) rfl (fun ls hl => ?_)
  exact t_X0_everyDayHasLongRest_9 Z hr zN hf E (lv_sub hl [3, 4, 5, 6, 2, 1, 0] rfl)
set_option maxHeartbeats 4000000 in
set_option maxRecDepth 20000 in
theorem c_X0_everyDayHasLongRest (l : Launch) (G : zG) (h : zHp) (h' : zHp) (a0 : Nat) (a1 : Int32) (a2 : Int32) (a3 : Int32) (r : Int32) (hf : f_X0_everyDayHasLongRest a0 a1 a2 a3 h = some (r, h')) : zM0 l yX0_everyDayHasLongRest cX0_everyDayHasLongRest 8 (some .boolean) rm_X0_everyDayHasLongRest G [.ref a0, .int a1, .int a2, .int a3] h (zQi G r h') := by
  refine Met.ofW (cc := cX0_everyDayHasLongRest) (maxL := 8) (ret := (some .boolean)) (by decide) rfl ?_
  intro p e s m args below meth c s₁ B hml hv
  obtain ⟨rfl, hW⟩ := hv
  obtain ⟨Z, E, hr⟩ := zEnter (own := RX0) B hml rfl hW
  have hl := lv_entry ([.ref a0, .int a1, .int a2, .int a3]) (n := 8) (Nat.le_of_ble_eq_true rfl)
  rw [lg_entry_eq]
  generalize (lg_sl ([.ref a0, .int a1, .int a2, .int a3]) ++ List.replicate (8 - (lg_sl ([.ref a0, .int a1, .int a2, .int a3])).length) Slot.unset).toArray = ls at hl ⊢
  have hl : lv_has ls 8 [(0, .ref a0), (1, .int a1), (2, .int a2), (3, .int a3)] := hl
  exact t_X0_everyDayHasLongRest (out := (r, h')) Z hr hf E hl
/-! FerryCrews$Duties.leastLongRest()I -/
theorem dX0_leastLongRest_0 : decode cX0_leastLongRest 0 = .ok (.bipush 24, 2) := by decide +kernel
theorem dX0_leastLongRest_2 : decode cX0_leastLongRest 2 = .ok (.istore_n 1, 1) := by decide +kernel
theorem dX0_leastLongRest_3 : decode cX0_leastLongRest 3 = .ok (.iload_n 1, 1) := by decide +kernel
theorem dX0_leastLongRest_4 : decode cX0_leastLongRest 4 = .ok (.ifCond .le 22, 3) := by decide +kernel
theorem dX0_leastLongRest_7 : decode cX0_leastLongRest 7 = .ok (.aload_n 0, 1) := by decide +kernel
theorem dX0_leastLongRest_8 : decode cX0_leastLongRest 8 = .ok (.iload_n 1, 1) := by decide +kernel
theorem dX0_leastLongRest_9 : decode cX0_leastLongRest 9 = .ok (.iconst 0, 1) := by decide +kernel
theorem dX0_leastLongRest_10 : decode cX0_leastLongRest 10 = .ok (.aload_n 0, 1) := by decide +kernel
theorem dX0_leastLongRest_11 : decode cX0_leastLongRest 11 = .ok (.getfield 15, 3) := by decide +kernel
theorem dX0_leastLongRest_14 : decode cX0_leastLongRest 14 = .ok (.invokevirtual 47, 3) := by decide +kernel
theorem dX0_leastLongRest_17 : decode cX0_leastLongRest 17 = .ok (.ifCond .ne 9, 3) := by decide +kernel
theorem dX0_leastLongRest_20 : decode cX0_leastLongRest 20 = .ok (.iinc 1 (-1), 3) := by decide +kernel
theorem dX0_leastLongRest_23 : decode cX0_leastLongRest 23 = .ok (.goto (-20), 3) := by decide +kernel
theorem dX0_leastLongRest_26 : decode cX0_leastLongRest 26 = .ok (.iload_n 1, 1) := by decide +kernel
theorem dX0_leastLongRest_27 : decode cX0_leastLongRest 27 = .ok (.ireturn, 1) := by decide +kernel
set_option maxRecDepth 20000 in
theorem wc_X0_everyDayHasLongRest : Cond.code yX0_everyDayHasLongRest cX0_everyDayHasLongRest 8 (some .boolean) ∈ zB := List.mem_filter.mpr ⟨List.mem_of_getElem? (i := 429) (by decide +kernel), by decide +kernel⟩
set_option maxRecDepth 20000 in
theorem wm_X0_47 : Cond.methodLink RX0 47 yX0_everyDayHasLongRest ∈ zB := List.mem_filter.mpr ⟨List.mem_of_getElem? (i := 495) (by decide +kernel), by decide +kernel⟩
theorem k_X0_47 : zCal RX0 47 yX0_everyDayHasLongRest cX0_everyDayHasLongRest 8 (some .boolean) 3 := ⟨wm_X0_47, wi_X0, wc_X0_everyDayHasLongRest, by decide +kernel, by decide +kernel, by decide +kernel⟩
set_option maxRecDepth 20000 in
theorem wn_X0_everyDayHasLongRest : Cond.instanceMethod yX0_everyDayHasLongRest ∈ zB := List.mem_filter.mpr ⟨List.mem_of_getElem? (i := 427) (by decide +kernel), by decide +kernel⟩
set_option maxRecDepth 20000 in
theorem ws_X0_everyDayHasLongRest : Cond.selects RX0 yX0_everyDayHasLongRest yX0_everyDayHasLongRest ∈ zB := List.mem_filter.mpr ⟨List.mem_of_getElem? (i := 428) (by decide +kernel), by decide +kernel⟩
theorem v_X0_everyDayHasLongRest : zVir yX0_everyDayHasLongRest 0 := ⟨wn_X0_everyDayHasLongRest, ws_X0_everyDayHasLongRest, TX0, 4, rfl⟩
def rm_X0_leastLongRest : Room := { frames := 2, cells := 0, slots := 0, locals := 48 }
set_option maxHeartbeats 4000000 in
set_option maxRecDepth 20000 in
theorem t_X0_leastLongRest_3_body {p : Program} {l : Launch} {e : Env} {s : State} {m : MethodId} {args : Array Value} {below : List Frame} {meth : Method} {c : Code} {G : zG} (Z : zF p s m args c meth cX0_leastLongRest 2 RX0 G) (hr : meth.sig.returnType = (some .int)) {out : Int32 × zHp} {r3 : Nat → Int32 → zHp → Option (Int32 × zHp)} (k3 : ∀ {a0 : Nat} {a1 : Int32} {h : zHp} {H : Heap} {locs : List Loc} {ls : Array Slot}, r3 a0 a1 h = some out → zE G s h H locs → lv_has ls 2 [(0, .ref a0), (1, .int a1)] → W p l e rm_X0_leastLongRest s m args below meth c H locs 0 0 (MQ below (zQi G out.1 out.2) args s 0 0 (zA G)) (F0 m 3 ls [])) {a0 : Nat} {a1 : Int32} {h : zHp} {H : Heap} {locs : List Loc} {ls : Array Slot} (hf : f_X0_leastLongRest_3_body r3 a0 a1 h = some out) (E : zE G s h H locs) (hl : lv_has ls 2 [(0, .ref a0), (1, .int a1)]) : W p l e rm_X0_leastLongRest s m args below meth c H locs 0 0 (MQ below (zQi G out.1 out.2) args s 0 0 (zA G)) (F0 m 3 ls []) := by
  unfold f_X0_leastLongRest_3_body at hf
  refine lv_iload_n Z.x Z.b dX0_leastLongRest_3 rfl (lv_at hl 1 rfl) ?_
  refine lv_if_le (tgt := 26) Z.x Z.b dX0_leastLongRest_4 (by decide) (fun c => ?_) (fun c => ?_)
  · have hf := zit hf c
    refine lv_iload_n Z.x Z.b dX0_leastLongRest_26 rfl (lv_at hl 1 rfl) ?_
    exact z_iret Z E hr dX0_leastLongRest_27 hf
  · have hf := zif_ hf c
    refine lv_aload_n Z.x Z.b dX0_leastLongRest_7 rfl (lv_at hl 0 rfl) ?_
    refine lv_iload_n Z.x Z.b dX0_leastLongRest_8 rfl (lv_at hl 1 rfl) ?_
    refine lv_iconst (v := 0) Z.x Z.b dX0_leastLongRest_9 (by decide) ?_
    refine lv_aload_n Z.x Z.b dX0_leastLongRest_10 rfl (lv_at hl 0 rfl) ?_
    refine z_getI Z E q_X0_15 dX0_leastLongRest_11 hf (fun v1 hf => ?_)
    refine z_Vi (As := [.int a1, .int 0, .int v1]) Z E hl.1 k_X0_47 v_X0_everyDayHasLongRest hf (fun r h' e => c_X0_everyDayHasLongRest l G h h' a0 a1 0 v1 r e) rfl rfl (Nat.le_of_ble_eq_true rfl) (zRm_of rfl (Nat.zero_le _) (Nat.zero_le _)) dX0_leastLongRest_14 (fun v2 h3 H locs hf E => ?_)
    refine lv_if_ne (tgt := 26) Z.x Z.b dX0_leastLongRest_17 (by decide) (fun c => ?_) (fun c => ?_)
    · have hf := zif_ hf c
      refine lv_iload_n Z.x Z.b dX0_leastLongRest_26 rfl (lv_at hl 1 rfl) ?_
      exact z_iret Z E hr dX0_leastLongRest_27 hf
    · have hf := zit hf c
      refine lv_iinc (v := (a1 + (-1))) (lv' := [(1, .int (a1 + (-1))), (0, .ref a0)]) Z.x Z.b dX0_leastLongRest_20 hl (k := 1) rfl rfl (by decide) rfl (fun ls hl => ?_)
      refine lv_goto (tgt := 3) Z.x Z.b dX0_leastLongRest_23 (by decide) ?_
      exact k3 hf E (lv_sub hl [1, 0] rfl)
theorem t_X0_leastLongRest_3 {p : Program} {l : Launch} {e : Env} {s : State} {m : MethodId} {args : Array Value} {below : List Frame} {meth : Method} {c : Code} {G : zG} (Z : zF p s m args c meth cX0_leastLongRest 2 RX0 G) (hr : meth.sig.returnType = (some .int)) {out : Int32 × zHp} : ∀ (n : Nat), ∀ {a0 : Nat} {a1 : Int32} {h : zHp} {H : Heap} {locs : List Loc} {ls : Array Slot}, f_X0_leastLongRest_3 n a0 a1 h = some out → zE G s h H locs → lv_has ls 2 [(0, .ref a0), (1, .int a1)] → W p l e rm_X0_leastLongRest s m args below meth c H locs 0 0 (MQ below (zQi G out.1 out.2) args s 0 0 (zA G)) (F0 m 3 ls [])
  | 0 => fun hf => by cases hf
  | n + 1 => fun hf E hl => t_X0_leastLongRest_3_body Z hr (r3 := f_X0_leastLongRest_3 n) (t_X0_leastLongRest_3 Z hr n) hf E hl
set_option maxHeartbeats 4000000 in
set_option maxRecDepth 20000 in
theorem t_X0_leastLongRest {p : Program} {l : Launch} {e : Env} {s : State} {m : MethodId} {args : Array Value} {below : List Frame} {meth : Method} {c : Code} {G : zG} (Z : zF p s m args c meth cX0_leastLongRest 2 RX0 G) (hr : meth.sig.returnType = (some .int)) {out : Int32 × zHp} {a0 : Nat} {h : zHp} {H : Heap} {locs : List Loc} {ls : Array Slot} (hf : f_X0_leastLongRest a0 h = some out) (E : zE G s h H locs) (hl : lv_has ls 2 [(0, .ref a0)]) : W p l e rm_X0_leastLongRest s m args below meth c H locs 0 0 (MQ below (zQi G out.1 out.2) args s 0 0 (zA G)) (F0 m 0 ls []) := by
  unfold f_X0_leastLongRest at hf
  refine lv_bipush (v := 24) Z.x Z.b dX0_leastLongRest_0 (by decide) ?_
  refine lv_istore_n (lv' := [(1, .int 24), (0, .ref a0)]) Z.x Z.b dX0_leastLongRest_2 rfl hl (by decide) rfl (fun ls hl => ?_)
  exact t_X0_leastLongRest_3 Z hr zN hf E (lv_sub hl [1, 0] rfl)
set_option maxHeartbeats 4000000 in
set_option maxRecDepth 20000 in
theorem c_X0_leastLongRest (l : Launch) (G : zG) (h : zHp) (h' : zHp) (a0 : Nat) (r : Int32) (hf : f_X0_leastLongRest a0 h = some (r, h')) : zM0 l yX0_leastLongRest cX0_leastLongRest 2 (some .int) rm_X0_leastLongRest G [.ref a0] h (zQi G r h') := by
  refine Met.ofW (cc := cX0_leastLongRest) (maxL := 2) (ret := (some .int)) (by decide) rfl ?_
  intro p e s m args below meth c s₁ B hml hv
  obtain ⟨rfl, hW⟩ := hv
  obtain ⟨Z, E, hr⟩ := zEnter (own := RX0) B hml rfl hW
  have hl := lv_entry ([.ref a0]) (n := 2) (Nat.le_of_ble_eq_true rfl)
  rw [lg_entry_eq]
  generalize (lg_sl ([.ref a0]) ++ List.replicate (2 - (lg_sl ([.ref a0])).length) Slot.unset).toArray = ls at hl ⊢
  have hl : lv_has ls 2 [(0, .ref a0)] := hl
  exact t_X0_leastLongRest (out := (r, h')) Z hr hf E hl
/-! FerryCrews$Duties.firstHourOfLeastRest()I -/
theorem dX0_firstHourOfLeastRest_0 : decode cX0_firstHourOfLeastRest 0 = .ok (.aload_n 0, 1) := by decide +kernel
theorem dX0_firstHourOfLeastRest_1 : decode cX0_firstHourOfLeastRest 1 = .ok (.iconst 0, 1) := by decide +kernel
theorem dX0_firstHourOfLeastRest_2 : decode cX0_firstHourOfLeastRest 2 = .ok (.bipush 24, 2) := by decide +kernel
theorem dX0_firstHourOfLeastRest_4 : decode cX0_firstHourOfLeastRest 4 = .ok (.invokevirtual 39, 3) := by decide +kernel
theorem dX0_firstHourOfLeastRest_7 : decode cX0_firstHourOfLeastRest 7 = .ok (.istore_n 1, 1) := by decide +kernel
theorem dX0_firstHourOfLeastRest_8 : decode cX0_firstHourOfLeastRest 8 = .ok (.iload_n 1, 1) := by decide +kernel
theorem dX0_firstHourOfLeastRest_9 : decode cX0_firstHourOfLeastRest 9 = .ok (.istore_n 2, 1) := by decide +kernel
theorem dX0_firstHourOfLeastRest_10 : decode cX0_firstHourOfLeastRest 10 = .ok (.iconst 0, 1) := by decide +kernel
theorem dX0_firstHourOfLeastRest_11 : decode cX0_firstHourOfLeastRest 11 = .ok (.istore_n 3, 1) := by decide +kernel
theorem dX0_firstHourOfLeastRest_12 : decode cX0_firstHourOfLeastRest 12 = .ok (.iconst 0, 1) := by decide +kernel
theorem dX0_firstHourOfLeastRest_13 : decode cX0_firstHourOfLeastRest 13 = .ok (.istore 4, 2) := by decide +kernel
theorem dX0_firstHourOfLeastRest_15 : decode cX0_firstHourOfLeastRest 15 = .ok (.iload 4, 2) := by decide +kernel
theorem dX0_firstHourOfLeastRest_17 : decode cX0_firstHourOfLeastRest 17 = .ok (.aload_n 0, 1) := by decide +kernel
theorem dX0_firstHourOfLeastRest_18 : decode cX0_firstHourOfLeastRest 18 = .ok (.getfield 15, 3) := by decide +kernel
theorem dX0_firstHourOfLeastRest_21 : decode cX0_firstHourOfLeastRest 21 = .ok (.if_icmp .ge 38, 3) := by decide +kernel
theorem dX0_firstHourOfLeastRest_24 : decode cX0_firstHourOfLeastRest 24 = .ok (.iload_n 1, 1) := by decide +kernel
theorem dX0_firstHourOfLeastRest_25 : decode cX0_firstHourOfLeastRest 25 = .ok (.iload_n 2, 1) := by decide +kernel
theorem dX0_firstHourOfLeastRest_26 : decode cX0_firstHourOfLeastRest 26 = .ok (.if_icmp .ge 8, 3) := by decide +kernel
theorem dX0_firstHourOfLeastRest_29 : decode cX0_firstHourOfLeastRest 29 = .ok (.iload_n 1, 1) := by decide +kernel
theorem dX0_firstHourOfLeastRest_30 : decode cX0_firstHourOfLeastRest 30 = .ok (.istore_n 2, 1) := by decide +kernel
theorem dX0_firstHourOfLeastRest_31 : decode cX0_firstHourOfLeastRest 31 = .ok (.iload 4, 2) := by decide +kernel
theorem dX0_firstHourOfLeastRest_33 : decode cX0_firstHourOfLeastRest 33 = .ok (.istore_n 3, 1) := by decide +kernel
theorem dX0_firstHourOfLeastRest_34 : decode cX0_firstHourOfLeastRest 34 = .ok (.iload_n 1, 1) := by decide +kernel
theorem dX0_firstHourOfLeastRest_35 : decode cX0_firstHourOfLeastRest 35 = .ok (.aload_n 0, 1) := by decide +kernel
theorem dX0_firstHourOfLeastRest_36 : decode cX0_firstHourOfLeastRest 36 = .ok (.iload 4, 2) := by decide +kernel
theorem dX0_firstHourOfLeastRest_38 : decode cX0_firstHourOfLeastRest 38 = .ok (.bipush 24, 2) := by decide +kernel
theorem dX0_firstHourOfLeastRest_40 : decode cX0_firstHourOfLeastRest 40 = .ok (.iadd, 1) := by decide +kernel
theorem dX0_firstHourOfLeastRest_41 : decode cX0_firstHourOfLeastRest 41 = .ok (.invokevirtual 43, 3) := by decide +kernel
theorem dX0_firstHourOfLeastRest_44 : decode cX0_firstHourOfLeastRest 44 = .ok (.aload_n 0, 1) := by decide +kernel
theorem dX0_firstHourOfLeastRest_45 : decode cX0_firstHourOfLeastRest 45 = .ok (.iload 4, 2) := by decide +kernel
theorem dX0_firstHourOfLeastRest_47 : decode cX0_firstHourOfLeastRest 47 = .ok (.invokevirtual 43, 3) := by decide +kernel
theorem dX0_firstHourOfLeastRest_50 : decode cX0_firstHourOfLeastRest 50 = .ok (.isub, 1) := by decide +kernel
theorem dX0_firstHourOfLeastRest_51 : decode cX0_firstHourOfLeastRest 51 = .ok (.iadd, 1) := by decide +kernel
theorem dX0_firstHourOfLeastRest_52 : decode cX0_firstHourOfLeastRest 52 = .ok (.istore_n 1, 1) := by decide +kernel
theorem dX0_firstHourOfLeastRest_53 : decode cX0_firstHourOfLeastRest 53 = .ok (.iinc 4 1, 3) := by decide +kernel
theorem dX0_firstHourOfLeastRest_56 : decode cX0_firstHourOfLeastRest 56 = .ok (.goto (-41), 3) := by decide +kernel
theorem dX0_firstHourOfLeastRest_59 : decode cX0_firstHourOfLeastRest 59 = .ok (.iload_n 3, 1) := by decide +kernel
theorem dX0_firstHourOfLeastRest_60 : decode cX0_firstHourOfLeastRest 60 = .ok (.ireturn, 1) := by decide +kernel
def rm_X0_firstHourOfLeastRest : Room := { frames := 1, cells := 0, slots := 0, locals := 24 }
set_option maxHeartbeats 4000000 in
set_option maxRecDepth 20000 in
theorem t_X0_firstHourOfLeastRest_34 {p : Program} {l : Launch} {e : Env} {s : State} {m : MethodId} {args : Array Value} {below : List Frame} {meth : Method} {c : Code} {G : zG} (Z : zF p s m args c meth cX0_firstHourOfLeastRest 5 RX0 G) (hr : meth.sig.returnType = (some .int)) {out : Int32 × zHp} {r15 : Nat → Int32 → Int32 → Int32 → Int32 → zHp → Option (Int32 × zHp)} (k15 : ∀ {a0 : Nat} {a1 : Int32} {a2 : Int32} {a3 : Int32} {a4 : Int32} {h : zHp} {H : Heap} {locs : List Loc} {ls : Array Slot}, r15 a0 a1 a2 a3 a4 h = some out → zE G s h H locs → lv_has ls 5 [(0, .ref a0), (1, .int a1), (2, .int a2), (3, .int a3), (4, .int a4)] → W p l e rm_X0_firstHourOfLeastRest s m args below meth c H locs 0 0 (MQ below (zQi G out.1 out.2) args s 0 0 (zA G)) (F0 m 15 ls [])) {a0 : Nat} {a1 : Int32} {a2 : Int32} {a3 : Int32} {a4 : Int32} {h : zHp} {H : Heap} {locs : List Loc} {ls : Array Slot} (hf : f_X0_firstHourOfLeastRest_34 r15 a0 a1 a2 a3 a4 h = some out) (E : zE G s h H locs) (hl : lv_has ls 5 [(0, .ref a0), (1, .int a1), (2, .int a2), (3, .int a3), (4, .int a4)]) : W p l e rm_X0_firstHourOfLeastRest s m args below meth c H locs 0 0 (MQ below (zQi G out.1 out.2) args s 0 0 (zA G)) (F0 m 34 ls []) := by
  unfold f_X0_firstHourOfLeastRest_34 at hf
  refine lv_iload_n Z.x Z.b dX0_firstHourOfLeastRest_34 rfl (lv_at hl 1 rfl) ?_
  refine lv_aload_n Z.x Z.b dX0_firstHourOfLeastRest_35 rfl (lv_at hl 0 rfl) ?_
  refine lv_iload Z.x Z.b dX0_firstHourOfLeastRest_36 (lv_at hl 4 rfl) ?_
  refine lv_bipush (v := 24) Z.x Z.b dX0_firstHourOfLeastRest_38 (by decide) ?_
  refine lv_iadd Z.x Z.b dX0_firstHourOfLeastRest_40 ?_
  refine z_Vi (As := [.int (a4 + 24)]) Z E hl.1 k_X0_43 v_X0_restAt hf (fun r h' e => c_X0_restAt l G h h' a0 (a4 + 24) r e) rfl rfl (Nat.le_of_ble_eq_true rfl) (zRm_of rfl (Nat.zero_le _) (Nat.zero_le _)) dX0_firstHourOfLeastRest_41 (fun v1 h2 H locs hf E => ?_)
  refine lv_aload_n Z.x Z.b dX0_firstHourOfLeastRest_44 rfl (lv_at hl 0 rfl) ?_
  refine lv_iload Z.x Z.b dX0_firstHourOfLeastRest_45 (lv_at hl 4 rfl) ?_
  refine z_Vi (As := [.int a4]) Z E hl.1 k_X0_43 v_X0_restAt hf (fun r h' e => c_X0_restAt l G h2 h' a0 a4 r e) rfl rfl (Nat.le_of_ble_eq_true rfl) (zRm_of rfl (Nat.zero_le _) (Nat.zero_le _)) dX0_firstHourOfLeastRest_47 (fun v3 h4 H locs hf E => ?_)
  refine lv_isub Z.x Z.b dX0_firstHourOfLeastRest_50 ?_
  refine lv_iadd Z.x Z.b dX0_firstHourOfLeastRest_51 ?_
  refine lv_istore_n (lv' := [(1, .int (a1 + (v1 - v3))), (0, .ref a0), (2, .int a2), (3, .int a3), (4, .int a4)]) Z.x Z.b dX0_firstHourOfLeastRest_52 rfl hl (by decide) rfl (fun ls hl => ?_)
  refine lv_iinc (v := (a4 + 1)) (lv' := [(4, .int (a4 + 1)), (1, .int (a1 + (v1 - v3))), (0, .ref a0), (2, .int a2), (3, .int a3)]) Z.x Z.b dX0_firstHourOfLeastRest_53 hl (k := 4) rfl rfl (by decide) rfl (fun ls hl => ?_)
  refine lv_goto (tgt := 15) Z.x Z.b dX0_firstHourOfLeastRest_56 (by decide) ?_
  exact k15 hf E (lv_sub hl [2, 1, 3, 4, 0] rfl)
set_option maxHeartbeats 4000000 in
set_option maxRecDepth 20000 in
theorem t_X0_firstHourOfLeastRest_15_body {p : Program} {l : Launch} {e : Env} {s : State} {m : MethodId} {args : Array Value} {below : List Frame} {meth : Method} {c : Code} {G : zG} (Z : zF p s m args c meth cX0_firstHourOfLeastRest 5 RX0 G) (hr : meth.sig.returnType = (some .int)) {out : Int32 × zHp} {r15 : Nat → Int32 → Int32 → Int32 → Int32 → zHp → Option (Int32 × zHp)} (k15 : ∀ {a0 : Nat} {a1 : Int32} {a2 : Int32} {a3 : Int32} {a4 : Int32} {h : zHp} {H : Heap} {locs : List Loc} {ls : Array Slot}, r15 a0 a1 a2 a3 a4 h = some out → zE G s h H locs → lv_has ls 5 [(0, .ref a0), (1, .int a1), (2, .int a2), (3, .int a3), (4, .int a4)] → W p l e rm_X0_firstHourOfLeastRest s m args below meth c H locs 0 0 (MQ below (zQi G out.1 out.2) args s 0 0 (zA G)) (F0 m 15 ls [])) {a0 : Nat} {a1 : Int32} {a2 : Int32} {a3 : Int32} {a4 : Int32} {h : zHp} {H : Heap} {locs : List Loc} {ls : Array Slot} (hf : f_X0_firstHourOfLeastRest_15_body r15 a0 a1 a2 a3 a4 h = some out) (E : zE G s h H locs) (hl : lv_has ls 5 [(0, .ref a0), (1, .int a1), (2, .int a2), (3, .int a3), (4, .int a4)]) : W p l e rm_X0_firstHourOfLeastRest s m args below meth c H locs 0 0 (MQ below (zQi G out.1 out.2) args s 0 0 (zA G)) (F0 m 15 ls []) := by
  unfold f_X0_firstHourOfLeastRest_15_body at hf
  refine lv_iload Z.x Z.b dX0_firstHourOfLeastRest_15 (lv_at hl 4 rfl) ?_
  refine lv_aload_n Z.x Z.b dX0_firstHourOfLeastRest_17 rfl (lv_at hl 0 rfl) ?_
  refine z_getI Z E q_X0_15 dX0_firstHourOfLeastRest_18 hf (fun v1 hf => ?_)
  refine lv_icmp_ge (tgt := 59) Z.x Z.b dX0_firstHourOfLeastRest_21 (by decide) (fun c => ?_) (fun c => ?_)
  · have hf := zit hf c
    refine lv_iload_n Z.x Z.b dX0_firstHourOfLeastRest_59 rfl (lv_at hl 3 rfl) ?_
    exact z_iret Z E hr dX0_firstHourOfLeastRest_60 hf
  · have hf := zif_ hf c
    refine lv_iload_n Z.x Z.b dX0_firstHourOfLeastRest_24 rfl (lv_at hl 1 rfl) ?_
    refine lv_iload_n Z.x Z.b dX0_firstHourOfLeastRest_25 rfl (lv_at hl 2 rfl) ?_
    refine lv_icmp_ge (tgt := 34) Z.x Z.b dX0_firstHourOfLeastRest_26 (by decide) (fun c => ?_) (fun c => ?_)
    · have hf := zit hf c
      exact t_X0_firstHourOfLeastRest_34 Z hr k15 hf E (lv_sub hl [0, 1, 2, 3, 4] rfl)
    · have hf := zif_ hf c
      refine lv_iload_n Z.x Z.b dX0_firstHourOfLeastRest_29 rfl (lv_at hl 1 rfl) ?_
      refine lv_istore_n (lv' := [(2, .int a1), (0, .ref a0), (1, .int a1), (3, .int a3), (4, .int a4)]) Z.x Z.b dX0_firstHourOfLeastRest_30 rfl hl (by decide) rfl (fun ls hl => ?_)
      refine lv_iload Z.x Z.b dX0_firstHourOfLeastRest_31 (lv_at hl 4 rfl) ?_
      refine lv_istore_n (lv' := [(3, .int a4), (2, .int a1), (0, .ref a0), (1, .int a1), (4, .int a4)]) Z.x Z.b dX0_firstHourOfLeastRest_33 rfl hl (by decide) rfl (fun ls hl => ?_)
      exact t_X0_firstHourOfLeastRest_34 Z hr k15 hf E (lv_sub hl [2, 3, 1, 0, 4] rfl)
theorem t_X0_firstHourOfLeastRest_15 {p : Program} {l : Launch} {e : Env} {s : State} {m : MethodId} {args : Array Value} {below : List Frame} {meth : Method} {c : Code} {G : zG} (Z : zF p s m args c meth cX0_firstHourOfLeastRest 5 RX0 G) (hr : meth.sig.returnType = (some .int)) {out : Int32 × zHp} : ∀ (n : Nat), ∀ {a0 : Nat} {a1 : Int32} {a2 : Int32} {a3 : Int32} {a4 : Int32} {h : zHp} {H : Heap} {locs : List Loc} {ls : Array Slot}, f_X0_firstHourOfLeastRest_15 n a0 a1 a2 a3 a4 h = some out → zE G s h H locs → lv_has ls 5 [(0, .ref a0), (1, .int a1), (2, .int a2), (3, .int a3), (4, .int a4)] → W p l e rm_X0_firstHourOfLeastRest s m args below meth c H locs 0 0 (MQ below (zQi G out.1 out.2) args s 0 0 (zA G)) (F0 m 15 ls [])
  | 0 => fun hf => by cases hf
  | n + 1 => fun hf E hl => t_X0_firstHourOfLeastRest_15_body Z hr (r15 := f_X0_firstHourOfLeastRest_15 n) (t_X0_firstHourOfLeastRest_15 Z hr n) hf E hl
set_option maxHeartbeats 4000000 in
set_option maxRecDepth 20000 in
theorem t_X0_firstHourOfLeastRest {p : Program} {l : Launch} {e : Env} {s : State} {m : MethodId} {args : Array Value} {below : List Frame} {meth : Method} {c : Code} {G : zG} (Z : zF p s m args c meth cX0_firstHourOfLeastRest 5 RX0 G) (hr : meth.sig.returnType = (some .int)) {out : Int32 × zHp} {a0 : Nat} {h : zHp} {H : Heap} {locs : List Loc} {ls : Array Slot} (hf : f_X0_firstHourOfLeastRest a0 h = some out) (E : zE G s h H locs) (hl : lv_has ls 5 [(0, .ref a0)]) : W p l e rm_X0_firstHourOfLeastRest s m args below meth c H locs 0 0 (MQ below (zQi G out.1 out.2) args s 0 0 (zA G)) (F0 m 0 ls []) := by
  unfold f_X0_firstHourOfLeastRest at hf
  refine lv_aload_n Z.x Z.b dX0_firstHourOfLeastRest_0 rfl (lv_at hl 0 rfl) ?_
  refine lv_iconst (v := 0) Z.x Z.b dX0_firstHourOfLeastRest_1 (by decide) ?_
  refine lv_bipush (v := 24) Z.x Z.b dX0_firstHourOfLeastRest_2 (by decide) ?_
  refine z_Vi (As := [.int 0, .int 24]) Z E hl.1 k_X0_39 v_X0_restIn hf (fun r h' e => c_X0_restIn l G h h' a0 0 24 r e) rfl rfl (Nat.le_of_ble_eq_true rfl) (zRm_of rfl (Nat.zero_le _) (Nat.zero_le _)) dX0_firstHourOfLeastRest_4 (fun v1 h2 H locs hf E => ?_)
  refine lv_istore_n (lv' := [(1, .int v1), (0, .ref a0)]) Z.x Z.b dX0_firstHourOfLeastRest_7 rfl hl (by decide) rfl (fun ls hl => ?_)
  refine lv_iload_n Z.x Z.b dX0_firstHourOfLeastRest_8 rfl (lv_at hl 0 rfl) ?_
  refine lv_istore_n (lv' := [(2, .int v1), (1, .int v1), (0, .ref a0)]) Z.x Z.b dX0_firstHourOfLeastRest_9 rfl hl (by decide) rfl (fun ls hl => ?_)
  refine lv_iconst (v := 0) Z.x Z.b dX0_firstHourOfLeastRest_10 (by decide) ?_
  refine lv_istore_n (lv' := [(3, .int 0), (2, .int v1), (1, .int v1), (0, .ref a0)]) Z.x Z.b dX0_firstHourOfLeastRest_11 rfl hl (by decide) rfl (fun ls hl => ?_)
  refine lv_iconst (v := 0) Z.x Z.b dX0_firstHourOfLeastRest_12 (by decide) ?_
  refine lv_istore (lv' := [(4, .int 0), (3, .int 0), (2, .int v1), (1, .int v1), (0, .ref a0)]) Z.x Z.b dX0_firstHourOfLeastRest_13 hl (by decide) rfl (fun ls hl => ?_)
  exact t_X0_firstHourOfLeastRest_15 Z hr zN hf E (lv_sub hl [4, 3, 2, 1, 0] rfl)
set_option maxHeartbeats 4000000 in
set_option maxRecDepth 20000 in
theorem c_X0_firstHourOfLeastRest (l : Launch) (G : zG) (h : zHp) (h' : zHp) (a0 : Nat) (r : Int32) (hf : f_X0_firstHourOfLeastRest a0 h = some (r, h')) : zM0 l yX0_firstHourOfLeastRest cX0_firstHourOfLeastRest 5 (some .int) rm_X0_firstHourOfLeastRest G [.ref a0] h (zQi G r h') := by
  refine Met.ofW (cc := cX0_firstHourOfLeastRest) (maxL := 5) (ret := (some .int)) (by decide) rfl ?_
  intro p e s m args below meth c s₁ B hml hv
  obtain ⟨rfl, hW⟩ := hv
  obtain ⟨Z, E, hr⟩ := zEnter (own := RX0) B hml rfl hW
  have hl := lv_entry ([.ref a0]) (n := 5) (Nat.le_of_ble_eq_true rfl)
  rw [lg_entry_eq]
  generalize (lg_sl ([.ref a0]) ++ List.replicate (5 - (lg_sl ([.ref a0])).length) Slot.unset).toArray = ls at hl ⊢
  have hl : lv_has ls 5 [(0, .ref a0)] := hl
  exact t_X0_firstHourOfLeastRest (out := (r, h')) Z hr hf E hl
/-! FerryCrews$Sailing.unseatAll()V -/
theorem dX4_unseatAll_0 : decode cX4_unseatAll 0 = .ok (.iconst 0, 1) := by decide +kernel
theorem dX4_unseatAll_1 : decode cX4_unseatAll 1 = .ok (.istore_n 1, 1) := by decide +kernel
theorem dX4_unseatAll_2 : decode cX4_unseatAll 2 = .ok (.iload_n 1, 1) := by decide +kernel
theorem dX4_unseatAll_3 : decode cX4_unseatAll 3 = .ok (.bipush 12, 2) := by decide +kernel
theorem dX4_unseatAll_5 : decode cX4_unseatAll 5 = .ok (.if_icmp .ge 16, 3) := by decide +kernel
theorem dX4_unseatAll_8 : decode cX4_unseatAll 8 = .ok (.aload_n 0, 1) := by decide +kernel
theorem dX4_unseatAll_9 : decode cX4_unseatAll 9 = .ok (.getfield 22, 3) := by decide +kernel
theorem dX4_unseatAll_12 : decode cX4_unseatAll 12 = .ok (.iload_n 1, 1) := by decide +kernel
theorem dX4_unseatAll_13 : decode cX4_unseatAll 13 = .ok (.iconst (-1), 1) := by decide +kernel
theorem dX4_unseatAll_14 : decode cX4_unseatAll 14 = .ok (.iastore, 1) := by decide +kernel
theorem dX4_unseatAll_15 : decode cX4_unseatAll 15 = .ok (.iinc 1 1, 3) := by decide +kernel
theorem dX4_unseatAll_18 : decode cX4_unseatAll 18 = .ok (.goto (-16), 3) := by decide +kernel
theorem dX4_unseatAll_21 : decode cX4_unseatAll 21 = .ok (.return_, 1) := by decide +kernel
set_option maxRecDepth 20000 in
theorem wf_X4_22 : Cond.fieldLink RX4 22 RX4 "roles" "[I" ∈ zB := List.mem_filter.mpr ⟨List.mem_of_getElem? (i := 92) (by decide +kernel), by decide +kernel⟩
theorem q_X4_22 : zFld RX4 22 4 8 := ⟨RX4, TX4, 9, rfl, by decide, iX4, wf_X4_22, rfl⟩
def rm_X4_unseatAll : Room := { frames := 0, cells := 0, slots := 0, locals := 0 }
set_option maxHeartbeats 4000000 in
set_option maxRecDepth 20000 in
theorem t_X4_unseatAll_2_body {p : Program} {l : Launch} {e : Env} {s : State} {m : MethodId} {args : Array Value} {below : List Frame} {meth : Method} {c : Code} {G : zG} (Z : zF p s m args c meth cX4_unseatAll 2 RX4 G) (hr : meth.sig.returnType = none) {out : zHp} {r2 : Nat → Int32 → zHp → Option (zHp)} (k2 : ∀ {a0 : Nat} {a1 : Int32} {h : zHp} {H : Heap} {locs : List Loc} {ls : Array Slot}, r2 a0 a1 h = some out → zE G s h H locs → lv_has ls 2 [(0, .ref a0), (1, .int a1)] → W p l e rm_X4_unseatAll s m args below meth c H locs 0 0 (MQ below (zQv G out) args s 0 0 (zA G)) (F0 m 2 ls [])) {a0 : Nat} {a1 : Int32} {h : zHp} {H : Heap} {locs : List Loc} {ls : Array Slot} (hf : f_X4_unseatAll_2_body r2 a0 a1 h = some out) (E : zE G s h H locs) (hl : lv_has ls 2 [(0, .ref a0), (1, .int a1)]) : W p l e rm_X4_unseatAll s m args below meth c H locs 0 0 (MQ below (zQv G out) args s 0 0 (zA G)) (F0 m 2 ls []) := by
  unfold f_X4_unseatAll_2_body at hf
  refine lv_iload_n Z.x Z.b dX4_unseatAll_2 rfl (lv_at hl 1 rfl) ?_
  refine lv_bipush (v := 12) Z.x Z.b dX4_unseatAll_3 (by decide) ?_
  refine lv_icmp_ge (tgt := 21) Z.x Z.b dX4_unseatAll_5 (by decide) (fun c => ?_) (fun c => ?_)
  · have hf := zit hf c
    exact z_vret Z E hr dX4_unseatAll_21 hf
  · have hf := zif_ hf c
    refine lv_aload_n Z.x Z.b dX4_unseatAll_8 rfl (lv_at hl 0 rfl) ?_
    refine z_getR Z E q_X4_22 dX4_unseatAll_9 hf (fun v1 hf => ?_)
    refine lv_iload_n Z.x Z.b dX4_unseatAll_12 rfl (lv_at hl 1 rfl) ?_
    refine lv_iconst (v := (-1)) Z.x Z.b dX4_unseatAll_13 (by decide) ?_
    refine z_iast Z E dX4_unseatAll_14 hf (fun h2 H locs hf E => ?_)
    refine lv_iinc (v := (a1 + 1)) (lv' := [(1, .int (a1 + 1)), (0, .ref a0)]) Z.x Z.b dX4_unseatAll_15 hl (k := 1) rfl rfl (by decide) rfl (fun ls hl => ?_)
    refine lv_goto (tgt := 2) Z.x Z.b dX4_unseatAll_18 (by decide) ?_
    exact k2 hf E (lv_sub hl [1, 0] rfl)
theorem t_X4_unseatAll_2 {p : Program} {l : Launch} {e : Env} {s : State} {m : MethodId} {args : Array Value} {below : List Frame} {meth : Method} {c : Code} {G : zG} (Z : zF p s m args c meth cX4_unseatAll 2 RX4 G) (hr : meth.sig.returnType = none) {out : zHp} : ∀ (n : Nat), ∀ {a0 : Nat} {a1 : Int32} {h : zHp} {H : Heap} {locs : List Loc} {ls : Array Slot}, f_X4_unseatAll_2 n a0 a1 h = some out → zE G s h H locs → lv_has ls 2 [(0, .ref a0), (1, .int a1)] → W p l e rm_X4_unseatAll s m args below meth c H locs 0 0 (MQ below (zQv G out) args s 0 0 (zA G)) (F0 m 2 ls [])
  | 0 => fun hf => by cases hf
  | n + 1 => fun hf E hl => t_X4_unseatAll_2_body Z hr (r2 := f_X4_unseatAll_2 n) (t_X4_unseatAll_2 Z hr n) hf E hl
set_option maxHeartbeats 4000000 in
set_option maxRecDepth 20000 in
theorem t_X4_unseatAll {p : Program} {l : Launch} {e : Env} {s : State} {m : MethodId} {args : Array Value} {below : List Frame} {meth : Method} {c : Code} {G : zG} (Z : zF p s m args c meth cX4_unseatAll 2 RX4 G) (hr : meth.sig.returnType = none) {out : zHp} {a0 : Nat} {h : zHp} {H : Heap} {locs : List Loc} {ls : Array Slot} (hf : f_X4_unseatAll a0 h = some out) (E : zE G s h H locs) (hl : lv_has ls 2 [(0, .ref a0)]) : W p l e rm_X4_unseatAll s m args below meth c H locs 0 0 (MQ below (zQv G out) args s 0 0 (zA G)) (F0 m 0 ls []) := by
  unfold f_X4_unseatAll at hf
  refine lv_iconst (v := 0) Z.x Z.b dX4_unseatAll_0 (by decide) ?_
  refine lv_istore_n (lv' := [(1, .int 0), (0, .ref a0)]) Z.x Z.b dX4_unseatAll_1 rfl hl (by decide) rfl (fun ls hl => ?_)
  exact t_X4_unseatAll_2 Z hr zN hf E (lv_sub hl [1, 0] rfl)
set_option maxHeartbeats 4000000 in
set_option maxRecDepth 20000 in
theorem c_X4_unseatAll (l : Launch) (G : zG) (h : zHp) (h' : zHp) (a0 : Nat) (hf : f_X4_unseatAll a0 h = some h') : zM0 l yX4_unseatAll cX4_unseatAll 2 none rm_X4_unseatAll G [.ref a0] h (zQv G h') := by
  refine Met.ofW (cc := cX4_unseatAll) (maxL := 2) (ret := none) (by decide) rfl ?_
  intro p e s m args below meth c s₁ B hml hv
  obtain ⟨rfl, hW⟩ := hv
  obtain ⟨Z, E, hr⟩ := zEnter (own := RX4) B hml rfl hW
  have hl := lv_entry ([.ref a0]) (n := 2) (Nat.le_of_ble_eq_true rfl)
  rw [lg_entry_eq]
  generalize (lg_sl ([.ref a0]) ++ List.replicate (2 - (lg_sl ([.ref a0])).length) Slot.unset).toArray = ls at hl ⊢
  have hl : lv_has ls 2 [(0, .ref a0)] := hl
  exact t_X4_unseatAll (out := h') Z hr hf E hl
/-! FerryCrews$Sailing.<init>()V -/
theorem dX4_init_0 : decode cX4_init 0 = .ok (.aload_n 0, 1) := by decide +kernel
theorem dX4_init_1 : decode cX4_init 1 = .ok (.invokespecial 3, 3) := by decide +kernel
theorem dX4_init_4 : decode cX4_init 4 = .ok (.aload_n 0, 1) := by decide +kernel
theorem dX4_init_5 : decode cX4_init 5 = .ok (.iconst 3, 1) := by decide +kernel
theorem dX4_init_6 : decode cX4_init 6 = .ok (.putfield 9, 3) := by decide +kernel
theorem dX4_init_9 : decode cX4_init 9 = .ok (.aload_n 0, 1) := by decide +kernel
theorem dX4_init_10 : decode cX4_init 10 = .ok (.iconst (-1), 1) := by decide +kernel
theorem dX4_init_11 : decode cX4_init 11 = .ok (.putfield 15, 3) := by decide +kernel
theorem dX4_init_14 : decode cX4_init 14 = .ok (.aload_n 0, 1) := by decide +kernel
theorem dX4_init_15 : decode cX4_init 15 = .ok (.iconst 4, 1) := by decide +kernel
theorem dX4_init_16 : decode cX4_init 16 = .ok (.newarray .int, 2) := by decide +kernel
theorem dX4_init_18 : decode cX4_init 18 = .ok (.putfield 18, 3) := by decide +kernel
theorem dX4_init_21 : decode cX4_init 21 = .ok (.aload_n 0, 1) := by decide +kernel
theorem dX4_init_22 : decode cX4_init 22 = .ok (.bipush 12, 2) := by decide +kernel
theorem dX4_init_24 : decode cX4_init 24 = .ok (.newarray .int, 2) := by decide +kernel
theorem dX4_init_26 : decode cX4_init 26 = .ok (.putfield 22, 3) := by decide +kernel
theorem dX4_init_29 : decode cX4_init 29 = .ok (.aload_n 0, 1) := by decide +kernel
theorem dX4_init_30 : decode cX4_init 30 = .ok (.invokevirtual 25, 3) := by decide +kernel
theorem dX4_init_33 : decode cX4_init 33 = .ok (.return_, 1) := by decide +kernel
set_option maxRecDepth 20000 in
theorem wo_X4_3 : Cond.methodLink RX4 3 objectInit ∈ zB := List.mem_filter.mpr ⟨List.mem_of_getElem? (i := 66) (by decide +kernel), by decide +kernel⟩
set_option maxRecDepth 20000 in
theorem wf_X4_9 : Cond.fieldLink RX4 9 RX4 "status" "I" ∈ zB := List.mem_filter.mpr ⟨List.mem_of_getElem? (i := 86) (by decide +kernel), by decide +kernel⟩
theorem p_X4_9 : zPut RX4 9 4 5 false .int := ⟨RX4, TX4, 9, tyX4, rfl, by decide, iX4, wf_X4_9, rfl, tyX4_ok, nmX4, rfl, by decide +kernel, fun _ => rfl⟩
set_option maxRecDepth 20000 in
theorem wf_X4_15 : Cond.fieldLink RX4 15 RX4 "roleGivenUp" "I" ∈ zB := List.mem_filter.mpr ⟨List.mem_of_getElem? (i := 89) (by decide +kernel), by decide +kernel⟩
theorem p_X4_15 : zPut RX4 15 4 6 false .int := ⟨RX4, TX4, 9, tyX4, rfl, by decide, iX4, wf_X4_15, rfl, tyX4_ok, nmX4, rfl, by decide +kernel, fun _ => rfl⟩
set_option maxRecDepth 20000 in
theorem wf_X4_18 : Cond.fieldLink RX4 18 RX4 "places" "[I" ∈ zB := List.mem_filter.mpr ⟨List.mem_of_getElem? (i := 91) (by decide +kernel), by decide +kernel⟩
theorem p_X4_18 : zPut RX4 18 4 7 true (.array .int) := ⟨RX4, TX4, 9, tyX4, rfl, by decide, iX4, wf_X4_18, rfl, tyX4_ok, nmX4, rfl, by decide +kernel, fun _ => rfl⟩
theorem p_X4_22 : zPut RX4 22 4 8 true (.array .int) := ⟨RX4, TX4, 9, tyX4, rfl, by decide, iX4, wf_X4_22, rfl, tyX4_ok, nmX4, rfl, by decide +kernel, fun _ => rfl⟩
set_option maxRecDepth 20000 in
theorem wi_X4 : Cond.initialized RX4 ∈ zB := List.mem_filter.mpr ⟨List.mem_of_getElem? (i := 10) (by decide +kernel), by decide +kernel⟩
set_option maxRecDepth 20000 in
theorem wc_X4_unseatAll : Cond.code yX4_unseatAll cX4_unseatAll 2 none ∈ zB := List.mem_filter.mpr ⟨List.mem_of_getElem? (i := 70) (by decide +kernel), by decide +kernel⟩
set_option maxRecDepth 20000 in
theorem wm_X4_25 : Cond.methodLink RX4 25 yX4_unseatAll ∈ zB := List.mem_filter.mpr ⟨List.mem_of_getElem? (i := 67) (by decide +kernel), by decide +kernel⟩
theorem k_X4_25 : zCal RX4 25 yX4_unseatAll cX4_unseatAll 2 none 0 := ⟨wm_X4_25, wi_X4, wc_X4_unseatAll, by decide +kernel, by decide +kernel, by decide +kernel⟩
set_option maxRecDepth 20000 in
theorem wn_X4_unseatAll : Cond.instanceMethod yX4_unseatAll ∈ zB := List.mem_filter.mpr ⟨List.mem_of_getElem? (i := 69) (by decide +kernel), by decide +kernel⟩
set_option maxRecDepth 20000 in
theorem ws_X4_unseatAll : Cond.selects RX4 yX4_unseatAll yX4_unseatAll ∈ zB := List.mem_filter.mpr ⟨List.mem_of_getElem? (i := 0) (by decide +kernel), by decide +kernel⟩
theorem v_X4_unseatAll : zVir yX4_unseatAll 4 := ⟨wn_X4_unseatAll, ws_X4_unseatAll, TX4, 9, rfl⟩
def rm_X4_init : Room := { frames := 1, cells := 2, slots := 16, locals := 21 }
set_option maxHeartbeats 4000000 in
set_option maxRecDepth 20000 in
theorem t_X4_init {p : Program} {l : Launch} {e : Env} {s : State} {m : MethodId} {args : Array Value} {below : List Frame} {meth : Method} {c : Code} {G : zG} (Z : zF p s m args c meth cX4_init 1 RX4 G) (hr : meth.sig.returnType = none) (hin : meth.name = "<init>") {out : zHp} {a0 : Nat} {h : zHp} {H : Heap} {locs : List Loc} {ls : Array Slot} {cells slots : Nat} (hf : f_X4_init a0 h = some out) (E : zE G s h H locs) (hl : lv_has ls 1 [(0, .ref a0)]) (hc : cells + 2 ≤ 2) (hs : slots + 16 ≤ 16) : W p l e rm_X4_init s m args below meth c H locs cells slots (MQ below (zQv G out) args s 2 16 (zA G)) (F0 m 0 ls []) := by
  unfold f_X4_init at hf
  refine lv_aload_n Z.x Z.b dX4_init_0 rfl (lv_at hl 0 rfl) ?_
  refine z_obj Z E hl.1 wo_X4_3 wo_inst wo_code dX4_init_1 (by decide) (by decide) ?_
  refine lv_aload_n Z.x Z.b dX4_init_4 rfl (lv_at hl 0 rfl) ?_
  refine lv_iconst (v := 3) Z.x Z.b dX4_init_5 (by decide) ?_
  refine z_put Z E p_X4_9 rfl rfl dX4_init_6 hf (fun h1 H locs hf E => ?_)
  refine lv_aload_n Z.x Z.b dX4_init_9 rfl (lv_at hl 0 rfl) ?_
  refine lv_iconst (v := (-1)) Z.x Z.b dX4_init_10 (by decide) ?_
  refine z_put Z E p_X4_15 rfl rfl dX4_init_11 hf (fun h2 H locs hf E => ?_)
  refine lv_aload_n Z.x Z.b dX4_init_14 rfl (lv_at hl 0 rfl) ?_
  refine lv_iconst (v := 4) Z.x Z.b dX4_init_15 (by decide) ?_
  refine z_newi (N := 4) Z E wr_0 (by decide) (by decide) (by decide) (show _ ≤ 2 by omega) (show _ ≤ 16 by omega) dX4_init_16 hf (fun q3 h4 H hf E => ?_)
  refine z_putF Z E hin p_X4_18 rfl rfl dX4_init_18 hf (fun h5 H locs hf E => ?_)
  refine lv_aload_n Z.x Z.b dX4_init_21 rfl (lv_at hl 0 rfl) ?_
  refine lv_bipush (v := 12) Z.x Z.b dX4_init_22 (by decide) ?_
  refine z_newi (N := 12) Z E wr_0 (by decide) (by decide) (by decide) (show _ ≤ 2 by omega) (show _ ≤ 16 by omega) dX4_init_24 hf (fun q6 h7 H hf E => ?_)
  refine z_putF Z E hin p_X4_22 rfl rfl dX4_init_26 hf (fun h8 H locs hf E => ?_)
  refine lv_aload_n Z.x Z.b dX4_init_29 rfl (lv_at hl 0 rfl) ?_
  refine z_Vv (As := []) Z E hl.1 k_X4_25 v_X4_unseatAll hf (fun h' e => c_X4_unseatAll l G h8 h' a0 e) rfl rfl (Nat.le_of_ble_eq_true rfl) (zRm_of rfl (show _ ≤ 2 by omega) (show _ ≤ 16 by omega)) dX4_init_30 (fun h9 H locs hf E => ?_)
  refine W.widen (k := 2) (n := 16) (by omega) (by omega) ?_
  exact z_vret Z E hr dX4_init_33 hf
set_option maxHeartbeats 4000000 in
set_option maxRecDepth 20000 in
theorem c_X4_init (l : Launch) (G : zG) (h : zHp) (h' : zHp) (a0 : Nat) (hf : f_X4_init a0 h = some h') : zMn l yX4_init cX4_init 1 rm_X4_init 2 16 G [.ref a0] h h' := by
  refine Met.ofW (cc := cX4_init) (maxL := 1) (ret := none) (by decide) rfl ?_
  intro p e s m args below meth c s₁ B hml hv
  obtain ⟨rfl, hW⟩ := hv
  obtain ⟨Z, E, hr⟩ := zEnter (own := RX4) B hml rfl hW
  have hin : meth.name = "<init>" := (name_of_methodNamed B.named B.method).1
  have hl := lv_entry ([.ref a0]) (n := 1) (Nat.le_of_ble_eq_true rfl)
  rw [lg_entry_eq]
  generalize (lg_sl ([.ref a0]) ++ List.replicate (1 - (lg_sl ([.ref a0])).length) Slot.unset).toArray = ls at hl ⊢
  have hl : lv_has ls 1 [(0, .ref a0)] := hl
  exact t_X4_init (out := h') Z hr hin hf E hl (by decide) (by decide)
/-! FerryCrews$Member.<init>()V -/
theorem dX3_init_0 : decode cX3_init 0 = .ok (.aload_n 0, 1) := by decide +kernel
theorem dX3_init_1 : decode cX3_init 1 = .ok (.invokespecial 3, 3) := by decide +kernel
theorem dX3_init_4 : decode cX3_init 4 = .ok (.aload_n 0, 1) := by decide +kernel
theorem dX3_init_5 : decode cX3_init 5 = .ok (.iconst 4, 1) := by decide +kernel
theorem dX3_init_6 : decode cX3_init 6 = .ok (.newarray .int, 2) := by decide +kernel
theorem dX3_init_8 : decode cX3_init 8 = .ok (.putfield 9, 3) := by decide +kernel
theorem dX3_init_11 : decode cX3_init 11 = .ok (.return_, 1) := by decide +kernel
set_option maxRecDepth 20000 in
theorem wo_X3_3 : Cond.methodLink RX3 3 objectInit ∈ zB := List.mem_filter.mpr ⟨List.mem_of_getElem? (i := 116) (by decide +kernel), by decide +kernel⟩
set_option maxRecDepth 20000 in
theorem wf_X3_9 : Cond.fieldLink RX3 9 RX3 "certificates" "[I" ∈ zB := List.mem_filter.mpr ⟨List.mem_of_getElem? (i := 117) (by decide +kernel), by decide +kernel⟩
theorem p_X3_9 : zPut RX3 9 3 0 true (.array .int) := ⟨RX3, TX3, 3, tyX3, rfl, by decide, iX3, wf_X3_9, rfl, tyX3_ok, nmX3, rfl, by decide +kernel, fun _ => rfl⟩
def rm_X3_init : Room := { frames := 1, cells := 1, slots := 4, locals := 20 }
set_option maxHeartbeats 4000000 in
set_option maxRecDepth 20000 in
theorem t_X3_init {p : Program} {l : Launch} {e : Env} {s : State} {m : MethodId} {args : Array Value} {below : List Frame} {meth : Method} {c : Code} {G : zG} (Z : zF p s m args c meth cX3_init 1 RX3 G) (hr : meth.sig.returnType = none) (hin : meth.name = "<init>") {out : zHp} {a0 : Nat} {h : zHp} {H : Heap} {locs : List Loc} {ls : Array Slot} {cells slots : Nat} (hf : f_X3_init a0 h = some out) (E : zE G s h H locs) (hl : lv_has ls 1 [(0, .ref a0)]) (hc : cells + 1 ≤ 1) (hs : slots + 4 ≤ 4) : W p l e rm_X3_init s m args below meth c H locs cells slots (MQ below (zQv G out) args s 1 4 (zA G)) (F0 m 0 ls []) := by
  unfold f_X3_init at hf
  refine lv_aload_n Z.x Z.b dX3_init_0 rfl (lv_at hl 0 rfl) ?_
  refine z_obj Z E hl.1 wo_X3_3 wo_inst wo_code dX3_init_1 (by decide) (by decide) ?_
  refine lv_aload_n Z.x Z.b dX3_init_4 rfl (lv_at hl 0 rfl) ?_
  refine lv_iconst (v := 4) Z.x Z.b dX3_init_5 (by decide) ?_
  refine z_newi (N := 4) Z E wr_0 (by decide) (by decide) (by decide) (show _ ≤ 1 by omega) (show _ ≤ 4 by omega) dX3_init_6 hf (fun q1 h2 H hf E => ?_)
  refine z_putF Z E hin p_X3_9 rfl rfl dX3_init_8 hf (fun h3 H locs hf E => ?_)
  refine W.widen (k := 1) (n := 4) (by omega) (by omega) ?_
  exact z_vret Z E hr dX3_init_11 hf
set_option maxHeartbeats 4000000 in
set_option maxRecDepth 20000 in
theorem c_X3_init (l : Launch) (G : zG) (h : zHp) (h' : zHp) (a0 : Nat) (hf : f_X3_init a0 h = some h') : zMn l yX3_init cX3_init 1 rm_X3_init 1 4 G [.ref a0] h h' := by
  refine Met.ofW (cc := cX3_init) (maxL := 1) (ret := none) (by decide) rfl ?_
  intro p e s m args below meth c s₁ B hml hv
  obtain ⟨rfl, hW⟩ := hv
  obtain ⟨Z, E, hr⟩ := zEnter (own := RX3) B hml rfl hW
  have hin : meth.name = "<init>" := (name_of_methodNamed B.named B.method).1
  have hl := lv_entry ([.ref a0]) (n := 1) (Nat.le_of_ble_eq_true rfl)
  rw [lg_entry_eq]
  generalize (lg_sl ([.ref a0]) ++ List.replicate (1 - (lg_sl ([.ref a0])).length) Slot.unset).toArray = ls at hl ⊢
  have hl : lv_has ls 1 [(0, .ref a0)] := hl
  exact t_X3_init (out := h') Z hr hin hf E hl (by decide) (by decide)
/-! FerryCrews$Ladder.<init>()V -/
theorem dX2_init_0 : decode cX2_init 0 = .ok (.aload_n 0, 1) := by decide +kernel
theorem dX2_init_1 : decode cX2_init 1 = .ok (.invokespecial 3, 3) := by decide +kernel
theorem dX2_init_4 : decode cX2_init 4 = .ok (.aload_n 0, 1) := by decide +kernel
theorem dX2_init_5 : decode cX2_init 5 = .ok (.bipush 12, 2) := by decide +kernel
theorem dX2_init_7 : decode cX2_init 7 = .ok (.newarray .int, 2) := by decide +kernel
theorem dX2_init_9 : decode cX2_init 9 = .ok (.putfield 9, 3) := by decide +kernel
theorem dX2_init_12 : decode cX2_init 12 = .ok (.return_, 1) := by decide +kernel
set_option maxRecDepth 20000 in
theorem wo_X2_3 : Cond.methodLink RX2 3 objectInit ∈ zB := List.mem_filter.mpr ⟨List.mem_of_getElem? (i := 135) (by decide +kernel), by decide +kernel⟩
set_option maxRecDepth 20000 in
theorem wf_X2_9 : Cond.fieldLink RX2 9 RX2 "members" "[I" ∈ zB := List.mem_filter.mpr ⟨List.mem_of_getElem? (i := 136) (by decide +kernel), by decide +kernel⟩
theorem p_X2_9 : zPut RX2 9 2 0 true (.array .int) := ⟨RX2, TX2, 2, tyX2, rfl, by decide, iX2, wf_X2_9, rfl, tyX2_ok, nmX2, rfl, by decide +kernel, fun _ => rfl⟩
def rm_X2_init : Room := { frames := 1, cells := 1, slots := 12, locals := 20 }
set_option maxHeartbeats 4000000 in
set_option maxRecDepth 20000 in
theorem t_X2_init {p : Program} {l : Launch} {e : Env} {s : State} {m : MethodId} {args : Array Value} {below : List Frame} {meth : Method} {c : Code} {G : zG} (Z : zF p s m args c meth cX2_init 1 RX2 G) (hr : meth.sig.returnType = none) (hin : meth.name = "<init>") {out : zHp} {a0 : Nat} {h : zHp} {H : Heap} {locs : List Loc} {ls : Array Slot} {cells slots : Nat} (hf : f_X2_init a0 h = some out) (E : zE G s h H locs) (hl : lv_has ls 1 [(0, .ref a0)]) (hc : cells + 1 ≤ 1) (hs : slots + 12 ≤ 12) : W p l e rm_X2_init s m args below meth c H locs cells slots (MQ below (zQv G out) args s 1 12 (zA G)) (F0 m 0 ls []) := by
  unfold f_X2_init at hf
  refine lv_aload_n Z.x Z.b dX2_init_0 rfl (lv_at hl 0 rfl) ?_
  refine z_obj Z E hl.1 wo_X2_3 wo_inst wo_code dX2_init_1 (by decide) (by decide) ?_
  refine lv_aload_n Z.x Z.b dX2_init_4 rfl (lv_at hl 0 rfl) ?_
  refine lv_bipush (v := 12) Z.x Z.b dX2_init_5 (by decide) ?_
  refine z_newi (N := 12) Z E wr_0 (by decide) (by decide) (by decide) (show _ ≤ 1 by omega) (show _ ≤ 12 by omega) dX2_init_7 hf (fun q1 h2 H hf E => ?_)
  refine z_putF Z E hin p_X2_9 rfl rfl dX2_init_9 hf (fun h3 H locs hf E => ?_)
  refine W.widen (k := 1) (n := 12) (by omega) (by omega) ?_
  exact z_vret Z E hr dX2_init_12 hf
set_option maxHeartbeats 4000000 in
set_option maxRecDepth 20000 in
theorem c_X2_init (l : Launch) (G : zG) (h : zHp) (h' : zHp) (a0 : Nat) (hf : f_X2_init a0 h = some h') : zMn l yX2_init cX2_init 1 rm_X2_init 1 12 G [.ref a0] h h' := by
  refine Met.ofW (cc := cX2_init) (maxL := 1) (ret := none) (by decide) rfl ?_
  intro p e s m args below meth c s₁ B hml hv
  obtain ⟨rfl, hW⟩ := hv
  obtain ⟨Z, E, hr⟩ := zEnter (own := RX2) B hml rfl hW
  have hin : meth.name = "<init>" := (name_of_methodNamed B.named B.method).1
  have hl := lv_entry ([.ref a0]) (n := 1) (Nat.le_of_ble_eq_true rfl)
  rw [lg_entry_eq]
  generalize (lg_sl ([.ref a0]) ++ List.replicate (1 - (lg_sl ([.ref a0])).length) Slot.unset).toArray = ls at hl ⊢
  have hl : lv_has ls 1 [(0, .ref a0)] := hl
  exact t_X2_init (out := h') Z hr hin hf E hl (by decide) (by decide)
/-! FerryCrews$State.<init>(LFerryCrews$Duties;)V -/
theorem dX5_init_0 : decode cX5_init 0 = .ok (.aload_n 0, 1) := by decide +kernel
theorem dX5_init_1 : decode cX5_init 1 = .ok (.invokespecial 3, 3) := by decide +kernel
theorem dX5_init_4 : decode cX5_init 4 = .ok (.aload_n 0, 1) := by decide +kernel
theorem dX5_init_5 : decode cX5_init 5 = .ok (.iconst 5, 1) := by decide +kernel
theorem dX5_init_6 : decode cX5_init 6 = .ok (.newarray .int, 2) := by decide +kernel
theorem dX5_init_8 : decode cX5_init 8 = .ok (.putfield 9, 3) := by decide +kernel
theorem dX5_init_11 : decode cX5_init 11 = .ok (.aload_n 0, 1) := by decide +kernel
theorem dX5_init_12 : decode cX5_init 12 = .ok (.bipush 48, 2) := by decide +kernel
theorem dX5_init_14 : decode cX5_init 14 = .ok (.anewarray 15, 3) := by decide +kernel
theorem dX5_init_17 : decode cX5_init 17 = .ok (.putfield 17, 3) := by decide +kernel
theorem dX5_init_20 : decode cX5_init 20 = .ok (.aload_n 0, 1) := by decide +kernel
theorem dX5_init_21 : decode cX5_init 21 = .ok (.bipush 12, 2) := by decide +kernel
theorem dX5_init_23 : decode cX5_init 23 = .ok (.anewarray 21, 3) := by decide +kernel
theorem dX5_init_26 : decode cX5_init 26 = .ok (.putfield 23, 3) := by decide +kernel
theorem dX5_init_29 : decode cX5_init 29 = .ok (.aload_n 0, 1) := by decide +kernel
theorem dX5_init_30 : decode cX5_init 30 = .ok (.iconst 4, 1) := by decide +kernel
theorem dX5_init_31 : decode cX5_init 31 = .ok (.anewarray 27, 3) := by decide +kernel
theorem dX5_init_34 : decode cX5_init 34 = .ok (.putfield 29, 3) := by decide +kernel
theorem dX5_init_37 : decode cX5_init 37 = .ok (.aload_n 0, 1) := by decide +kernel
theorem dX5_init_38 : decode cX5_init 38 = .ok (.aload_n 1, 1) := by decide +kernel
theorem dX5_init_39 : decode cX5_init 39 = .ok (.putfield 33, 3) := by decide +kernel
theorem dX5_init_42 : decode cX5_init 42 = .ok (.aload_n 0, 1) := by decide +kernel
theorem dX5_init_43 : decode cX5_init 43 = .ok (.iconst 0, 1) := by decide +kernel
theorem dX5_init_44 : decode cX5_init 44 = .ok (.putfield 37, 3) := by decide +kernel
theorem dX5_init_47 : decode cX5_init 47 = .ok (.aload_n 0, 1) := by decide +kernel
theorem dX5_init_48 : decode cX5_init 48 = .ok (.iconst 0, 1) := by decide +kernel
theorem dX5_init_49 : decode cX5_init 49 = .ok (.putfield 41, 3) := by decide +kernel
theorem dX5_init_52 : decode cX5_init 52 = .ok (.aload_n 0, 1) := by decide +kernel
theorem dX5_init_53 : decode cX5_init 53 = .ok (.iconst 0, 1) := by decide +kernel
theorem dX5_init_54 : decode cX5_init 54 = .ok (.putfield 44, 3) := by decide +kernel
theorem dX5_init_57 : decode cX5_init 57 = .ok (.iconst 0, 1) := by decide +kernel
theorem dX5_init_58 : decode cX5_init 58 = .ok (.istore_n 2, 1) := by decide +kernel
theorem dX5_init_59 : decode cX5_init 59 = .ok (.iload_n 2, 1) := by decide +kernel
theorem dX5_init_60 : decode cX5_init 60 = .ok (.iconst 5, 1) := by decide +kernel
theorem dX5_init_61 : decode cX5_init 61 = .ok (.if_icmp .ge 20, 3) := by decide +kernel
theorem dX5_init_64 : decode cX5_init 64 = .ok (.aload_n 0, 1) := by decide +kernel
theorem dX5_init_65 : decode cX5_init 65 = .ok (.getfield 9, 3) := by decide +kernel
theorem dX5_init_68 : decode cX5_init 68 = .ok (.iload_n 2, 1) := by decide +kernel
theorem dX5_init_69 : decode cX5_init 69 = .ok (.getstatic 47, 3) := by decide +kernel
theorem dX5_init_72 : decode cX5_init 72 = .ok (.iload_n 2, 1) := by decide +kernel
theorem dX5_init_73 : decode cX5_init 73 = .ok (.iaload, 1) := by decide +kernel
theorem dX5_init_74 : decode cX5_init 74 = .ok (.iastore, 1) := by decide +kernel
theorem dX5_init_75 : decode cX5_init 75 = .ok (.iinc 2 1, 3) := by decide +kernel
theorem dX5_init_78 : decode cX5_init 78 = .ok (.goto (-19), 3) := by decide +kernel
theorem dX5_init_81 : decode cX5_init 81 = .ok (.iconst 0, 1) := by decide +kernel
theorem dX5_init_82 : decode cX5_init 82 = .ok (.istore_n 2, 1) := by decide +kernel
theorem dX5_init_83 : decode cX5_init 83 = .ok (.iload_n 2, 1) := by decide +kernel
theorem dX5_init_84 : decode cX5_init 84 = .ok (.bipush 48, 2) := by decide +kernel
theorem dX5_init_86 : decode cX5_init 86 = .ok (.if_icmp .ge 22, 3) := by decide +kernel
theorem dX5_init_89 : decode cX5_init 89 = .ok (.aload_n 0, 1) := by decide +kernel
theorem dX5_init_90 : decode cX5_init 90 = .ok (.getfield 17, 3) := by decide +kernel
theorem dX5_init_93 : decode cX5_init 93 = .ok (.iload_n 2, 1) := by decide +kernel
theorem dX5_init_94 : decode cX5_init 94 = .ok (.new 15, 3) := by decide +kernel
theorem dX5_init_97 : decode cX5_init 97 = .ok (.dup, 1) := by decide +kernel
theorem dX5_init_98 : decode cX5_init 98 = .ok (.invokespecial 50, 3) := by decide +kernel
theorem dX5_init_101 : decode cX5_init 101 = .ok (.aastore, 1) := by decide +kernel
theorem dX5_init_102 : decode cX5_init 102 = .ok (.iinc 2 1, 3) := by decide +kernel
theorem dX5_init_105 : decode cX5_init 105 = .ok (.goto (-22), 3) := by decide +kernel
theorem dX5_init_108 : decode cX5_init 108 = .ok (.iconst 0, 1) := by decide +kernel
theorem dX5_init_109 : decode cX5_init 109 = .ok (.istore_n 2, 1) := by decide +kernel
theorem dX5_init_110 : decode cX5_init 110 = .ok (.iload_n 2, 1) := by decide +kernel
theorem dX5_init_111 : decode cX5_init 111 = .ok (.bipush 12, 2) := by decide +kernel
theorem dX5_init_113 : decode cX5_init 113 = .ok (.if_icmp .ge 22, 3) := by decide +kernel
theorem dX5_init_116 : decode cX5_init 116 = .ok (.aload_n 0, 1) := by decide +kernel
theorem dX5_init_117 : decode cX5_init 117 = .ok (.getfield 23, 3) := by decide +kernel
theorem dX5_init_120 : decode cX5_init 120 = .ok (.iload_n 2, 1) := by decide +kernel
theorem dX5_init_121 : decode cX5_init 121 = .ok (.new 21, 3) := by decide +kernel
theorem dX5_init_124 : decode cX5_init 124 = .ok (.dup, 1) := by decide +kernel
theorem dX5_init_125 : decode cX5_init 125 = .ok (.invokespecial 51, 3) := by decide +kernel
theorem dX5_init_128 : decode cX5_init 128 = .ok (.aastore, 1) := by decide +kernel
theorem dX5_init_129 : decode cX5_init 129 = .ok (.iinc 2 1, 3) := by decide +kernel
theorem dX5_init_132 : decode cX5_init 132 = .ok (.goto (-22), 3) := by decide +kernel
theorem dX5_init_135 : decode cX5_init 135 = .ok (.iconst 0, 1) := by decide +kernel
theorem dX5_init_136 : decode cX5_init 136 = .ok (.istore_n 2, 1) := by decide +kernel
theorem dX5_init_137 : decode cX5_init 137 = .ok (.iload_n 2, 1) := by decide +kernel
theorem dX5_init_138 : decode cX5_init 138 = .ok (.iconst 4, 1) := by decide +kernel
theorem dX5_init_139 : decode cX5_init 139 = .ok (.if_icmp .ge 22, 3) := by decide +kernel
theorem dX5_init_142 : decode cX5_init 142 = .ok (.aload_n 0, 1) := by decide +kernel
theorem dX5_init_143 : decode cX5_init 143 = .ok (.getfield 29, 3) := by decide +kernel
theorem dX5_init_146 : decode cX5_init 146 = .ok (.iload_n 2, 1) := by decide +kernel
theorem dX5_init_147 : decode cX5_init 147 = .ok (.new 27, 3) := by decide +kernel
theorem dX5_init_150 : decode cX5_init 150 = .ok (.dup, 1) := by decide +kernel
theorem dX5_init_151 : decode cX5_init 151 = .ok (.invokespecial 52, 3) := by decide +kernel
theorem dX5_init_154 : decode cX5_init 154 = .ok (.aastore, 1) := by decide +kernel
theorem dX5_init_155 : decode cX5_init 155 = .ok (.iinc 2 1, 3) := by decide +kernel
theorem dX5_init_158 : decode cX5_init 158 = .ok (.goto (-21), 3) := by decide +kernel
theorem dX5_init_161 : decode cX5_init 161 = .ok (.return_, 1) := by decide +kernel
set_option maxRecDepth 20000 in
theorem wo_X5_3 : Cond.methodLink RX5 3 objectInit ∈ zB := List.mem_filter.mpr ⟨List.mem_of_getElem? (i := 53) (by decide +kernel), by decide +kernel⟩
set_option maxRecDepth 20000 in
theorem wf_X5_9 : Cond.fieldLink RX5 9 RX5 "settings" "[I" ∈ zB := List.mem_filter.mpr ⟨List.mem_of_getElem? (i := 145) (by decide +kernel), by decide +kernel⟩
theorem p_X5_9 : zPut RX5 9 5 1 true (.array .int) := ⟨RX5, TX5, 8, tyX5, rfl, by decide, iX5, wf_X5_9, rfl, tyX5_ok, nmX5, rfl, by decide +kernel, fun _ => rfl⟩
set_option maxRecDepth 20000 in
theorem wk_X5_15 : Cond.classLink RX5 15 RX4 ∈ zB := List.mem_filter.mpr ⟨List.mem_of_getElem? (i := 54) (by decide +kernel), by decide +kernel⟩
set_option maxRecDepth 20000 in
theorem wf_X5_17 : Cond.fieldLink RX5 17 RX5 "byStart" "[LFerryCrews$Sailing;" ∈ zB := List.mem_filter.mpr ⟨List.mem_of_getElem? (i := 153) (by decide +kernel), by decide +kernel⟩
theorem p_X5_17 : zPut RX5 17 5 5 true (.array (.object "FerryCrews$Sailing")) := ⟨RX5, TX5, 8, tyX5, rfl, by decide, iX5, wf_X5_17, rfl, tyX5_ok, nmX5, rfl, by decide +kernel, fun _ => rfl⟩
set_option maxRecDepth 20000 in
theorem wk_X5_21 : Cond.classLink RX5 21 RX3 ∈ zB := List.mem_filter.mpr ⟨List.mem_of_getElem? (i := 56) (by decide +kernel), by decide +kernel⟩
set_option maxRecDepth 20000 in
theorem wf_X5_23 : Cond.fieldLink RX5 23 RX5 "members" "[LFerryCrews$Member;" ∈ zB := List.mem_filter.mpr ⟨List.mem_of_getElem? (i := 154) (by decide +kernel), by decide +kernel⟩
theorem p_X5_23 : zPut RX5 23 5 6 true (.array (.object "FerryCrews$Member")) := ⟨RX5, TX5, 8, tyX5, rfl, by decide, iX5, wf_X5_23, rfl, tyX5_ok, nmX5, rfl, by decide +kernel, fun _ => rfl⟩
set_option maxRecDepth 20000 in
theorem wk_X5_27 : Cond.classLink RX5 27 RX2 ∈ zB := List.mem_filter.mpr ⟨List.mem_of_getElem? (i := 58) (by decide +kernel), by decide +kernel⟩
set_option maxRecDepth 20000 in
theorem wf_X5_29 : Cond.fieldLink RX5 29 RX5 "ladders" "[LFerryCrews$Ladder;" ∈ zB := List.mem_filter.mpr ⟨List.mem_of_getElem? (i := 155) (by decide +kernel), by decide +kernel⟩
theorem p_X5_29 : zPut RX5 29 5 7 true (.array (.object "FerryCrews$Ladder")) := ⟨RX5, TX5, 8, tyX5, rfl, by decide, iX5, wf_X5_29, rfl, tyX5_ok, nmX5, rfl, by decide +kernel, fun _ => rfl⟩
set_option maxRecDepth 20000 in
theorem wf_X5_33 : Cond.fieldLink RX5 33 RX5 "duties" "LFerryCrews$Duties;" ∈ zB := List.mem_filter.mpr ⟨List.mem_of_getElem? (i := 144) (by decide +kernel), by decide +kernel⟩
theorem p_X5_33 : zPut RX5 33 5 0 true (.object "FerryCrews$Duties") := ⟨RX5, TX5, 8, tyX5, rfl, by decide, iX5, wf_X5_33, rfl, tyX5_ok, nmX5, rfl, by decide +kernel, fun _ => rfl⟩
set_option maxRecDepth 20000 in
theorem wf_X5_37 : Cond.fieldLink RX5 37 RX5 "now" "I" ∈ zB := List.mem_filter.mpr ⟨List.mem_of_getElem? (i := 147) (by decide +kernel), by decide +kernel⟩
theorem p_X5_37 : zPut RX5 37 5 2 false .int := ⟨RX5, TX5, 8, tyX5, rfl, by decide, iX5, wf_X5_37, rfl, tyX5_ok, nmX5, rfl, by decide +kernel, fun _ => rfl⟩
set_option maxRecDepth 20000 in
theorem wf_X5_41 : Cond.fieldLink RX5 41 RX5 "sailingCount" "I" ∈ zB := List.mem_filter.mpr ⟨List.mem_of_getElem? (i := 149) (by decide +kernel), by decide +kernel⟩
theorem p_X5_41 : zPut RX5 41 5 3 false .int := ⟨RX5, TX5, 8, tyX5, rfl, by decide, iX5, wf_X5_41, rfl, tyX5_ok, nmX5, rfl, by decide +kernel, fun _ => rfl⟩
set_option maxRecDepth 20000 in
theorem wf_X5_44 : Cond.fieldLink RX5 44 RX5 "memberCount" "I" ∈ zB := List.mem_filter.mpr ⟨List.mem_of_getElem? (i := 151) (by decide +kernel), by decide +kernel⟩
theorem p_X5_44 : zPut RX5 44 5 4 false .int := ⟨RX5, TX5, 8, tyX5, rfl, by decide, iX5, wf_X5_44, rfl, tyX5_ok, nmX5, rfl, by decide +kernel, fun _ => rfl⟩
theorem q_X5_9 : zFld RX5 9 5 1 := ⟨RX5, TX5, 8, rfl, by decide, iX5, wf_X5_9, rfl⟩
theorem q_X5_17 : zFld RX5 17 5 5 := ⟨RX5, TX5, 8, rfl, by decide, iX5, wf_X5_17, rfl⟩
set_option maxRecDepth 20000 in
theorem wa_X4 : Cond.instantiable RX4 9 ∈ zB := List.mem_filter.mpr ⟨List.mem_of_getElem? (i := 62) (by decide +kernel), by decide +kernel⟩
set_option maxRecDepth 20000 in
theorem wc_X4_init : Cond.code yX4_init cX4_init 1 none ∈ zB := List.mem_filter.mpr ⟨List.mem_of_getElem? (i := 65) (by decide +kernel), by decide +kernel⟩
set_option maxRecDepth 20000 in
theorem wm_X5_50 : Cond.methodLink RX5 50 yX4_init ∈ zB := List.mem_filter.mpr ⟨List.mem_of_getElem? (i := 63) (by decide +kernel), by decide +kernel⟩
theorem k_X5_50 : zCal RX5 50 yX4_init cX4_init 1 none 0 := ⟨wm_X5_50, wi_X4, wc_X4_init, by decide +kernel, by decide +kernel, by decide +kernel⟩
set_option maxRecDepth 20000 in
theorem wn_X4_init : Cond.instanceMethod yX4_init ∈ zB := List.mem_filter.mpr ⟨List.mem_of_getElem? (i := 64) (by decide +kernel), by decide +kernel⟩
theorem q_X5_23 : zFld RX5 23 5 6 := ⟨RX5, TX5, 8, rfl, by decide, iX5, wf_X5_23, rfl⟩
set_option maxRecDepth 20000 in
theorem wa_X3 : Cond.instantiable RX3 3 ∈ zB := List.mem_filter.mpr ⟨List.mem_of_getElem? (i := 112) (by decide +kernel), by decide +kernel⟩
set_option maxRecDepth 20000 in
theorem wi_X3 : Cond.initialized RX3 ∈ zB := List.mem_filter.mpr ⟨List.mem_of_getElem? (i := 11) (by decide +kernel), by decide +kernel⟩
set_option maxRecDepth 20000 in
theorem wc_X3_init : Cond.code yX3_init cX3_init 1 none ∈ zB := List.mem_filter.mpr ⟨List.mem_of_getElem? (i := 115) (by decide +kernel), by decide +kernel⟩
set_option maxRecDepth 20000 in
theorem k_X5_51 : zCalN RX5 51 yX3_init "FerryCrews" cX3_init 1 none 0 := ⟨List.mem_of_getElem? (i := 113) (by decide +kernel), wi_X3, wc_X3_init, by decide +kernel, by decide +kernel, by decide +kernel⟩
set_option maxRecDepth 20000 in
theorem wn_X3_init : Cond.instanceMethod yX3_init ∈ zB := List.mem_filter.mpr ⟨List.mem_of_getElem? (i := 114) (by decide +kernel), by decide +kernel⟩
theorem q_X5_29 : zFld RX5 29 5 7 := ⟨RX5, TX5, 8, rfl, by decide, iX5, wf_X5_29, rfl⟩
set_option maxRecDepth 20000 in
theorem wa_X2 : Cond.instantiable RX2 2 ∈ zB := List.mem_filter.mpr ⟨List.mem_of_getElem? (i := 131) (by decide +kernel), by decide +kernel⟩
set_option maxRecDepth 20000 in
theorem wi_X2 : Cond.initialized RX2 ∈ zB := List.mem_filter.mpr ⟨List.mem_of_getElem? (i := 12) (by decide +kernel), by decide +kernel⟩
set_option maxRecDepth 20000 in
theorem wc_X2_init : Cond.code yX2_init cX2_init 1 none ∈ zB := List.mem_filter.mpr ⟨List.mem_of_getElem? (i := 134) (by decide +kernel), by decide +kernel⟩
set_option maxRecDepth 20000 in
theorem k_X5_52 : zCalN RX5 52 yX2_init "FerryCrews" cX2_init 1 none 0 := ⟨List.mem_of_getElem? (i := 132) (by decide +kernel), wi_X2, wc_X2_init, by decide +kernel, by decide +kernel, by decide +kernel⟩
set_option maxRecDepth 20000 in
theorem wn_X2_init : Cond.instanceMethod yX2_init ∈ zB := List.mem_filter.mpr ⟨List.mem_of_getElem? (i := 133) (by decide +kernel), by decide +kernel⟩
def rm_X5_init : Room := { frames := 2, cells := 180, slots := 1409, locals := 41 }
set_option maxHeartbeats 4000000 in
set_option maxRecDepth 20000 in
theorem t_X5_init_137_body {p : Program} {l : Launch} {e : Env} {s : State} {m : MethodId} {args : Array Value} {below : List Frame} {meth : Method} {c : Code} {G : zG} (Z : zF p s m args c meth cX5_init 3 RX5 G) (hr : meth.sig.returnType = none) (hin : meth.name = "<init>") {out : zHp} {r137 : Nat → Int32 → zHp → Option (zHp)} (k137 : ∀ {a0 : Nat} {a2 : Int32} {h : zHp} {H : Heap} {locs : List Loc} {ls : Array Slot} {cells slots : Nat}, r137 a0 a2 h = some out → zE G s h H locs → lv_has ls 3 [(0, .ref a0), (2, .int a2)] → ∀ {j : Nat}, a2 = nI j → j ≤ 4 → cells + ((4 - j) * 2 + 0) ≤ 180 → slots + ((4 - j) * 14 + 0) ≤ 1409 → W p l e rm_X5_init s m args below meth c H locs cells slots (MQ below (zQv G out) args s 180 1409 (zA G)) (F0 m 137 ls [])) {a0 : Nat} {a2 : Int32} {h : zHp} {H : Heap} {locs : List Loc} {ls : Array Slot} {cells slots : Nat} (hf : f_X5_init_137_body r137 a0 a2 h = some out) (E : zE G s h H locs) (hl : lv_has ls 3 [(0, .ref a0), (2, .int a2)]) {j : Nat} (hj : a2 = nI j) (hjM : j ≤ 4) (hc : cells + ((4 - j) * 2 + 0) ≤ 180) (hs : slots + ((4 - j) * 14 + 0) ≤ 1409) : W p l e rm_X5_init s m args below meth c H locs cells slots (MQ below (zQv G out) args s 180 1409 (zA G)) (F0 m 137 ls []) := by
  unfold f_X5_init_137_body at hf
  refine lv_iload_n Z.x Z.b dX5_init_137 rfl (lv_at hl 1 rfl) ?_
  refine lv_iconst (v := 4) Z.x Z.b dX5_init_138 (by decide) ?_
  refine lv_icmp_ge (tgt := 161) Z.x Z.b dX5_init_139 (by decide) (fun c => ?_) (fun c => ?_)
  · have hf := zit hf c
    refine W.widen (k := 180) (n := 1409) (by omega) (by omega) ?_
    exact z_vret Z E hr dX5_init_161 hf
  · have hf := zif_ hf c
    have hjN : j < 4 := by rcases Nat.lt_or_ge j 4 with w | w; exact w; exact absurd (by rw [hj]; exact nI_le (a := 4) (b := j) w (by omega)) c
    refine lv_aload_n Z.x Z.b dX5_init_142 rfl (lv_at hl 0 rfl) ?_
    refine z_getR Z E q_X5_29 dX5_init_143 hf (fun v1 hf => ?_)
    refine lv_iload_n Z.x Z.b dX5_init_146 rfl (lv_at hl 1 rfl) ?_
    refine z_new (ci := 2) (C := RX2) (T := TX2) (N := 2) (ty := tyX2) (fs := [.null, .int 0]) Z E rfl iX2 tyX2_ok wk_X5_27 wa_X2 wi_X2 (fun j hj => by rcases (show j = 0 ∨ j = 1 by omega) with rfl | rfl <;> rfl) (show _ ≤ 180 by omega) (show _ ≤ 1409 by omega) dX5_init_147 hf (fun q2 h3 H hf E => ?_)
    refine lv_dup Z.x Z.b dX5_init_150 rfl ?_
    refine z_IN (As := []) (mc := 1) (ms := 12) Z E hl.1 k_X5_52 wn_X2_init rfl hf (fun h' e => c_X2_init l G h3 h' q2 e) rfl rfl (Nat.le_of_ble_eq_true rfl) ⟨⟨by decide, by decide⟩, ⟨rfl, rfl⟩, (show _ ≤ 180 by omega), (show _ ≤ 1409 by omega)⟩ dX5_init_151 (fun h4 H locs hf E => ?_)
    refine z_aast (kd := 4) (ci := 2) (r := (RX2, TX2, 2)) Z E rfl rfl dX5_init_154 hf (fun h5 H locs hf E => ?_)
    refine lv_iinc (v := (a2 + 1)) (lv' := [(2, .int (a2 + 1)), (0, .ref a0)]) Z.x Z.b dX5_init_155 hl (k := 1) rfl rfl (by decide) rfl (fun ls hl => ?_)
    refine lv_goto (tgt := 137) Z.x Z.b dX5_init_158 (by decide) ?_
    exact k137 hf E (lv_sub hl [1, 0] rfl) (by rw [hj]; exact nI_1 _) (by omega) (by omega) (by omega)
theorem t_X5_init_137 {p : Program} {l : Launch} {e : Env} {s : State} {m : MethodId} {args : Array Value} {below : List Frame} {meth : Method} {c : Code} {G : zG} (Z : zF p s m args c meth cX5_init 3 RX5 G) (hr : meth.sig.returnType = none) (hin : meth.name = "<init>") {out : zHp} : ∀ (n : Nat), ∀ {a0 : Nat} {a2 : Int32} {h : zHp} {H : Heap} {locs : List Loc} {ls : Array Slot} {cells slots : Nat}, f_X5_init_137 n a0 a2 h = some out → zE G s h H locs → lv_has ls 3 [(0, .ref a0), (2, .int a2)] → ∀ {j : Nat}, a2 = nI j → j ≤ 4 → cells + ((4 - j) * 2 + 0) ≤ 180 → slots + ((4 - j) * 14 + 0) ≤ 1409 → W p l e rm_X5_init s m args below meth c H locs cells slots (MQ below (zQv G out) args s 180 1409 (zA G)) (F0 m 137 ls [])
  | 0 => fun hf => by cases hf
  | n + 1 => fun hf E hl {j} hj hjM hc hs => t_X5_init_137_body Z hr hin (r137 := f_X5_init_137 n) (t_X5_init_137 Z hr hin n) hf E hl hj hjM hc hs
set_option maxHeartbeats 4000000 in
set_option maxRecDepth 20000 in
theorem t_X5_init_110_body {p : Program} {l : Launch} {e : Env} {s : State} {m : MethodId} {args : Array Value} {below : List Frame} {meth : Method} {c : Code} {G : zG} (Z : zF p s m args c meth cX5_init 3 RX5 G) (hr : meth.sig.returnType = none) (hin : meth.name = "<init>") {out : zHp} {r110 : Nat → Int32 → zHp → Option (zHp)} (k110 : ∀ {a0 : Nat} {a2 : Int32} {h : zHp} {H : Heap} {locs : List Loc} {ls : Array Slot} {cells slots : Nat}, r110 a0 a2 h = some out → zE G s h H locs → lv_has ls 3 [(0, .ref a0), (2, .int a2)] → ∀ {j : Nat}, a2 = nI j → j ≤ 12 → cells + ((12 - j) * 2 + 8) ≤ 180 → slots + ((12 - j) * 7 + 56) ≤ 1409 → W p l e rm_X5_init s m args below meth c H locs cells slots (MQ below (zQv G out) args s 180 1409 (zA G)) (F0 m 110 ls [])) {a0 : Nat} {a2 : Int32} {h : zHp} {H : Heap} {locs : List Loc} {ls : Array Slot} {cells slots : Nat} (hf : f_X5_init_110_body r110 a0 a2 h = some out) (E : zE G s h H locs) (hl : lv_has ls 3 [(0, .ref a0), (2, .int a2)]) {j : Nat} (hj : a2 = nI j) (hjM : j ≤ 12) (hc : cells + ((12 - j) * 2 + 8) ≤ 180) (hs : slots + ((12 - j) * 7 + 56) ≤ 1409) : W p l e rm_X5_init s m args below meth c H locs cells slots (MQ below (zQv G out) args s 180 1409 (zA G)) (F0 m 110 ls []) := by
  unfold f_X5_init_110_body at hf
  refine lv_iload_n Z.x Z.b dX5_init_110 rfl (lv_at hl 1 rfl) ?_
  refine lv_bipush (v := 12) Z.x Z.b dX5_init_111 (by decide) ?_
  refine lv_icmp_ge (tgt := 135) Z.x Z.b dX5_init_113 (by decide) (fun c => ?_) (fun c => ?_)
  · have hf := zit hf c
    refine lv_iconst (v := 0) Z.x Z.b dX5_init_135 (by decide) ?_
    refine lv_istore_n (lv' := [(2, .int 0), (0, .ref a0)]) Z.x Z.b dX5_init_136 rfl hl (by decide) rfl (fun ls hl => ?_)
    exact t_X5_init_137 Z hr hin zN hf E (lv_sub hl [1, 0] rfl) (j := 0) nI_0.symm (by omega) (by omega) (by omega)
  · have hf := zif_ hf c
    have hjN : j < 12 := by rcases Nat.lt_or_ge j 12 with w | w; exact w; exact absurd (by rw [hj]; exact nI_le (a := 12) (b := j) w (by omega)) c
    refine lv_aload_n Z.x Z.b dX5_init_116 rfl (lv_at hl 0 rfl) ?_
    refine z_getR Z E q_X5_23 dX5_init_117 hf (fun v1 hf => ?_)
    refine lv_iload_n Z.x Z.b dX5_init_120 rfl (lv_at hl 1 rfl) ?_
    refine z_new (ci := 3) (C := RX3) (T := TX3) (N := 3) (ty := tyX3) (fs := [.null, .int 0, .int 0]) Z E rfl iX3 tyX3_ok wk_X5_21 wa_X3 wi_X3 (fun j hj => by rcases (show j = 0 ∨ j = 1 ∨ j = 2 by omega) with rfl | rfl | rfl <;> rfl) (show _ ≤ 180 by omega) (show _ ≤ 1409 by omega) dX5_init_121 hf (fun q2 h3 H hf E => ?_)
    refine lv_dup Z.x Z.b dX5_init_124 rfl ?_
    refine z_IN (As := []) (mc := 1) (ms := 4) Z E hl.1 k_X5_51 wn_X3_init rfl hf (fun h' e => c_X3_init l G h3 h' q2 e) rfl rfl (Nat.le_of_ble_eq_true rfl) ⟨⟨by decide, by decide⟩, ⟨rfl, rfl⟩, (show _ ≤ 180 by omega), (show _ ≤ 1409 by omega)⟩ dX5_init_125 (fun h4 H locs hf E => ?_)
    refine z_aast (kd := 3) (ci := 3) (r := (RX3, TX3, 3)) Z E rfl rfl dX5_init_128 hf (fun h5 H locs hf E => ?_)
    refine lv_iinc (v := (a2 + 1)) (lv' := [(2, .int (a2 + 1)), (0, .ref a0)]) Z.x Z.b dX5_init_129 hl (k := 1) rfl rfl (by decide) rfl (fun ls hl => ?_)
    refine lv_goto (tgt := 110) Z.x Z.b dX5_init_132 (by decide) ?_
    exact k110 hf E (lv_sub hl [1, 0] rfl) (by rw [hj]; exact nI_1 _) (by omega) (by omega) (by omega)
theorem t_X5_init_110 {p : Program} {l : Launch} {e : Env} {s : State} {m : MethodId} {args : Array Value} {below : List Frame} {meth : Method} {c : Code} {G : zG} (Z : zF p s m args c meth cX5_init 3 RX5 G) (hr : meth.sig.returnType = none) (hin : meth.name = "<init>") {out : zHp} : ∀ (n : Nat), ∀ {a0 : Nat} {a2 : Int32} {h : zHp} {H : Heap} {locs : List Loc} {ls : Array Slot} {cells slots : Nat}, f_X5_init_110 n a0 a2 h = some out → zE G s h H locs → lv_has ls 3 [(0, .ref a0), (2, .int a2)] → ∀ {j : Nat}, a2 = nI j → j ≤ 12 → cells + ((12 - j) * 2 + 8) ≤ 180 → slots + ((12 - j) * 7 + 56) ≤ 1409 → W p l e rm_X5_init s m args below meth c H locs cells slots (MQ below (zQv G out) args s 180 1409 (zA G)) (F0 m 110 ls [])
  | 0 => fun hf => by cases hf
  | n + 1 => fun hf E hl {j} hj hjM hc hs => t_X5_init_110_body Z hr hin (r110 := f_X5_init_110 n) (t_X5_init_110 Z hr hin n) hf E hl hj hjM hc hs
set_option maxHeartbeats 4000000 in
set_option maxRecDepth 20000 in
theorem t_X5_init_83_body {p : Program} {l : Launch} {e : Env} {s : State} {m : MethodId} {args : Array Value} {below : List Frame} {meth : Method} {c : Code} {G : zG} (Z : zF p s m args c meth cX5_init 3 RX5 G) (hr : meth.sig.returnType = none) (hin : meth.name = "<init>") {out : zHp} {r83 : Nat → Int32 → zHp → Option (zHp)} (k83 : ∀ {a0 : Nat} {a2 : Int32} {h : zHp} {H : Heap} {locs : List Loc} {ls : Array Slot} {cells slots : Nat}, r83 a0 a2 h = some out → zE G s h H locs → lv_has ls 3 [(0, .ref a0), (2, .int a2)] → ∀ {j : Nat}, a2 = nI j → j ≤ 48 → cells + ((48 - j) * 3 + 32) ≤ 180 → slots + ((48 - j) * 25 + 140) ≤ 1409 → W p l e rm_X5_init s m args below meth c H locs cells slots (MQ below (zQv G out) args s 180 1409 (zA G)) (F0 m 83 ls [])) {a0 : Nat} {a2 : Int32} {h : zHp} {H : Heap} {locs : List Loc} {ls : Array Slot} {cells slots : Nat} (hf : f_X5_init_83_body r83 a0 a2 h = some out) (E : zE G s h H locs) (hl : lv_has ls 3 [(0, .ref a0), (2, .int a2)]) {j : Nat} (hj : a2 = nI j) (hjM : j ≤ 48) (hc : cells + ((48 - j) * 3 + 32) ≤ 180) (hs : slots + ((48 - j) * 25 + 140) ≤ 1409) : W p l e rm_X5_init s m args below meth c H locs cells slots (MQ below (zQv G out) args s 180 1409 (zA G)) (F0 m 83 ls []) := by
  unfold f_X5_init_83_body at hf
  refine lv_iload_n Z.x Z.b dX5_init_83 rfl (lv_at hl 1 rfl) ?_
  refine lv_bipush (v := 48) Z.x Z.b dX5_init_84 (by decide) ?_
  refine lv_icmp_ge (tgt := 108) Z.x Z.b dX5_init_86 (by decide) (fun c => ?_) (fun c => ?_)
  · have hf := zit hf c
    refine lv_iconst (v := 0) Z.x Z.b dX5_init_108 (by decide) ?_
    refine lv_istore_n (lv' := [(2, .int 0), (0, .ref a0)]) Z.x Z.b dX5_init_109 rfl hl (by decide) rfl (fun ls hl => ?_)
    exact t_X5_init_110 Z hr hin zN hf E (lv_sub hl [1, 0] rfl) (j := 0) nI_0.symm (by omega) (by omega) (by omega)
  · have hf := zif_ hf c
    have hjN : j < 48 := by rcases Nat.lt_or_ge j 48 with w | w; exact w; exact absurd (by rw [hj]; exact nI_le (a := 48) (b := j) w (by omega)) c
    refine lv_aload_n Z.x Z.b dX5_init_89 rfl (lv_at hl 0 rfl) ?_
    refine z_getR Z E q_X5_17 dX5_init_90 hf (fun v1 hf => ?_)
    refine lv_iload_n Z.x Z.b dX5_init_93 rfl (lv_at hl 1 rfl) ?_
    refine z_new (ci := 4) (C := RX4) (T := TX4) (N := 9) (ty := tyX4) (fs := [.int 0, .int 0, .int 0, .int 0, .int 0, .int 0, .int 0, .null, .null]) Z E rfl iX4 tyX4_ok wk_X5_15 wa_X4 wi_X4 (fun j hj => by rcases (show j = 0 ∨ j = 1 ∨ j = 2 ∨ j = 3 ∨ j = 4 ∨ j = 5 ∨ j = 6 ∨ j = 7 ∨ j = 8 by omega) with rfl | rfl | rfl | rfl | rfl | rfl | rfl | rfl | rfl <;> rfl) (show _ ≤ 180 by omega) (show _ ≤ 1409 by omega) dX5_init_94 hf (fun q2 h3 H hf E => ?_)
    refine lv_dup Z.x Z.b dX5_init_97 rfl ?_
    refine z_I (As := []) (mc := 2) (ms := 16) Z E hl.1 k_X5_50 wn_X4_init rfl hf (fun h' e => c_X4_init l G h3 h' q2 e) rfl rfl (Nat.le_of_ble_eq_true rfl) ⟨⟨by decide, by decide⟩, ⟨rfl, rfl⟩, (show _ ≤ 180 by omega), (show _ ≤ 1409 by omega)⟩ dX5_init_98 (fun h4 H locs hf E => ?_)
    refine z_aast (kd := 2) (ci := 4) (r := (RX4, TX4, 9)) Z E rfl rfl dX5_init_101 hf (fun h5 H locs hf E => ?_)
    refine lv_iinc (v := (a2 + 1)) (lv' := [(2, .int (a2 + 1)), (0, .ref a0)]) Z.x Z.b dX5_init_102 hl (k := 1) rfl rfl (by decide) rfl (fun ls hl => ?_)
    refine lv_goto (tgt := 83) Z.x Z.b dX5_init_105 (by decide) ?_
    exact k83 hf E (lv_sub hl [1, 0] rfl) (by rw [hj]; exact nI_1 _) (by omega) (by omega) (by omega)
theorem t_X5_init_83 {p : Program} {l : Launch} {e : Env} {s : State} {m : MethodId} {args : Array Value} {below : List Frame} {meth : Method} {c : Code} {G : zG} (Z : zF p s m args c meth cX5_init 3 RX5 G) (hr : meth.sig.returnType = none) (hin : meth.name = "<init>") {out : zHp} : ∀ (n : Nat), ∀ {a0 : Nat} {a2 : Int32} {h : zHp} {H : Heap} {locs : List Loc} {ls : Array Slot} {cells slots : Nat}, f_X5_init_83 n a0 a2 h = some out → zE G s h H locs → lv_has ls 3 [(0, .ref a0), (2, .int a2)] → ∀ {j : Nat}, a2 = nI j → j ≤ 48 → cells + ((48 - j) * 3 + 32) ≤ 180 → slots + ((48 - j) * 25 + 140) ≤ 1409 → W p l e rm_X5_init s m args below meth c H locs cells slots (MQ below (zQv G out) args s 180 1409 (zA G)) (F0 m 83 ls [])
  | 0 => fun hf => by cases hf
  | n + 1 => fun hf E hl {j} hj hjM hc hs => t_X5_init_83_body Z hr hin (r83 := f_X5_init_83 n) (t_X5_init_83 Z hr hin n) hf E hl hj hjM hc hs
set_option maxHeartbeats 4000000 in
set_option maxRecDepth 20000 in
theorem t_X5_init_59_body {p : Program} {l : Launch} {e : Env} {s : State} {m : MethodId} {args : Array Value} {below : List Frame} {meth : Method} {c : Code} {G : zG} (Z : zF p s m args c meth cX5_init 3 RX5 G) (hr : meth.sig.returnType = none) (hin : meth.name = "<init>") {out : zHp} {r59 : Nat → Int32 → zHp → Option (zHp)} (k59 : ∀ {a0 : Nat} {a2 : Int32} {h : zHp} {H : Heap} {locs : List Loc} {ls : Array Slot} {cells slots : Nat}, r59 a0 a2 h = some out → zE G s h H locs → lv_has ls 3 [(0, .ref a0), (2, .int a2)] → cells + 176 ≤ 180 → slots + 1340 ≤ 1409 → W p l e rm_X5_init s m args below meth c H locs cells slots (MQ below (zQv G out) args s 180 1409 (zA G)) (F0 m 59 ls [])) {a0 : Nat} {a2 : Int32} {h : zHp} {H : Heap} {locs : List Loc} {ls : Array Slot} {cells slots : Nat} (hf : f_X5_init_59_body r59 a0 a2 h = some out) (E : zE G s h H locs) (hl : lv_has ls 3 [(0, .ref a0), (2, .int a2)]) (hc : cells + 176 ≤ 180) (hs : slots + 1340 ≤ 1409) : W p l e rm_X5_init s m args below meth c H locs cells slots (MQ below (zQv G out) args s 180 1409 (zA G)) (F0 m 59 ls []) := by
  unfold f_X5_init_59_body at hf
  refine lv_iload_n Z.x Z.b dX5_init_59 rfl (lv_at hl 1 rfl) ?_
  refine lv_iconst (v := 5) Z.x Z.b dX5_init_60 (by decide) ?_
  refine lv_icmp_ge (tgt := 81) Z.x Z.b dX5_init_61 (by decide) (fun c => ?_) (fun c => ?_)
  · have hf := zit hf c
    refine lv_iconst (v := 0) Z.x Z.b dX5_init_81 (by decide) ?_
    refine lv_istore_n (lv' := [(2, .int 0), (0, .ref a0)]) Z.x Z.b dX5_init_82 rfl hl (by decide) rfl (fun ls hl => ?_)
    exact t_X5_init_83 Z hr hin zN hf E (lv_sub hl [1, 0] rfl) (j := 0) nI_0.symm (by omega) (by omega) (by omega)
  · have hf := zif_ hf c
    refine lv_aload_n Z.x Z.b dX5_init_64 rfl (lv_at hl 0 rfl) ?_
    refine z_getR Z E q_X5_9 dX5_init_65 hf (fun v1 hf => ?_)
    refine lv_iload_n Z.x Z.b dX5_init_68 rfl (lv_at hl 1 rfl) ?_
    refine z_tabN (host := "FerryCrews") (pc2 := 73) Z E Z.St.1 (List.mem_of_getElem? (i := 60) (by decide +kernel)) dX5_init_69 dX5_init_73 hf (fun t k => ?_) (fun v2 hf => ?_)
    · refine lv_iload_n Z.x Z.b dX5_init_72 rfl (lv_at hl 1 rfl) ?_
      exact k
    refine z_iast Z E dX5_init_74 hf (fun h3 H locs hf E => ?_)
    refine lv_iinc (v := (a2 + 1)) (lv' := [(2, .int (a2 + 1)), (0, .ref a0)]) Z.x Z.b dX5_init_75 hl (k := 1) rfl rfl (by decide) rfl (fun ls hl => ?_)
    refine lv_goto (tgt := 59) Z.x Z.b dX5_init_78 (by decide) ?_
    exact k59 hf E (lv_sub hl [1, 0] rfl) (by omega) (by omega)
theorem t_X5_init_59 {p : Program} {l : Launch} {e : Env} {s : State} {m : MethodId} {args : Array Value} {below : List Frame} {meth : Method} {c : Code} {G : zG} (Z : zF p s m args c meth cX5_init 3 RX5 G) (hr : meth.sig.returnType = none) (hin : meth.name = "<init>") {out : zHp} : ∀ (n : Nat), ∀ {a0 : Nat} {a2 : Int32} {h : zHp} {H : Heap} {locs : List Loc} {ls : Array Slot} {cells slots : Nat}, f_X5_init_59 n a0 a2 h = some out → zE G s h H locs → lv_has ls 3 [(0, .ref a0), (2, .int a2)] → cells + 176 ≤ 180 → slots + 1340 ≤ 1409 → W p l e rm_X5_init s m args below meth c H locs cells slots (MQ below (zQv G out) args s 180 1409 (zA G)) (F0 m 59 ls [])
  | 0 => fun hf => by cases hf
  | n + 1 => fun hf E hl hc hs => t_X5_init_59_body Z hr hin (r59 := f_X5_init_59 n) (t_X5_init_59 Z hr hin n) hf E hl hc hs
set_option maxHeartbeats 4000000 in
set_option maxRecDepth 20000 in
theorem t_X5_init {p : Program} {l : Launch} {e : Env} {s : State} {m : MethodId} {args : Array Value} {below : List Frame} {meth : Method} {c : Code} {G : zG} (Z : zF p s m args c meth cX5_init 3 RX5 G) (hr : meth.sig.returnType = none) (hin : meth.name = "<init>") {out : zHp} {a0 : Nat} {a1 : Nat} {h : zHp} {H : Heap} {locs : List Loc} {ls : Array Slot} {cells slots : Nat} (hf : f_X5_init a0 a1 h = some out) (E : zE G s h H locs) (hl : lv_has ls 3 [(0, .ref a0), (1, .ref a1)]) (hc : cells + 180 ≤ 180) (hs : slots + 1409 ≤ 1409) : W p l e rm_X5_init s m args below meth c H locs cells slots (MQ below (zQv G out) args s 180 1409 (zA G)) (F0 m 0 ls []) := by
  unfold f_X5_init at hf
  refine lv_aload_n Z.x Z.b dX5_init_0 rfl (lv_at hl 0 rfl) ?_
  refine z_obj Z E hl.1 wo_X5_3 wo_inst wo_code dX5_init_1 (by decide) (by decide) ?_
  refine lv_aload_n Z.x Z.b dX5_init_4 rfl (lv_at hl 0 rfl) ?_
  refine lv_iconst (v := 5) Z.x Z.b dX5_init_5 (by decide) ?_
  refine z_newi (N := 5) Z E wr_0 (by decide) (by decide) (by decide) (show _ ≤ 180 by omega) (show _ ≤ 1409 by omega) dX5_init_6 hf (fun q1 h2 H hf E => ?_)
  refine z_putF Z E hin p_X5_9 rfl rfl dX5_init_8 hf (fun h3 H locs hf E => ?_)
  refine lv_aload_n Z.x Z.b dX5_init_11 rfl (lv_at hl 0 rfl) ?_
  refine lv_bipush (v := 48) Z.x Z.b dX5_init_12 (by decide) ?_
  refine z_newR (kd := 2) (N := 48) Z E rfl wk_X5_15 Z.AO.1 (by decide) (by decide) (by decide) (show _ ≤ 180 by omega) (show _ ≤ 1409 by omega) dX5_init_14 hf (fun q4 h5 H hf E => ?_)
  refine z_putF Z E hin p_X5_17 rfl rfl dX5_init_17 hf (fun h6 H locs hf E => ?_)
  refine lv_aload_n Z.x Z.b dX5_init_20 rfl (lv_at hl 0 rfl) ?_
  refine lv_bipush (v := 12) Z.x Z.b dX5_init_21 (by decide) ?_
  refine z_newR (kd := 3) (N := 12) Z E rfl wk_X5_21 Z.AO.2.1 (by decide) (by decide) (by decide) (show _ ≤ 180 by omega) (show _ ≤ 1409 by omega) dX5_init_23 hf (fun q7 h8 H hf E => ?_)
  refine z_putF Z E hin p_X5_23 rfl rfl dX5_init_26 hf (fun h9 H locs hf E => ?_)
  refine lv_aload_n Z.x Z.b dX5_init_29 rfl (lv_at hl 0 rfl) ?_
  refine lv_iconst (v := 4) Z.x Z.b dX5_init_30 (by decide) ?_
  refine z_newR (kd := 4) (N := 4) Z E rfl wk_X5_27 Z.AO.2.2.1 (by decide) (by decide) (by decide) (show _ ≤ 180 by omega) (show _ ≤ 1409 by omega) dX5_init_31 hf (fun q10 h11 H hf E => ?_)
  refine z_putF Z E hin p_X5_29 rfl rfl dX5_init_34 hf (fun h12 H locs hf E => ?_)
  refine lv_aload_n Z.x Z.b dX5_init_37 rfl (lv_at hl 0 rfl) ?_
  refine lv_aload_n Z.x Z.b dX5_init_38 rfl (lv_at hl 1 rfl) ?_
  refine z_putF Z E hin p_X5_33 rfl rfl dX5_init_39 hf (fun h13 H locs hf E => ?_)
  refine lv_aload_n Z.x Z.b dX5_init_42 rfl (lv_at hl 0 rfl) ?_
  refine lv_iconst (v := 0) Z.x Z.b dX5_init_43 (by decide) ?_
  refine z_put Z E p_X5_37 rfl rfl dX5_init_44 hf (fun h14 H locs hf E => ?_)
  refine lv_aload_n Z.x Z.b dX5_init_47 rfl (lv_at hl 0 rfl) ?_
  refine lv_iconst (v := 0) Z.x Z.b dX5_init_48 (by decide) ?_
  refine z_put Z E p_X5_41 rfl rfl dX5_init_49 hf (fun h15 H locs hf E => ?_)
  refine lv_aload_n Z.x Z.b dX5_init_52 rfl (lv_at hl 0 rfl) ?_
  refine lv_iconst (v := 0) Z.x Z.b dX5_init_53 (by decide) ?_
  refine z_put Z E p_X5_44 rfl rfl dX5_init_54 hf (fun h16 H locs hf E => ?_)
  refine lv_iconst (v := 0) Z.x Z.b dX5_init_57 (by decide) ?_
  refine lv_istore_n (lv' := [(2, .int 0), (0, .ref a0), (1, .ref a1)]) Z.x Z.b dX5_init_58 rfl hl (by decide) rfl (fun ls hl => ?_)
  exact t_X5_init_59 Z hr hin zN hf E (lv_sub hl [1, 0] rfl) (by omega) (by omega)
set_option maxHeartbeats 4000000 in
set_option maxRecDepth 20000 in
theorem c_X5_init (l : Launch) (G : zG) (h : zHp) (h' : zHp) (a0 : Nat) (a1 : Nat) (hf : f_X5_init a0 a1 h = some h') : zMn l yX5_init cX5_init 3 rm_X5_init 180 1409 G [.ref a0, .ref a1] h h' := by
  refine Met.ofW (cc := cX5_init) (maxL := 3) (ret := none) (by decide) rfl ?_
  intro p e s m args below meth c s₁ B hml hv
  obtain ⟨rfl, hW⟩ := hv
  obtain ⟨Z, E, hr⟩ := zEnter (own := RX5) B hml rfl hW
  have hin : meth.name = "<init>" := (name_of_methodNamed B.named B.method).1
  have hl := lv_entry ([.ref a0, .ref a1]) (n := 3) (Nat.le_of_ble_eq_true rfl)
  rw [lg_entry_eq]
  generalize (lg_sl ([.ref a0, .ref a1]) ++ List.replicate (3 - (lg_sl ([.ref a0, .ref a1])).length) Slot.unset).toArray = ls at hl ⊢
  have hl : lv_has ls 3 [(0, .ref a0), (1, .ref a1)] := hl
  exact t_X5_init (out := h') Z hr hin hf E hl (by decide) (by decide)
/-! FerryCrews$History.<init>(LFerryCrews$Duties;)V -/
theorem dX1_init_0 : decode cX1_init 0 = .ok (.aload_n 0, 1) := by decide +kernel
theorem dX1_init_1 : decode cX1_init 1 = .ok (.invokespecial 3, 3) := by decide +kernel
theorem dX1_init_4 : decode cX1_init 4 = .ok (.aload_n 0, 1) := by decide +kernel
theorem dX1_init_5 : decode cX1_init 5 = .ok (.iconst 4, 1) := by decide +kernel
theorem dX1_init_6 : decode cX1_init 6 = .ok (.anewarray 9, 3) := by decide +kernel
theorem dX1_init_9 : decode cX1_init 9 = .ok (.putfield 11, 3) := by decide +kernel
theorem dX1_init_12 : decode cX1_init 12 = .ok (.iconst 0, 1) := by decide +kernel
theorem dX1_init_13 : decode cX1_init 13 = .ok (.istore_n 2, 1) := by decide +kernel
theorem dX1_init_14 : decode cX1_init 14 = .ok (.iload_n 2, 1) := by decide +kernel
theorem dX1_init_15 : decode cX1_init 15 = .ok (.iconst 4, 1) := by decide +kernel
theorem dX1_init_16 : decode cX1_init 16 = .ok (.if_icmp .ge 23, 3) := by decide +kernel
theorem dX1_init_19 : decode cX1_init 19 = .ok (.aload_n 0, 1) := by decide +kernel
theorem dX1_init_20 : decode cX1_init 20 = .ok (.getfield 11, 3) := by decide +kernel
theorem dX1_init_23 : decode cX1_init 23 = .ok (.iload_n 2, 1) := by decide +kernel
theorem dX1_init_24 : decode cX1_init 24 = .ok (.new 9, 3) := by decide +kernel
theorem dX1_init_27 : decode cX1_init 27 = .ok (.dup, 1) := by decide +kernel
theorem dX1_init_28 : decode cX1_init 28 = .ok (.aload_n 1, 1) := by decide +kernel
theorem dX1_init_29 : decode cX1_init 29 = .ok (.invokespecial 17, 3) := by decide +kernel
theorem dX1_init_32 : decode cX1_init 32 = .ok (.aastore, 1) := by decide +kernel
theorem dX1_init_33 : decode cX1_init 33 = .ok (.iinc 2 1, 3) := by decide +kernel
theorem dX1_init_36 : decode cX1_init 36 = .ok (.goto (-22), 3) := by decide +kernel
theorem dX1_init_39 : decode cX1_init 39 = .ok (.aload_n 0, 1) := by decide +kernel
theorem dX1_init_40 : decode cX1_init 40 = .ok (.iconst 0, 1) := by decide +kernel
theorem dX1_init_41 : decode cX1_init 41 = .ok (.putfield 20, 3) := by decide +kernel
theorem dX1_init_44 : decode cX1_init 44 = .ok (.return_, 1) := by decide +kernel
set_option maxRecDepth 20000 in
theorem wo_X1_3 : Cond.methodLink RX1 3 objectInit ∈ zB := List.mem_filter.mpr ⟨List.mem_of_getElem? (i := 178) (by decide +kernel), by decide +kernel⟩
set_option maxRecDepth 20000 in
theorem wk_X1_9 : Cond.classLink RX1 9 RX5 ∈ zB := List.mem_filter.mpr ⟨List.mem_of_getElem? (i := 179) (by decide +kernel), by decide +kernel⟩
set_option maxRecDepth 20000 in
theorem wf_X1_11 : Cond.fieldLink RX1 11 RX1 "states" "[LFerryCrews$State;" ∈ zB := List.mem_filter.mpr ⟨List.mem_of_getElem? (i := 182) (by decide +kernel), by decide +kernel⟩
theorem p_X1_11 : zPut RX1 11 1 0 true (.array (.object "FerryCrews$State")) := ⟨RX1, TX1, 2, tyX1, rfl, by decide, iX1, wf_X1_11, rfl, tyX1_ok, nmX1, rfl, by decide +kernel, fun _ => rfl⟩
set_option maxRecDepth 20000 in
theorem wf_X1_20 : Cond.fieldLink RX1 20 RX1 "size" "I" ∈ zB := List.mem_filter.mpr ⟨List.mem_of_getElem? (i := 183) (by decide +kernel), by decide +kernel⟩
theorem p_X1_20 : zPut RX1 20 1 1 false .int := ⟨RX1, TX1, 2, tyX1, rfl, by decide, iX1, wf_X1_20, rfl, tyX1_ok, nmX1, rfl, by decide +kernel, fun _ => rfl⟩
theorem q_X1_11 : zFld RX1 11 1 0 := ⟨RX1, TX1, 2, rfl, by decide, iX1, wf_X1_11, rfl⟩
set_option maxRecDepth 20000 in
theorem wa_X5 : Cond.instantiable RX5 8 ∈ zB := List.mem_filter.mpr ⟨List.mem_of_getElem? (i := 49) (by decide +kernel), by decide +kernel⟩
set_option maxRecDepth 20000 in
theorem wi_X5 : Cond.initialized RX5 ∈ zB := List.mem_filter.mpr ⟨List.mem_of_getElem? (i := 9) (by decide +kernel), by decide +kernel⟩
set_option maxRecDepth 20000 in
theorem wc_X5_init : Cond.code yX5_init cX5_init 3 none ∈ zB := List.mem_filter.mpr ⟨List.mem_of_getElem? (i := 52) (by decide +kernel), by decide +kernel⟩
set_option maxRecDepth 20000 in
theorem wm_X1_17 : Cond.methodLink RX1 17 yX5_init ∈ zB := List.mem_filter.mpr ⟨List.mem_of_getElem? (i := 181) (by decide +kernel), by decide +kernel⟩
theorem k_X1_17 : zCal RX1 17 yX5_init cX5_init 3 none 1 := ⟨wm_X1_17, wi_X5, wc_X5_init, by decide +kernel, by decide +kernel, by decide +kernel⟩
set_option maxRecDepth 20000 in
theorem wn_X5_init : Cond.instanceMethod yX5_init ∈ zB := List.mem_filter.mpr ⟨List.mem_of_getElem? (i := 51) (by decide +kernel), by decide +kernel⟩
def rm_X1_init : Room := { frames := 3, cells := 725, slots := 5672, locals := 63 }
set_option maxHeartbeats 4000000 in
set_option maxRecDepth 20000 in
theorem t_X1_init_14_body {p : Program} {l : Launch} {e : Env} {s : State} {m : MethodId} {args : Array Value} {below : List Frame} {meth : Method} {c : Code} {G : zG} (Z : zF p s m args c meth cX1_init 3 RX1 G) (hr : meth.sig.returnType = none) (hin : meth.name = "<init>") {out : zHp} {r14 : Nat → Nat → Int32 → zHp → Option (zHp)} (k14 : ∀ {a0 : Nat} {a1 : Nat} {a2 : Int32} {h : zHp} {H : Heap} {locs : List Loc} {ls : Array Slot} {cells slots : Nat}, r14 a0 a1 a2 h = some out → zE G s h H locs → lv_has ls 3 [(0, .ref a0), (1, .ref a1), (2, .int a2)] → ∀ {j : Nat}, a2 = nI j → j ≤ 4 → cells + ((4 - j) * 181 + 0) ≤ 725 → slots + ((4 - j) * 1417 + 0) ≤ 5672 → W p l e rm_X1_init s m args below meth c H locs cells slots (MQ below (zQv G out) args s 725 5672 (zA G)) (F0 m 14 ls [])) {a0 : Nat} {a1 : Nat} {a2 : Int32} {h : zHp} {H : Heap} {locs : List Loc} {ls : Array Slot} {cells slots : Nat} (hf : f_X1_init_14_body r14 a0 a1 a2 h = some out) (E : zE G s h H locs) (hl : lv_has ls 3 [(0, .ref a0), (1, .ref a1), (2, .int a2)]) {j : Nat} (hj : a2 = nI j) (hjM : j ≤ 4) (hc : cells + ((4 - j) * 181 + 0) ≤ 725) (hs : slots + ((4 - j) * 1417 + 0) ≤ 5672) : W p l e rm_X1_init s m args below meth c H locs cells slots (MQ below (zQv G out) args s 725 5672 (zA G)) (F0 m 14 ls []) := by
  unfold f_X1_init_14_body at hf
  refine lv_iload_n Z.x Z.b dX1_init_14 rfl (lv_at hl 2 rfl) ?_
  refine lv_iconst (v := 4) Z.x Z.b dX1_init_15 (by decide) ?_
  refine lv_icmp_ge (tgt := 39) Z.x Z.b dX1_init_16 (by decide) (fun c => ?_) (fun c => ?_)
  · have hf := zit hf c
    refine lv_aload_n Z.x Z.b dX1_init_39 rfl (lv_at hl 0 rfl) ?_
    refine lv_iconst (v := 0) Z.x Z.b dX1_init_40 (by decide) ?_
    refine z_put Z E p_X1_20 rfl rfl dX1_init_41 hf (fun h1 H locs hf E => ?_)
    refine W.widen (k := 725) (n := 5672) (by omega) (by omega) ?_
    exact z_vret Z E hr dX1_init_44 hf
  · have hf := zif_ hf c
    have hjN : j < 4 := by rcases Nat.lt_or_ge j 4 with w | w; exact w; exact absurd (by rw [hj]; exact nI_le (a := 4) (b := j) w (by omega)) c
    refine lv_aload_n Z.x Z.b dX1_init_19 rfl (lv_at hl 0 rfl) ?_
    refine z_getR Z E q_X1_11 dX1_init_20 hf (fun v2 hf => ?_)
    refine lv_iload_n Z.x Z.b dX1_init_23 rfl (lv_at hl 2 rfl) ?_
    refine z_new (ci := 5) (C := RX5) (T := TX5) (N := 8) (ty := tyX5) (fs := [.null, .null, .int 0, .int 0, .int 0, .null, .null, .null]) Z E rfl iX5 tyX5_ok wk_X1_9 wa_X5 wi_X5 (fun j hj => by rcases (show j = 0 ∨ j = 1 ∨ j = 2 ∨ j = 3 ∨ j = 4 ∨ j = 5 ∨ j = 6 ∨ j = 7 by omega) with rfl | rfl | rfl | rfl | rfl | rfl | rfl | rfl <;> rfl) (show _ ≤ 725 by omega) (show _ ≤ 5672 by omega) dX1_init_24 hf (fun q3 h4 H hf E => ?_)
    refine lv_dup Z.x Z.b dX1_init_27 rfl ?_
    refine lv_aload_n Z.x Z.b dX1_init_28 rfl (lv_at hl 1 rfl) ?_
    refine z_I (As := [.ref a1]) (mc := 180) (ms := 1409) Z E hl.1 k_X1_17 wn_X5_init rfl hf (fun h' e => c_X5_init l G h4 h' q3 a1 e) rfl rfl (Nat.le_of_ble_eq_true rfl) ⟨⟨by decide, by decide⟩, ⟨rfl, rfl⟩, (show _ ≤ 725 by omega), (show _ ≤ 5672 by omega)⟩ dX1_init_29 (fun h5 H locs hf E => ?_)
    refine z_aast (kd := 5) (ci := 5) (r := (RX5, TX5, 8)) Z E rfl rfl dX1_init_32 hf (fun h6 H locs hf E => ?_)
    refine lv_iinc (v := (a2 + 1)) (lv' := [(2, .int (a2 + 1)), (0, .ref a0), (1, .ref a1)]) Z.x Z.b dX1_init_33 hl (k := 2) rfl rfl (by decide) rfl (fun ls hl => ?_)
    refine lv_goto (tgt := 14) Z.x Z.b dX1_init_36 (by decide) ?_
    exact k14 hf E (lv_sub hl [1, 2, 0] rfl) (by rw [hj]; exact nI_1 _) (by omega) (by omega) (by omega)
theorem t_X1_init_14 {p : Program} {l : Launch} {e : Env} {s : State} {m : MethodId} {args : Array Value} {below : List Frame} {meth : Method} {c : Code} {G : zG} (Z : zF p s m args c meth cX1_init 3 RX1 G) (hr : meth.sig.returnType = none) (hin : meth.name = "<init>") {out : zHp} : ∀ (n : Nat), ∀ {a0 : Nat} {a1 : Nat} {a2 : Int32} {h : zHp} {H : Heap} {locs : List Loc} {ls : Array Slot} {cells slots : Nat}, f_X1_init_14 n a0 a1 a2 h = some out → zE G s h H locs → lv_has ls 3 [(0, .ref a0), (1, .ref a1), (2, .int a2)] → ∀ {j : Nat}, a2 = nI j → j ≤ 4 → cells + ((4 - j) * 181 + 0) ≤ 725 → slots + ((4 - j) * 1417 + 0) ≤ 5672 → W p l e rm_X1_init s m args below meth c H locs cells slots (MQ below (zQv G out) args s 725 5672 (zA G)) (F0 m 14 ls [])
  | 0 => fun hf => by cases hf
  | n + 1 => fun hf E hl {j} hj hjM hc hs => t_X1_init_14_body Z hr hin (r14 := f_X1_init_14 n) (t_X1_init_14 Z hr hin n) hf E hl hj hjM hc hs
set_option maxHeartbeats 4000000 in
set_option maxRecDepth 20000 in
theorem t_X1_init {p : Program} {l : Launch} {e : Env} {s : State} {m : MethodId} {args : Array Value} {below : List Frame} {meth : Method} {c : Code} {G : zG} (Z : zF p s m args c meth cX1_init 3 RX1 G) (hr : meth.sig.returnType = none) (hin : meth.name = "<init>") {out : zHp} {a0 : Nat} {a1 : Nat} {h : zHp} {H : Heap} {locs : List Loc} {ls : Array Slot} {cells slots : Nat} (hf : f_X1_init a0 a1 h = some out) (E : zE G s h H locs) (hl : lv_has ls 3 [(0, .ref a0), (1, .ref a1)]) (hc : cells + 725 ≤ 725) (hs : slots + 5672 ≤ 5672) : W p l e rm_X1_init s m args below meth c H locs cells slots (MQ below (zQv G out) args s 725 5672 (zA G)) (F0 m 0 ls []) := by
  unfold f_X1_init at hf
  refine lv_aload_n Z.x Z.b dX1_init_0 rfl (lv_at hl 0 rfl) ?_
  refine z_obj Z E hl.1 wo_X1_3 wo_inst wo_code dX1_init_1 (by decide) (by decide) ?_
  refine lv_aload_n Z.x Z.b dX1_init_4 rfl (lv_at hl 0 rfl) ?_
  refine lv_iconst (v := 4) Z.x Z.b dX1_init_5 (by decide) ?_
  refine z_newR (kd := 5) (N := 4) Z E rfl wk_X1_9 Z.AO.2.2.2 (by decide) (by decide) (by decide) (show _ ≤ 725 by omega) (show _ ≤ 5672 by omega) dX1_init_6 hf (fun q1 h2 H hf E => ?_)
  refine z_putF Z E hin p_X1_11 rfl rfl dX1_init_9 hf (fun h3 H locs hf E => ?_)
  refine lv_iconst (v := 0) Z.x Z.b dX1_init_12 (by decide) ?_
  refine lv_istore_n (lv' := [(2, .int 0), (0, .ref a0), (1, .ref a1)]) Z.x Z.b dX1_init_13 rfl hl (by decide) rfl (fun ls hl => ?_)
  exact t_X1_init_14 Z hr hin zN hf E (lv_sub hl [1, 2, 0] rfl) (j := 0) nI_0.symm (by omega) (by omega) (by omega)
set_option maxHeartbeats 4000000 in
set_option maxRecDepth 20000 in
theorem c_X1_init (l : Launch) (G : zG) (h : zHp) (h' : zHp) (a0 : Nat) (a1 : Nat) (hf : f_X1_init a0 a1 h = some h') : zMn l yX1_init cX1_init 3 rm_X1_init 725 5672 G [.ref a0, .ref a1] h h' := by
  refine Met.ofW (cc := cX1_init) (maxL := 3) (ret := none) (by decide) rfl ?_
  intro p e s m args below meth c s₁ B hml hv
  obtain ⟨rfl, hW⟩ := hv
  obtain ⟨Z, E, hr⟩ := zEnter (own := RX1) B hml rfl hW
  have hin : meth.name = "<init>" := (name_of_methodNamed B.named B.method).1
  have hl := lv_entry ([.ref a0, .ref a1]) (n := 3) (Nat.le_of_ble_eq_true rfl)
  rw [lg_entry_eq]
  generalize (lg_sl ([.ref a0, .ref a1]) ++ List.replicate (3 - (lg_sl ([.ref a0, .ref a1])).length) Slot.unset).toArray = ls at hl ⊢
  have hl : lv_has ls 3 [(0, .ref a0), (1, .ref a1)] := hl
  exact t_X1_init (out := h') Z hr hin hf E hl (by decide) (by decide)
/-! FerryCrews$History.dropOldest()V -/
theorem dX1_dropOldest_0 : decode cX1_dropOldest 0 = .ok (.aload_n 0, 1) := by decide +kernel
theorem dX1_dropOldest_1 : decode cX1_dropOldest 1 = .ok (.getfield 11, 3) := by decide +kernel
theorem dX1_dropOldest_4 : decode cX1_dropOldest 4 = .ok (.iconst 0, 1) := by decide +kernel
theorem dX1_dropOldest_5 : decode cX1_dropOldest 5 = .ok (.aaload, 1) := by decide +kernel
theorem dX1_dropOldest_6 : decode cX1_dropOldest 6 = .ok (.astore_n 1, 1) := by decide +kernel
theorem dX1_dropOldest_7 : decode cX1_dropOldest 7 = .ok (.iconst 1, 1) := by decide +kernel
theorem dX1_dropOldest_8 : decode cX1_dropOldest 8 = .ok (.istore_n 2, 1) := by decide +kernel
theorem dX1_dropOldest_9 : decode cX1_dropOldest 9 = .ok (.iload_n 2, 1) := by decide +kernel
theorem dX1_dropOldest_10 : decode cX1_dropOldest 10 = .ok (.iconst 4, 1) := by decide +kernel
theorem dX1_dropOldest_11 : decode cX1_dropOldest 11 = .ok (.if_icmp .ge 23, 3) := by decide +kernel
theorem dX1_dropOldest_14 : decode cX1_dropOldest 14 = .ok (.aload_n 0, 1) := by decide +kernel
theorem dX1_dropOldest_15 : decode cX1_dropOldest 15 = .ok (.getfield 11, 3) := by decide +kernel
theorem dX1_dropOldest_18 : decode cX1_dropOldest 18 = .ok (.iload_n 2, 1) := by decide +kernel
theorem dX1_dropOldest_19 : decode cX1_dropOldest 19 = .ok (.iconst 1, 1) := by decide +kernel
theorem dX1_dropOldest_20 : decode cX1_dropOldest 20 = .ok (.isub, 1) := by decide +kernel
theorem dX1_dropOldest_21 : decode cX1_dropOldest 21 = .ok (.aload_n 0, 1) := by decide +kernel
theorem dX1_dropOldest_22 : decode cX1_dropOldest 22 = .ok (.getfield 11, 3) := by decide +kernel
theorem dX1_dropOldest_25 : decode cX1_dropOldest 25 = .ok (.iload_n 2, 1) := by decide +kernel
theorem dX1_dropOldest_26 : decode cX1_dropOldest 26 = .ok (.aaload, 1) := by decide +kernel
theorem dX1_dropOldest_27 : decode cX1_dropOldest 27 = .ok (.aastore, 1) := by decide +kernel
theorem dX1_dropOldest_28 : decode cX1_dropOldest 28 = .ok (.iinc 2 1, 3) := by decide +kernel
theorem dX1_dropOldest_31 : decode cX1_dropOldest 31 = .ok (.goto (-22), 3) := by decide +kernel
theorem dX1_dropOldest_34 : decode cX1_dropOldest 34 = .ok (.aload_n 0, 1) := by decide +kernel
theorem dX1_dropOldest_35 : decode cX1_dropOldest 35 = .ok (.getfield 11, 3) := by decide +kernel
theorem dX1_dropOldest_38 : decode cX1_dropOldest 38 = .ok (.iconst 3, 1) := by decide +kernel
theorem dX1_dropOldest_39 : decode cX1_dropOldest 39 = .ok (.aload_n 1, 1) := by decide +kernel
theorem dX1_dropOldest_40 : decode cX1_dropOldest 40 = .ok (.aastore, 1) := by decide +kernel
theorem dX1_dropOldest_41 : decode cX1_dropOldest 41 = .ok (.aload_n 0, 1) := by decide +kernel
theorem dX1_dropOldest_42 : decode cX1_dropOldest 42 = .ok (.iconst 3, 1) := by decide +kernel
theorem dX1_dropOldest_43 : decode cX1_dropOldest 43 = .ok (.putfield 20, 3) := by decide +kernel
theorem dX1_dropOldest_46 : decode cX1_dropOldest 46 = .ok (.return_, 1) := by decide +kernel
def rm_X1_dropOldest : Room := { frames := 0, cells := 0, slots := 0, locals := 0 }
set_option maxHeartbeats 4000000 in
set_option maxRecDepth 20000 in
theorem t_X1_dropOldest_9_body {p : Program} {l : Launch} {e : Env} {s : State} {m : MethodId} {args : Array Value} {below : List Frame} {meth : Method} {c : Code} {G : zG} (Z : zF p s m args c meth cX1_dropOldest 3 RX1 G) (hr : meth.sig.returnType = none) {out : zHp} {r9 : Nat → Nat → Int32 → zHp → Option (zHp)} (k9 : ∀ {a0 : Nat} {a1 : Nat} {a2 : Int32} {h : zHp} {H : Heap} {locs : List Loc} {ls : Array Slot}, r9 a0 a1 a2 h = some out → zE G s h H locs → lv_has ls 3 [(0, .ref a0), (1, .ref a1), (2, .int a2)] → W p l e rm_X1_dropOldest s m args below meth c H locs 0 0 (MQ below (zQv G out) args s 0 0 (zA G)) (F0 m 9 ls [])) {a0 : Nat} {a1 : Nat} {a2 : Int32} {h : zHp} {H : Heap} {locs : List Loc} {ls : Array Slot} (hf : f_X1_dropOldest_9_body r9 a0 a1 a2 h = some out) (E : zE G s h H locs) (hl : lv_has ls 3 [(0, .ref a0), (1, .ref a1), (2, .int a2)]) : W p l e rm_X1_dropOldest s m args below meth c H locs 0 0 (MQ below (zQv G out) args s 0 0 (zA G)) (F0 m 9 ls []) := by
  unfold f_X1_dropOldest_9_body at hf
  refine lv_iload_n Z.x Z.b dX1_dropOldest_9 rfl (lv_at hl 2 rfl) ?_
  refine lv_iconst (v := 4) Z.x Z.b dX1_dropOldest_10 (by decide) ?_
  refine lv_icmp_ge (tgt := 34) Z.x Z.b dX1_dropOldest_11 (by decide) (fun c => ?_) (fun c => ?_)
  · have hf := zit hf c
    refine lv_aload_n Z.x Z.b dX1_dropOldest_34 rfl (lv_at hl 0 rfl) ?_
    refine z_getR Z E q_X1_11 dX1_dropOldest_35 hf (fun v1 hf => ?_)
    refine lv_iconst (v := 3) Z.x Z.b dX1_dropOldest_38 (by decide) ?_
    refine lv_aload_n Z.x Z.b dX1_dropOldest_39 rfl (lv_at hl 1 rfl) ?_
    refine z_aast (kd := 5) (ci := 5) (r := (RX5, TX5, 8)) Z E rfl rfl dX1_dropOldest_40 hf (fun h2 H locs hf E => ?_)
    refine lv_aload_n Z.x Z.b dX1_dropOldest_41 rfl (lv_at hl 0 rfl) ?_
    refine lv_iconst (v := 3) Z.x Z.b dX1_dropOldest_42 (by decide) ?_
    refine z_put Z E p_X1_20 rfl rfl dX1_dropOldest_43 hf (fun h3 H locs hf E => ?_)
    exact z_vret Z E hr dX1_dropOldest_46 hf
  · have hf := zif_ hf c
    refine lv_aload_n Z.x Z.b dX1_dropOldest_14 rfl (lv_at hl 0 rfl) ?_
    refine z_getR Z E q_X1_11 dX1_dropOldest_15 hf (fun v4 hf => ?_)
    refine lv_iload_n Z.x Z.b dX1_dropOldest_18 rfl (lv_at hl 2 rfl) ?_
    refine lv_iconst (v := 1) Z.x Z.b dX1_dropOldest_19 (by decide) ?_
    refine lv_isub Z.x Z.b dX1_dropOldest_20 ?_
    refine lv_aload_n Z.x Z.b dX1_dropOldest_21 rfl (lv_at hl 0 rfl) ?_
    refine z_getR Z E q_X1_11 dX1_dropOldest_22 hf (fun v5 hf => ?_)
    refine lv_iload_n Z.x Z.b dX1_dropOldest_25 rfl (lv_at hl 2 rfl) ?_
    refine z_aald (kd := 5) Z E rfl dX1_dropOldest_26 hf (fun v6 hf => ?_)
    refine z_aast (kd := 5) (ci := 5) (r := (RX5, TX5, 8)) Z E rfl rfl dX1_dropOldest_27 hf (fun h7 H locs hf E => ?_)
    refine lv_iinc (v := (a2 + 1)) (lv' := [(2, .int (a2 + 1)), (0, .ref a0), (1, .ref a1)]) Z.x Z.b dX1_dropOldest_28 hl (k := 2) rfl rfl (by decide) rfl (fun ls hl => ?_)
    refine lv_goto (tgt := 9) Z.x Z.b dX1_dropOldest_31 (by decide) ?_
    exact k9 hf E (lv_sub hl [1, 2, 0] rfl)
theorem t_X1_dropOldest_9 {p : Program} {l : Launch} {e : Env} {s : State} {m : MethodId} {args : Array Value} {below : List Frame} {meth : Method} {c : Code} {G : zG} (Z : zF p s m args c meth cX1_dropOldest 3 RX1 G) (hr : meth.sig.returnType = none) {out : zHp} : ∀ (n : Nat), ∀ {a0 : Nat} {a1 : Nat} {a2 : Int32} {h : zHp} {H : Heap} {locs : List Loc} {ls : Array Slot}, f_X1_dropOldest_9 n a0 a1 a2 h = some out → zE G s h H locs → lv_has ls 3 [(0, .ref a0), (1, .ref a1), (2, .int a2)] → W p l e rm_X1_dropOldest s m args below meth c H locs 0 0 (MQ below (zQv G out) args s 0 0 (zA G)) (F0 m 9 ls [])
  | 0 => fun hf => by cases hf
  | n + 1 => fun hf E hl => t_X1_dropOldest_9_body Z hr (r9 := f_X1_dropOldest_9 n) (t_X1_dropOldest_9 Z hr n) hf E hl
set_option maxHeartbeats 4000000 in
set_option maxRecDepth 20000 in
theorem t_X1_dropOldest {p : Program} {l : Launch} {e : Env} {s : State} {m : MethodId} {args : Array Value} {below : List Frame} {meth : Method} {c : Code} {G : zG} (Z : zF p s m args c meth cX1_dropOldest 3 RX1 G) (hr : meth.sig.returnType = none) {out : zHp} {a0 : Nat} {h : zHp} {H : Heap} {locs : List Loc} {ls : Array Slot} (hf : f_X1_dropOldest a0 h = some out) (E : zE G s h H locs) (hl : lv_has ls 3 [(0, .ref a0)]) : W p l e rm_X1_dropOldest s m args below meth c H locs 0 0 (MQ below (zQv G out) args s 0 0 (zA G)) (F0 m 0 ls []) := by
  unfold f_X1_dropOldest at hf
  refine lv_aload_n Z.x Z.b dX1_dropOldest_0 rfl (lv_at hl 0 rfl) ?_
  refine z_getR Z E q_X1_11 dX1_dropOldest_1 hf (fun v1 hf => ?_)
  refine lv_iconst (v := 0) Z.x Z.b dX1_dropOldest_4 (by decide) ?_
  refine z_aald (kd := 5) Z E rfl dX1_dropOldest_5 hf (fun v2 hf => ?_)
  refine lv_astore_n (lv' := [(1, .ref v2), (0, .ref a0)]) Z.x Z.b dX1_dropOldest_6 rfl hl (by decide) rfl (fun ls hl => ?_)
  refine lv_iconst (v := 1) Z.x Z.b dX1_dropOldest_7 (by decide) ?_
  refine lv_istore_n (lv' := [(2, .int 1), (1, .ref v2), (0, .ref a0)]) Z.x Z.b dX1_dropOldest_8 rfl hl (by decide) rfl (fun ls hl => ?_)
  exact t_X1_dropOldest_9 Z hr zN hf E (lv_sub hl [2, 1, 0] rfl)
set_option maxHeartbeats 4000000 in
set_option maxRecDepth 20000 in
theorem c_X1_dropOldest (l : Launch) (G : zG) (h : zHp) (h' : zHp) (a0 : Nat) (hf : f_X1_dropOldest a0 h = some h') : zM0 l yX1_dropOldest cX1_dropOldest 3 none rm_X1_dropOldest G [.ref a0] h (zQv G h') := by
  refine Met.ofW (cc := cX1_dropOldest) (maxL := 3) (ret := none) (by decide) rfl ?_
  intro p e s m args below meth c s₁ B hml hv
  obtain ⟨rfl, hW⟩ := hv
  obtain ⟨Z, E, hr⟩ := zEnter (own := RX1) B hml rfl hW
  have hl := lv_entry ([.ref a0]) (n := 3) (Nat.le_of_ble_eq_true rfl)
  rw [lg_entry_eq]
  generalize (lg_sl ([.ref a0]) ++ List.replicate (3 - (lg_sl ([.ref a0])).length) Slot.unset).toArray = ls at hl ⊢
  have hl : lv_has ls 3 [(0, .ref a0)] := hl
  exact t_X1_dropOldest (out := h') Z hr hf E hl
/-! FerryCrews.isWithin(III)Z -/
theorem dX7_isWithin_0 : decode cX7_isWithin 0 = .ok (.iload_n 0, 1) := by decide +kernel
theorem dX7_isWithin_1 : decode cX7_isWithin 1 = .ok (.iload_n 1, 1) := by decide +kernel
theorem dX7_isWithin_2 : decode cX7_isWithin 2 = .ok (.if_icmp .lt 12, 3) := by decide +kernel
theorem dX7_isWithin_5 : decode cX7_isWithin 5 = .ok (.iload_n 0, 1) := by decide +kernel
theorem dX7_isWithin_6 : decode cX7_isWithin 6 = .ok (.iload_n 2, 1) := by decide +kernel
theorem dX7_isWithin_7 : decode cX7_isWithin 7 = .ok (.if_icmp .gt 7, 3) := by decide +kernel
theorem dX7_isWithin_10 : decode cX7_isWithin 10 = .ok (.iconst 1, 1) := by decide +kernel
theorem dX7_isWithin_11 : decode cX7_isWithin 11 = .ok (.goto 4, 3) := by decide +kernel
theorem dX7_isWithin_14 : decode cX7_isWithin 14 = .ok (.iconst 0, 1) := by decide +kernel
theorem dX7_isWithin_15 : decode cX7_isWithin 15 = .ok (.ireturn, 1) := by decide +kernel
def rm_X7_isWithin : Room := { frames := 0, cells := 0, slots := 0, locals := 0 }
set_option maxHeartbeats 4000000 in
set_option maxRecDepth 20000 in
theorem t_X7_isWithin_14 {p : Program} {l : Launch} {e : Env} {s : State} {m : MethodId} {args : Array Value} {below : List Frame} {meth : Method} {c : Code} {G : zG} (Z : zF p s m args c meth cX7_isWithin 3 RX7 G) (hr : meth.sig.returnType = (some .boolean)) {out : Int32 × zHp} {h : zHp} {H : Heap} {locs : List Loc} {ls : Array Slot} (hf : f_X7_isWithin_14 h = some out) (E : zE G s h H locs) (hl : lv_has ls 3 []) : W p l e rm_X7_isWithin s m args below meth c H locs 0 0 (MQ below (zQi G out.1 out.2) args s 0 0 (zA G)) (F0 m 14 ls []) := by
  unfold f_X7_isWithin_14 at hf
  refine lv_iconst (v := 0) Z.x Z.b dX7_isWithin_14 (by decide) ?_
  exact z_zret Z E hr dX7_isWithin_15 hf
set_option maxHeartbeats 4000000 in
set_option maxRecDepth 20000 in
theorem t_X7_isWithin {p : Program} {l : Launch} {e : Env} {s : State} {m : MethodId} {args : Array Value} {below : List Frame} {meth : Method} {c : Code} {G : zG} (Z : zF p s m args c meth cX7_isWithin 3 RX7 G) (hr : meth.sig.returnType = (some .boolean)) {out : Int32 × zHp} {a0 : Int32} {a1 : Int32} {a2 : Int32} {h : zHp} {H : Heap} {locs : List Loc} {ls : Array Slot} (hf : f_X7_isWithin a0 a1 a2 h = some out) (E : zE G s h H locs) (hl : lv_has ls 3 [(0, .int a0), (1, .int a1), (2, .int a2)]) : W p l e rm_X7_isWithin s m args below meth c H locs 0 0 (MQ below (zQi G out.1 out.2) args s 0 0 (zA G)) (F0 m 0 ls []) := by
  unfold f_X7_isWithin at hf
  refine lv_iload_n Z.x Z.b dX7_isWithin_0 rfl (lv_at hl 0 rfl) ?_
  refine lv_iload_n Z.x Z.b dX7_isWithin_1 rfl (lv_at hl 1 rfl) ?_
  refine lv_icmp_lt (tgt := 14) Z.x Z.b dX7_isWithin_2 (by decide) (fun c => ?_) (fun c => ?_)
  · have hf := zit hf c
    exact t_X7_isWithin_14 Z hr hf E (lv_sub hl [] rfl)
  · have hf := zif_ hf c
    refine lv_iload_n Z.x Z.b dX7_isWithin_5 rfl (lv_at hl 0 rfl) ?_
    refine lv_iload_n Z.x Z.b dX7_isWithin_6 rfl (lv_at hl 2 rfl) ?_
    refine lv_icmp_gt (tgt := 14) Z.x Z.b dX7_isWithin_7 (by decide) (fun c => ?_) (fun c => ?_)
    · have hf := zit hf c
      exact t_X7_isWithin_14 Z hr hf E (lv_sub hl [] rfl)
    · have hf := zif_ hf c
      refine lv_iconst (v := 1) Z.x Z.b dX7_isWithin_10 (by decide) ?_
      refine lv_goto (tgt := 15) Z.x Z.b dX7_isWithin_11 (by decide) ?_
      exact z_zret Z E hr dX7_isWithin_15 hf
set_option maxHeartbeats 4000000 in
set_option maxRecDepth 20000 in
theorem c_X7_isWithin (l : Launch) (G : zG) (h : zHp) (h' : zHp) (a0 : Int32) (a1 : Int32) (a2 : Int32) (r : Int32) (hf : f_X7_isWithin a0 a1 a2 h = some (r, h')) : zM0 l yX7_isWithin cX7_isWithin 3 (some .boolean) rm_X7_isWithin G [.int a0, .int a1, .int a2] h (zQi G r h') := by
  refine Met.ofW (cc := cX7_isWithin) (maxL := 3) (ret := (some .boolean)) (by decide) rfl ?_
  intro p e s m args below meth c s₁ B hml hv
  obtain ⟨rfl, hW⟩ := hv
  obtain ⟨Z, E, hr⟩ := zEnter (own := RX7) B hml rfl hW
  have hl := lv_entry ([.int a0, .int a1, .int a2]) (n := 3) (Nat.le_of_ble_eq_true rfl)
  rw [lg_entry_eq]
  generalize (lg_sl ([.int a0, .int a1, .int a2]) ++ List.replicate (3 - (lg_sl ([.int a0, .int a1, .int a2])).length) Slot.unset).toArray = ls at hl ⊢
  have hl : lv_has ls 3 [(0, .int a0), (1, .int a1), (2, .int a2)] := hl
  exact t_X7_isWithin (out := (r, h')) Z hr hf E hl
/-! FerryCrews$Sailing.copyFrom(LFerryCrews$Sailing;)V -/
theorem dX4_copyFrom_0 : decode cX4_copyFrom 0 = .ok (.aload_n 0, 1) := by decide +kernel
theorem dX4_copyFrom_1 : decode cX4_copyFrom 1 = .ok (.aload_n 1, 1) := by decide +kernel
theorem dX4_copyFrom_2 : decode cX4_copyFrom 2 = .ok (.getfield 28, 3) := by decide +kernel
theorem dX4_copyFrom_5 : decode cX4_copyFrom 5 = .ok (.putfield 28, 3) := by decide +kernel
theorem dX4_copyFrom_8 : decode cX4_copyFrom 8 = .ok (.aload_n 0, 1) := by decide +kernel
theorem dX4_copyFrom_9 : decode cX4_copyFrom 9 = .ok (.aload_n 1, 1) := by decide +kernel
theorem dX4_copyFrom_10 : decode cX4_copyFrom 10 = .ok (.getfield 31, 3) := by decide +kernel
theorem dX4_copyFrom_13 : decode cX4_copyFrom 13 = .ok (.putfield 31, 3) := by decide +kernel
theorem dX4_copyFrom_16 : decode cX4_copyFrom 16 = .ok (.aload_n 0, 1) := by decide +kernel
theorem dX4_copyFrom_17 : decode cX4_copyFrom 17 = .ok (.aload_n 1, 1) := by decide +kernel
theorem dX4_copyFrom_18 : decode cX4_copyFrom 18 = .ok (.getfield 34, 3) := by decide +kernel
theorem dX4_copyFrom_21 : decode cX4_copyFrom 21 = .ok (.putfield 34, 3) := by decide +kernel
theorem dX4_copyFrom_24 : decode cX4_copyFrom 24 = .ok (.aload_n 0, 1) := by decide +kernel
theorem dX4_copyFrom_25 : decode cX4_copyFrom 25 = .ok (.aload_n 1, 1) := by decide +kernel
theorem dX4_copyFrom_26 : decode cX4_copyFrom 26 = .ok (.getfield 37, 3) := by decide +kernel
theorem dX4_copyFrom_29 : decode cX4_copyFrom 29 = .ok (.putfield 37, 3) := by decide +kernel
theorem dX4_copyFrom_32 : decode cX4_copyFrom 32 = .ok (.aload_n 0, 1) := by decide +kernel
theorem dX4_copyFrom_33 : decode cX4_copyFrom 33 = .ok (.aload_n 1, 1) := by decide +kernel
theorem dX4_copyFrom_34 : decode cX4_copyFrom 34 = .ok (.getfield 40, 3) := by decide +kernel
theorem dX4_copyFrom_37 : decode cX4_copyFrom 37 = .ok (.putfield 40, 3) := by decide +kernel
theorem dX4_copyFrom_40 : decode cX4_copyFrom 40 = .ok (.aload_n 0, 1) := by decide +kernel
theorem dX4_copyFrom_41 : decode cX4_copyFrom 41 = .ok (.aload_n 1, 1) := by decide +kernel
theorem dX4_copyFrom_42 : decode cX4_copyFrom 42 = .ok (.getfield 9, 3) := by decide +kernel
theorem dX4_copyFrom_45 : decode cX4_copyFrom 45 = .ok (.putfield 9, 3) := by decide +kernel
theorem dX4_copyFrom_48 : decode cX4_copyFrom 48 = .ok (.aload_n 1, 1) := by decide +kernel
theorem dX4_copyFrom_49 : decode cX4_copyFrom 49 = .ok (.getfield 18, 3) := by decide +kernel
theorem dX4_copyFrom_52 : decode cX4_copyFrom 52 = .ok (.iconst 0, 1) := by decide +kernel
theorem dX4_copyFrom_53 : decode cX4_copyFrom 53 = .ok (.aload_n 0, 1) := by decide +kernel
theorem dX4_copyFrom_54 : decode cX4_copyFrom 54 = .ok (.getfield 18, 3) := by decide +kernel
theorem dX4_copyFrom_57 : decode cX4_copyFrom 57 = .ok (.iconst 0, 1) := by decide +kernel
theorem dX4_copyFrom_58 : decode cX4_copyFrom 58 = .ok (.iconst 4, 1) := by decide +kernel
theorem dX4_copyFrom_59 : decode cX4_copyFrom 59 = .ok (.invokestatic 43, 3) := by decide +kernel
theorem dX4_copyFrom_62 : decode cX4_copyFrom 62 = .ok (.aload_n 1, 1) := by decide +kernel
theorem dX4_copyFrom_63 : decode cX4_copyFrom 63 = .ok (.getfield 22, 3) := by decide +kernel
theorem dX4_copyFrom_66 : decode cX4_copyFrom 66 = .ok (.iconst 0, 1) := by decide +kernel
theorem dX4_copyFrom_67 : decode cX4_copyFrom 67 = .ok (.aload_n 0, 1) := by decide +kernel
theorem dX4_copyFrom_68 : decode cX4_copyFrom 68 = .ok (.getfield 22, 3) := by decide +kernel
theorem dX4_copyFrom_71 : decode cX4_copyFrom 71 = .ok (.iconst 0, 1) := by decide +kernel
theorem dX4_copyFrom_72 : decode cX4_copyFrom 72 = .ok (.bipush 12, 2) := by decide +kernel
theorem dX4_copyFrom_74 : decode cX4_copyFrom 74 = .ok (.invokestatic 43, 3) := by decide +kernel
theorem dX4_copyFrom_77 : decode cX4_copyFrom 77 = .ok (.return_, 1) := by decide +kernel
set_option maxRecDepth 20000 in
theorem wf_X4_28 : Cond.fieldLink RX4 28 RX4 "number" "I" ∈ zB := List.mem_filter.mpr ⟨List.mem_of_getElem? (i := 71) (by decide +kernel), by decide +kernel⟩
theorem q_X4_28 : zFld RX4 28 4 0 := ⟨RX4, TX4, 9, rfl, by decide, iX4, wf_X4_28, rfl⟩
theorem p_X4_28 : zPut RX4 28 4 0 false .int := ⟨RX4, TX4, 9, tyX4, rfl, by decide, iX4, wf_X4_28, rfl, tyX4_ok, nmX4, rfl, by decide +kernel, fun _ => rfl⟩
set_option maxRecDepth 20000 in
theorem wf_X4_31 : Cond.fieldLink RX4 31 RX4 "ferry" "I" ∈ zB := List.mem_filter.mpr ⟨List.mem_of_getElem? (i := 73) (by decide +kernel), by decide +kernel⟩
theorem q_X4_31 : zFld RX4 31 4 1 := ⟨RX4, TX4, 9, rfl, by decide, iX4, wf_X4_31, rfl⟩
theorem p_X4_31 : zPut RX4 31 4 1 false .int := ⟨RX4, TX4, 9, tyX4, rfl, by decide, iX4, wf_X4_31, rfl, tyX4_ok, nmX4, rfl, by decide +kernel, fun _ => rfl⟩
set_option maxRecDepth 20000 in
theorem wf_X4_34 : Cond.fieldLink RX4 34 RX4 "start" "I" ∈ zB := List.mem_filter.mpr ⟨List.mem_of_getElem? (i := 76) (by decide +kernel), by decide +kernel⟩
theorem q_X4_34 : zFld RX4 34 4 2 := ⟨RX4, TX4, 9, rfl, by decide, iX4, wf_X4_34, rfl⟩
theorem p_X4_34 : zPut RX4 34 4 2 false .int := ⟨RX4, TX4, 9, tyX4, rfl, by decide, iX4, wf_X4_34, rfl, tyX4_ok, nmX4, rfl, by decide +kernel, fun _ => rfl⟩
set_option maxRecDepth 20000 in
theorem wf_X4_37 : Cond.fieldLink RX4 37 RX4 "end" "I" ∈ zB := List.mem_filter.mpr ⟨List.mem_of_getElem? (i := 80) (by decide +kernel), by decide +kernel⟩
theorem q_X4_37 : zFld RX4 37 4 3 := ⟨RX4, TX4, 9, rfl, by decide, iX4, wf_X4_37, rfl⟩
theorem p_X4_37 : zPut RX4 37 4 3 false .int := ⟨RX4, TX4, 9, tyX4, rfl, by decide, iX4, wf_X4_37, rfl, tyX4_ok, nmX4, rfl, by decide +kernel, fun _ => rfl⟩
set_option maxRecDepth 20000 in
theorem wf_X4_40 : Cond.fieldLink RX4 40 RX4 "set" "I" ∈ zB := List.mem_filter.mpr ⟨List.mem_of_getElem? (i := 84) (by decide +kernel), by decide +kernel⟩
theorem q_X4_40 : zFld RX4 40 4 4 := ⟨RX4, TX4, 9, rfl, by decide, iX4, wf_X4_40, rfl⟩
theorem p_X4_40 : zPut RX4 40 4 4 false .int := ⟨RX4, TX4, 9, tyX4, rfl, by decide, iX4, wf_X4_40, rfl, tyX4_ok, nmX4, rfl, by decide +kernel, fun _ => rfl⟩
theorem q_X4_9 : zFld RX4 9 4 5 := ⟨RX4, TX4, 9, rfl, by decide, iX4, wf_X4_9, rfl⟩
theorem q_X4_18 : zFld RX4 18 4 7 := ⟨RX4, TX4, 9, rfl, by decide, iX4, wf_X4_18, rfl⟩
set_option maxRecDepth 20000 in
theorem wm_X4_43 : Cond.methodLink RX4 43 arraycopyName ∈ zB := List.mem_filter.mpr ⟨List.mem_of_getElem? (i := 258) (by decide +kernel), by decide +kernel⟩
set_option maxRecDepth 20000 in
theorem wm_nat : Cond.native arraycopyName ∈ zB := List.mem_filter.mpr ⟨List.mem_of_getElem? (i := 253) (by decide +kernel), by decide +kernel⟩
set_option maxRecDepth 20000 in
theorem wm_stat : Cond.static arraycopyName ∈ zB := List.mem_filter.mpr ⟨List.mem_of_getElem? (i := 252) (by decide +kernel), by decide +kernel⟩
set_option maxRecDepth 20000 in
theorem wi_sys : Cond.initialized "java/lang/System" ∈ zB := List.mem_filter.mpr ⟨List.mem_of_getElem? (i := 16) (by decide +kernel), by decide +kernel⟩
def rm_X4_copyFrom : Room := { frames := 1, cells := 0, slots := 0, locals := 40 }
set_option maxHeartbeats 4000000 in
set_option maxRecDepth 20000 in
theorem t_X4_copyFrom {p : Program} {l : Launch} {e : Env} {s : State} {m : MethodId} {args : Array Value} {below : List Frame} {meth : Method} {c : Code} {G : zG} (Z : zF p s m args c meth cX4_copyFrom 2 RX4 G) (hr : meth.sig.returnType = none) {out : zHp} {a0 : Nat} {a1 : Nat} {h : zHp} {H : Heap} {locs : List Loc} {ls : Array Slot} (hf : f_X4_copyFrom a0 a1 h = some out) (E : zE G s h H locs) (hl : lv_has ls 2 [(0, .ref a0), (1, .ref a1)]) : W p l e rm_X4_copyFrom s m args below meth c H locs 0 0 (MQ below (zQv G out) args s 0 0 (zA G)) (F0 m 0 ls []) := by
  unfold f_X4_copyFrom at hf
  refine lv_aload_n Z.x Z.b dX4_copyFrom_0 rfl (lv_at hl 0 rfl) ?_
  refine lv_aload_n Z.x Z.b dX4_copyFrom_1 rfl (lv_at hl 1 rfl) ?_
  refine z_getI Z E q_X4_28 dX4_copyFrom_2 hf (fun v1 hf => ?_)
  refine z_put Z E p_X4_28 rfl rfl dX4_copyFrom_5 hf (fun h2 H locs hf E => ?_)
  refine lv_aload_n Z.x Z.b dX4_copyFrom_8 rfl (lv_at hl 0 rfl) ?_
  refine lv_aload_n Z.x Z.b dX4_copyFrom_9 rfl (lv_at hl 1 rfl) ?_
  refine z_getI Z E q_X4_31 dX4_copyFrom_10 hf (fun v3 hf => ?_)
  refine z_put Z E p_X4_31 rfl rfl dX4_copyFrom_13 hf (fun h4 H locs hf E => ?_)
  refine lv_aload_n Z.x Z.b dX4_copyFrom_16 rfl (lv_at hl 0 rfl) ?_
  refine lv_aload_n Z.x Z.b dX4_copyFrom_17 rfl (lv_at hl 1 rfl) ?_
  refine z_getI Z E q_X4_34 dX4_copyFrom_18 hf (fun v5 hf => ?_)
  refine z_put Z E p_X4_34 rfl rfl dX4_copyFrom_21 hf (fun h6 H locs hf E => ?_)
  refine lv_aload_n Z.x Z.b dX4_copyFrom_24 rfl (lv_at hl 0 rfl) ?_
  refine lv_aload_n Z.x Z.b dX4_copyFrom_25 rfl (lv_at hl 1 rfl) ?_
  refine z_getI Z E q_X4_37 dX4_copyFrom_26 hf (fun v7 hf => ?_)
  refine z_put Z E p_X4_37 rfl rfl dX4_copyFrom_29 hf (fun h8 H locs hf E => ?_)
  refine lv_aload_n Z.x Z.b dX4_copyFrom_32 rfl (lv_at hl 0 rfl) ?_
  refine lv_aload_n Z.x Z.b dX4_copyFrom_33 rfl (lv_at hl 1 rfl) ?_
  refine z_getI Z E q_X4_40 dX4_copyFrom_34 hf (fun v9 hf => ?_)
  refine z_put Z E p_X4_40 rfl rfl dX4_copyFrom_37 hf (fun h10 H locs hf E => ?_)
  refine lv_aload_n Z.x Z.b dX4_copyFrom_40 rfl (lv_at hl 0 rfl) ?_
  refine lv_aload_n Z.x Z.b dX4_copyFrom_41 rfl (lv_at hl 1 rfl) ?_
  refine z_getI Z E q_X4_9 dX4_copyFrom_42 hf (fun v11 hf => ?_)
  refine z_put Z E p_X4_9 rfl rfl dX4_copyFrom_45 hf (fun h12 H locs hf E => ?_)
  refine lv_aload_n Z.x Z.b dX4_copyFrom_48 rfl (lv_at hl 1 rfl) ?_
  refine z_getR Z E q_X4_18 dX4_copyFrom_49 hf (fun v13 hf => ?_)
  refine lv_iconst (v := 0) Z.x Z.b dX4_copyFrom_52 (by decide) ?_
  refine lv_aload_n Z.x Z.b dX4_copyFrom_53 rfl (lv_at hl 0 rfl) ?_
  refine z_getR Z E q_X4_18 dX4_copyFrom_54 hf (fun v14 hf => ?_)
  refine lv_iconst (v := 0) Z.x Z.b dX4_copyFrom_57 (by decide) ?_
  refine lv_iconst (v := 4) Z.x Z.b dX4_copyFrom_58 (by decide) ?_
  refine z_copy Z E hl.1 wm_X4_43 wm_nat wm_stat wi_sys (by decide) (by decide +kernel) dX4_copyFrom_59 hf (fun h15 H locs hf E => ?_)
  refine lv_aload_n Z.x Z.b dX4_copyFrom_62 rfl (lv_at hl 1 rfl) ?_
  refine z_getR Z E q_X4_22 dX4_copyFrom_63 hf (fun v16 hf => ?_)
  refine lv_iconst (v := 0) Z.x Z.b dX4_copyFrom_66 (by decide) ?_
  refine lv_aload_n Z.x Z.b dX4_copyFrom_67 rfl (lv_at hl 0 rfl) ?_
  refine z_getR Z E q_X4_22 dX4_copyFrom_68 hf (fun v17 hf => ?_)
  refine lv_iconst (v := 0) Z.x Z.b dX4_copyFrom_71 (by decide) ?_
  refine lv_bipush (v := 12) Z.x Z.b dX4_copyFrom_72 (by decide) ?_
  refine z_copy Z E hl.1 wm_X4_43 wm_nat wm_stat wi_sys (by decide) (by decide +kernel) dX4_copyFrom_74 hf (fun h18 H locs hf E => ?_)
  exact z_vret Z E hr dX4_copyFrom_77 hf
set_option maxHeartbeats 4000000 in
set_option maxRecDepth 20000 in
theorem c_X4_copyFrom (l : Launch) (G : zG) (h : zHp) (h' : zHp) (a0 : Nat) (a1 : Nat) (hf : f_X4_copyFrom a0 a1 h = some h') : zM0 l yX4_copyFrom cX4_copyFrom 2 none rm_X4_copyFrom G [.ref a0, .ref a1] h (zQv G h') := by
  refine Met.ofW (cc := cX4_copyFrom) (maxL := 2) (ret := none) (by decide) rfl ?_
  intro p e s m args below meth c s₁ B hml hv
  obtain ⟨rfl, hW⟩ := hv
  obtain ⟨Z, E, hr⟩ := zEnter (own := RX4) B hml rfl hW
  have hl := lv_entry ([.ref a0, .ref a1]) (n := 2) (Nat.le_of_ble_eq_true rfl)
  rw [lg_entry_eq]
  generalize (lg_sl ([.ref a0, .ref a1]) ++ List.replicate (2 - (lg_sl ([.ref a0, .ref a1])).length) Slot.unset).toArray = ls at hl ⊢
  have hl : lv_has ls 2 [(0, .ref a0), (1, .ref a1)] := hl
  exact t_X4_copyFrom (out := h') Z hr hf E hl
/-! FerryCrews$Member.copyFrom(LFerryCrews$Member;)V -/
theorem dX3_copyFrom_0 : decode cX3_copyFrom 0 = .ok (.aload_n 1, 1) := by decide +kernel
theorem dX3_copyFrom_1 : decode cX3_copyFrom 1 = .ok (.getfield 9, 3) := by decide +kernel
theorem dX3_copyFrom_4 : decode cX3_copyFrom 4 = .ok (.iconst 0, 1) := by decide +kernel
theorem dX3_copyFrom_5 : decode cX3_copyFrom 5 = .ok (.aload_n 0, 1) := by decide +kernel
theorem dX3_copyFrom_6 : decode cX3_copyFrom 6 = .ok (.getfield 9, 3) := by decide +kernel
theorem dX3_copyFrom_9 : decode cX3_copyFrom 9 = .ok (.iconst 0, 1) := by decide +kernel
theorem dX3_copyFrom_10 : decode cX3_copyFrom 10 = .ok (.iconst 4, 1) := by decide +kernel
theorem dX3_copyFrom_11 : decode cX3_copyFrom 11 = .ok (.invokestatic 15, 3) := by decide +kernel
theorem dX3_copyFrom_14 : decode cX3_copyFrom 14 = .ok (.aload_n 0, 1) := by decide +kernel
theorem dX3_copyFrom_15 : decode cX3_copyFrom 15 = .ok (.aload_n 1, 1) := by decide +kernel
theorem dX3_copyFrom_16 : decode cX3_copyFrom 16 = .ok (.getfield 21, 3) := by decide +kernel
theorem dX3_copyFrom_19 : decode cX3_copyFrom 19 = .ok (.putfield 21, 3) := by decide +kernel
theorem dX3_copyFrom_22 : decode cX3_copyFrom 22 = .ok (.aload_n 0, 1) := by decide +kernel
theorem dX3_copyFrom_23 : decode cX3_copyFrom 23 = .ok (.aload_n 1, 1) := by decide +kernel
theorem dX3_copyFrom_24 : decode cX3_copyFrom 24 = .ok (.getfield 25, 3) := by decide +kernel
theorem dX3_copyFrom_27 : decode cX3_copyFrom 27 = .ok (.putfield 25, 3) := by decide +kernel
theorem dX3_copyFrom_30 : decode cX3_copyFrom 30 = .ok (.return_, 1) := by decide +kernel
theorem q_X3_9 : zFld RX3 9 3 0 := ⟨RX3, TX3, 3, rfl, by decide, iX3, wf_X3_9, rfl⟩
set_option maxRecDepth 20000 in
theorem wm_X3_15 : Cond.methodLink RX3 15 arraycopyName ∈ zB := List.mem_filter.mpr ⟨List.mem_of_getElem? (i := 263) (by decide +kernel), by decide +kernel⟩
set_option maxRecDepth 20000 in
theorem wf_X3_21 : Cond.fieldLink RX3 21 RX3 "sickUntil" "I" ∈ zB := List.mem_filter.mpr ⟨List.mem_of_getElem? (i := 118) (by decide +kernel), by decide +kernel⟩
theorem q_X3_21 : zFld RX3 21 3 1 := ⟨RX3, TX3, 3, rfl, by decide, iX3, wf_X3_21, rfl⟩
theorem p_X3_21 : zPut RX3 21 3 1 false .int := ⟨RX3, TX3, 3, tyX3, rfl, by decide, iX3, wf_X3_21, rfl, tyX3_ok, nmX3, rfl, by decide +kernel, fun _ => rfl⟩
set_option maxRecDepth 20000 in
theorem wf_X3_25 : Cond.fieldLink RX3 25 RX3 "covers" "I" ∈ zB := List.mem_filter.mpr ⟨List.mem_of_getElem? (i := 121) (by decide +kernel), by decide +kernel⟩
theorem q_X3_25 : zFld RX3 25 3 2 := ⟨RX3, TX3, 3, rfl, by decide, iX3, wf_X3_25, rfl⟩
theorem p_X3_25 : zPut RX3 25 3 2 false .int := ⟨RX3, TX3, 3, tyX3, rfl, by decide, iX3, wf_X3_25, rfl, tyX3_ok, nmX3, rfl, by decide +kernel, fun _ => rfl⟩
def rm_X3_copyFrom : Room := { frames := 1, cells := 0, slots := 0, locals := 40 }
set_option maxHeartbeats 4000000 in
set_option maxRecDepth 20000 in
theorem t_X3_copyFrom {p : Program} {l : Launch} {e : Env} {s : State} {m : MethodId} {args : Array Value} {below : List Frame} {meth : Method} {c : Code} {G : zG} (Z : zF p s m args c meth cX3_copyFrom 2 RX3 G) (hr : meth.sig.returnType = none) {out : zHp} {a0 : Nat} {a1 : Nat} {h : zHp} {H : Heap} {locs : List Loc} {ls : Array Slot} (hf : f_X3_copyFrom a0 a1 h = some out) (E : zE G s h H locs) (hl : lv_has ls 2 [(0, .ref a0), (1, .ref a1)]) : W p l e rm_X3_copyFrom s m args below meth c H locs 0 0 (MQ below (zQv G out) args s 0 0 (zA G)) (F0 m 0 ls []) := by
  unfold f_X3_copyFrom at hf
  refine lv_aload_n Z.x Z.b dX3_copyFrom_0 rfl (lv_at hl 1 rfl) ?_
  refine z_getR Z E q_X3_9 dX3_copyFrom_1 hf (fun v1 hf => ?_)
  refine lv_iconst (v := 0) Z.x Z.b dX3_copyFrom_4 (by decide) ?_
  refine lv_aload_n Z.x Z.b dX3_copyFrom_5 rfl (lv_at hl 0 rfl) ?_
  refine z_getR Z E q_X3_9 dX3_copyFrom_6 hf (fun v2 hf => ?_)
  refine lv_iconst (v := 0) Z.x Z.b dX3_copyFrom_9 (by decide) ?_
  refine lv_iconst (v := 4) Z.x Z.b dX3_copyFrom_10 (by decide) ?_
  refine z_copy Z E hl.1 wm_X3_15 wm_nat wm_stat wi_sys (by decide) (by decide +kernel) dX3_copyFrom_11 hf (fun h3 H locs hf E => ?_)
  refine lv_aload_n Z.x Z.b dX3_copyFrom_14 rfl (lv_at hl 0 rfl) ?_
  refine lv_aload_n Z.x Z.b dX3_copyFrom_15 rfl (lv_at hl 1 rfl) ?_
  refine z_getI Z E q_X3_21 dX3_copyFrom_16 hf (fun v4 hf => ?_)
  refine z_put Z E p_X3_21 rfl rfl dX3_copyFrom_19 hf (fun h5 H locs hf E => ?_)
  refine lv_aload_n Z.x Z.b dX3_copyFrom_22 rfl (lv_at hl 0 rfl) ?_
  refine lv_aload_n Z.x Z.b dX3_copyFrom_23 rfl (lv_at hl 1 rfl) ?_
  refine z_getI Z E q_X3_25 dX3_copyFrom_24 hf (fun v6 hf => ?_)
  refine z_put Z E p_X3_25 rfl rfl dX3_copyFrom_27 hf (fun h7 H locs hf E => ?_)
  exact z_vret Z E hr dX3_copyFrom_30 hf
set_option maxHeartbeats 4000000 in
set_option maxRecDepth 20000 in
theorem c_X3_copyFrom (l : Launch) (G : zG) (h : zHp) (h' : zHp) (a0 : Nat) (a1 : Nat) (hf : f_X3_copyFrom a0 a1 h = some h') : zM0 l yX3_copyFrom cX3_copyFrom 2 none rm_X3_copyFrom G [.ref a0, .ref a1] h (zQv G h') := by
  refine Met.ofW (cc := cX3_copyFrom) (maxL := 2) (ret := none) (by decide) rfl ?_
  intro p e s m args below meth c s₁ B hml hv
  obtain ⟨rfl, hW⟩ := hv
  obtain ⟨Z, E, hr⟩ := zEnter (own := RX3) B hml rfl hW
  have hl := lv_entry ([.ref a0, .ref a1]) (n := 2) (Nat.le_of_ble_eq_true rfl)
  rw [lg_entry_eq]
  generalize (lg_sl ([.ref a0, .ref a1]) ++ List.replicate (2 - (lg_sl ([.ref a0, .ref a1])).length) Slot.unset).toArray = ls at hl ⊢
  have hl : lv_has ls 2 [(0, .ref a0), (1, .ref a1)] := hl
  exact t_X3_copyFrom (out := h') Z hr hf E hl
/-! FerryCrews$Ladder.copyFrom(LFerryCrews$Ladder;)V -/
theorem dX2_copyFrom_0 : decode cX2_copyFrom 0 = .ok (.aload_n 1, 1) := by decide +kernel
theorem dX2_copyFrom_1 : decode cX2_copyFrom 1 = .ok (.getfield 9, 3) := by decide +kernel
theorem dX2_copyFrom_4 : decode cX2_copyFrom 4 = .ok (.iconst 0, 1) := by decide +kernel
theorem dX2_copyFrom_5 : decode cX2_copyFrom 5 = .ok (.aload_n 0, 1) := by decide +kernel
theorem dX2_copyFrom_6 : decode cX2_copyFrom 6 = .ok (.getfield 9, 3) := by decide +kernel
theorem dX2_copyFrom_9 : decode cX2_copyFrom 9 = .ok (.iconst 0, 1) := by decide +kernel
theorem dX2_copyFrom_10 : decode cX2_copyFrom 10 = .ok (.bipush 12, 2) := by decide +kernel
theorem dX2_copyFrom_12 : decode cX2_copyFrom 12 = .ok (.invokestatic 15, 3) := by decide +kernel
theorem dX2_copyFrom_15 : decode cX2_copyFrom 15 = .ok (.aload_n 0, 1) := by decide +kernel
theorem dX2_copyFrom_16 : decode cX2_copyFrom 16 = .ok (.aload_n 1, 1) := by decide +kernel
theorem dX2_copyFrom_17 : decode cX2_copyFrom 17 = .ok (.getfield 21, 3) := by decide +kernel
theorem dX2_copyFrom_20 : decode cX2_copyFrom 20 = .ok (.putfield 21, 3) := by decide +kernel
theorem dX2_copyFrom_23 : decode cX2_copyFrom 23 = .ok (.return_, 1) := by decide +kernel
theorem q_X2_9 : zFld RX2 9 2 0 := ⟨RX2, TX2, 2, rfl, by decide, iX2, wf_X2_9, rfl⟩
set_option maxRecDepth 20000 in
theorem wm_X2_15 : Cond.methodLink RX2 15 arraycopyName ∈ zB := List.mem_filter.mpr ⟨List.mem_of_getElem? (i := 268) (by decide +kernel), by decide +kernel⟩
set_option maxRecDepth 20000 in
theorem wf_X2_21 : Cond.fieldLink RX2 21 RX2 "size" "I" ∈ zB := List.mem_filter.mpr ⟨List.mem_of_getElem? (i := 137) (by decide +kernel), by decide +kernel⟩
theorem q_X2_21 : zFld RX2 21 2 1 := ⟨RX2, TX2, 2, rfl, by decide, iX2, wf_X2_21, rfl⟩
theorem p_X2_21 : zPut RX2 21 2 1 false .int := ⟨RX2, TX2, 2, tyX2, rfl, by decide, iX2, wf_X2_21, rfl, tyX2_ok, nmX2, rfl, by decide +kernel, fun _ => rfl⟩
def rm_X2_copyFrom : Room := { frames := 1, cells := 0, slots := 0, locals := 40 }
set_option maxHeartbeats 4000000 in
set_option maxRecDepth 20000 in
theorem t_X2_copyFrom {p : Program} {l : Launch} {e : Env} {s : State} {m : MethodId} {args : Array Value} {below : List Frame} {meth : Method} {c : Code} {G : zG} (Z : zF p s m args c meth cX2_copyFrom 2 RX2 G) (hr : meth.sig.returnType = none) {out : zHp} {a0 : Nat} {a1 : Nat} {h : zHp} {H : Heap} {locs : List Loc} {ls : Array Slot} (hf : f_X2_copyFrom a0 a1 h = some out) (E : zE G s h H locs) (hl : lv_has ls 2 [(0, .ref a0), (1, .ref a1)]) : W p l e rm_X2_copyFrom s m args below meth c H locs 0 0 (MQ below (zQv G out) args s 0 0 (zA G)) (F0 m 0 ls []) := by
  unfold f_X2_copyFrom at hf
  refine lv_aload_n Z.x Z.b dX2_copyFrom_0 rfl (lv_at hl 1 rfl) ?_
  refine z_getR Z E q_X2_9 dX2_copyFrom_1 hf (fun v1 hf => ?_)
  refine lv_iconst (v := 0) Z.x Z.b dX2_copyFrom_4 (by decide) ?_
  refine lv_aload_n Z.x Z.b dX2_copyFrom_5 rfl (lv_at hl 0 rfl) ?_
  refine z_getR Z E q_X2_9 dX2_copyFrom_6 hf (fun v2 hf => ?_)
  refine lv_iconst (v := 0) Z.x Z.b dX2_copyFrom_9 (by decide) ?_
  refine lv_bipush (v := 12) Z.x Z.b dX2_copyFrom_10 (by decide) ?_
  refine z_copy Z E hl.1 wm_X2_15 wm_nat wm_stat wi_sys (by decide) (by decide +kernel) dX2_copyFrom_12 hf (fun h3 H locs hf E => ?_)
  refine lv_aload_n Z.x Z.b dX2_copyFrom_15 rfl (lv_at hl 0 rfl) ?_
  refine lv_aload_n Z.x Z.b dX2_copyFrom_16 rfl (lv_at hl 1 rfl) ?_
  refine z_getI Z E q_X2_21 dX2_copyFrom_17 hf (fun v4 hf => ?_)
  refine z_put Z E p_X2_21 rfl rfl dX2_copyFrom_20 hf (fun h5 H locs hf E => ?_)
  exact z_vret Z E hr dX2_copyFrom_23 hf
set_option maxHeartbeats 4000000 in
set_option maxRecDepth 20000 in
theorem c_X2_copyFrom (l : Launch) (G : zG) (h : zHp) (h' : zHp) (a0 : Nat) (a1 : Nat) (hf : f_X2_copyFrom a0 a1 h = some h') : zM0 l yX2_copyFrom cX2_copyFrom 2 none rm_X2_copyFrom G [.ref a0, .ref a1] h (zQv G h') := by
  refine Met.ofW (cc := cX2_copyFrom) (maxL := 2) (ret := none) (by decide) rfl ?_
  intro p e s m args below meth c s₁ B hml hv
  obtain ⟨rfl, hW⟩ := hv
  obtain ⟨Z, E, hr⟩ := zEnter (own := RX2) B hml rfl hW
  have hl := lv_entry ([.ref a0, .ref a1]) (n := 2) (Nat.le_of_ble_eq_true rfl)
  rw [lg_entry_eq]
  generalize (lg_sl ([.ref a0, .ref a1]) ++ List.replicate (2 - (lg_sl ([.ref a0, .ref a1])).length) Slot.unset).toArray = ls at hl ⊢
  have hl : lv_has ls 2 [(0, .ref a0), (1, .ref a1)] := hl
  exact t_X2_copyFrom (out := h') Z hr hf E hl
/-! FerryCrews$State.copyFrom(LFerryCrews$State;)V -/
theorem dX5_copyFrom_0 : decode cX5_copyFrom 0 = .ok (.aload_n 0, 1) := by decide +kernel
theorem dX5_copyFrom_1 : decode cX5_copyFrom 1 = .ok (.aload_n 1, 1) := by decide +kernel
theorem dX5_copyFrom_2 : decode cX5_copyFrom 2 = .ok (.getfield 37, 3) := by decide +kernel
theorem dX5_copyFrom_5 : decode cX5_copyFrom 5 = .ok (.putfield 37, 3) := by decide +kernel
theorem dX5_copyFrom_8 : decode cX5_copyFrom 8 = .ok (.aload_n 0, 1) := by decide +kernel
theorem dX5_copyFrom_9 : decode cX5_copyFrom 9 = .ok (.aload_n 1, 1) := by decide +kernel
theorem dX5_copyFrom_10 : decode cX5_copyFrom 10 = .ok (.getfield 41, 3) := by decide +kernel
theorem dX5_copyFrom_13 : decode cX5_copyFrom 13 = .ok (.putfield 41, 3) := by decide +kernel
theorem dX5_copyFrom_16 : decode cX5_copyFrom 16 = .ok (.aload_n 0, 1) := by decide +kernel
theorem dX5_copyFrom_17 : decode cX5_copyFrom 17 = .ok (.aload_n 1, 1) := by decide +kernel
theorem dX5_copyFrom_18 : decode cX5_copyFrom 18 = .ok (.getfield 44, 3) := by decide +kernel
theorem dX5_copyFrom_21 : decode cX5_copyFrom 21 = .ok (.putfield 44, 3) := by decide +kernel
theorem dX5_copyFrom_24 : decode cX5_copyFrom 24 = .ok (.aload_n 1, 1) := by decide +kernel
theorem dX5_copyFrom_25 : decode cX5_copyFrom 25 = .ok (.getfield 9, 3) := by decide +kernel
theorem dX5_copyFrom_28 : decode cX5_copyFrom 28 = .ok (.iconst 0, 1) := by decide +kernel
theorem dX5_copyFrom_29 : decode cX5_copyFrom 29 = .ok (.aload_n 0, 1) := by decide +kernel
theorem dX5_copyFrom_30 : decode cX5_copyFrom 30 = .ok (.getfield 9, 3) := by decide +kernel
theorem dX5_copyFrom_33 : decode cX5_copyFrom 33 = .ok (.iconst 0, 1) := by decide +kernel
theorem dX5_copyFrom_34 : decode cX5_copyFrom 34 = .ok (.iconst 5, 1) := by decide +kernel
theorem dX5_copyFrom_35 : decode cX5_copyFrom 35 = .ok (.invokestatic 53, 3) := by decide +kernel
theorem dX5_copyFrom_38 : decode cX5_copyFrom 38 = .ok (.iconst 0, 1) := by decide +kernel
theorem dX5_copyFrom_39 : decode cX5_copyFrom 39 = .ok (.istore_n 2, 1) := by decide +kernel
theorem dX5_copyFrom_40 : decode cX5_copyFrom 40 = .ok (.iload_n 2, 1) := by decide +kernel
theorem dX5_copyFrom_41 : decode cX5_copyFrom 41 = .ok (.bipush 48, 2) := by decide +kernel
theorem dX5_copyFrom_43 : decode cX5_copyFrom 43 = .ok (.if_icmp .ge 24, 3) := by decide +kernel
theorem dX5_copyFrom_46 : decode cX5_copyFrom 46 = .ok (.aload_n 0, 1) := by decide +kernel
theorem dX5_copyFrom_47 : decode cX5_copyFrom 47 = .ok (.getfield 17, 3) := by decide +kernel
theorem dX5_copyFrom_50 : decode cX5_copyFrom 50 = .ok (.iload_n 2, 1) := by decide +kernel
theorem dX5_copyFrom_51 : decode cX5_copyFrom 51 = .ok (.aaload, 1) := by decide +kernel
theorem dX5_copyFrom_52 : decode cX5_copyFrom 52 = .ok (.aload_n 1, 1) := by decide +kernel
theorem dX5_copyFrom_53 : decode cX5_copyFrom 53 = .ok (.getfield 17, 3) := by decide +kernel
theorem dX5_copyFrom_56 : decode cX5_copyFrom 56 = .ok (.iload_n 2, 1) := by decide +kernel
theorem dX5_copyFrom_57 : decode cX5_copyFrom 57 = .ok (.aaload, 1) := by decide +kernel
theorem dX5_copyFrom_58 : decode cX5_copyFrom 58 = .ok (.invokevirtual 59, 3) := by decide +kernel
theorem dX5_copyFrom_61 : decode cX5_copyFrom 61 = .ok (.iinc 2 1, 3) := by decide +kernel
theorem dX5_copyFrom_64 : decode cX5_copyFrom 64 = .ok (.goto (-24), 3) := by decide +kernel
theorem dX5_copyFrom_67 : decode cX5_copyFrom 67 = .ok (.iconst 0, 1) := by decide +kernel
theorem dX5_copyFrom_68 : decode cX5_copyFrom 68 = .ok (.istore_n 2, 1) := by decide +kernel
theorem dX5_copyFrom_69 : decode cX5_copyFrom 69 = .ok (.iload_n 2, 1) := by decide +kernel
theorem dX5_copyFrom_70 : decode cX5_copyFrom 70 = .ok (.bipush 12, 2) := by decide +kernel
theorem dX5_copyFrom_72 : decode cX5_copyFrom 72 = .ok (.if_icmp .ge 24, 3) := by decide +kernel
theorem dX5_copyFrom_75 : decode cX5_copyFrom 75 = .ok (.aload_n 0, 1) := by decide +kernel
theorem dX5_copyFrom_76 : decode cX5_copyFrom 76 = .ok (.getfield 23, 3) := by decide +kernel
theorem dX5_copyFrom_79 : decode cX5_copyFrom 79 = .ok (.iload_n 2, 1) := by decide +kernel
theorem dX5_copyFrom_80 : decode cX5_copyFrom 80 = .ok (.aaload, 1) := by decide +kernel
theorem dX5_copyFrom_81 : decode cX5_copyFrom 81 = .ok (.aload_n 1, 1) := by decide +kernel
theorem dX5_copyFrom_82 : decode cX5_copyFrom 82 = .ok (.getfield 23, 3) := by decide +kernel
theorem dX5_copyFrom_85 : decode cX5_copyFrom 85 = .ok (.iload_n 2, 1) := by decide +kernel
theorem dX5_copyFrom_86 : decode cX5_copyFrom 86 = .ok (.aaload, 1) := by decide +kernel
theorem dX5_copyFrom_87 : decode cX5_copyFrom 87 = .ok (.invokevirtual 63, 3) := by decide +kernel
theorem dX5_copyFrom_90 : decode cX5_copyFrom 90 = .ok (.iinc 2 1, 3) := by decide +kernel
theorem dX5_copyFrom_93 : decode cX5_copyFrom 93 = .ok (.goto (-24), 3) := by decide +kernel
theorem dX5_copyFrom_96 : decode cX5_copyFrom 96 = .ok (.iconst 0, 1) := by decide +kernel
theorem dX5_copyFrom_97 : decode cX5_copyFrom 97 = .ok (.istore_n 2, 1) := by decide +kernel
theorem dX5_copyFrom_98 : decode cX5_copyFrom 98 = .ok (.iload_n 2, 1) := by decide +kernel
theorem dX5_copyFrom_99 : decode cX5_copyFrom 99 = .ok (.iconst 4, 1) := by decide +kernel
theorem dX5_copyFrom_100 : decode cX5_copyFrom 100 = .ok (.if_icmp .ge 24, 3) := by decide +kernel
theorem dX5_copyFrom_103 : decode cX5_copyFrom 103 = .ok (.aload_n 0, 1) := by decide +kernel
theorem dX5_copyFrom_104 : decode cX5_copyFrom 104 = .ok (.getfield 29, 3) := by decide +kernel
theorem dX5_copyFrom_107 : decode cX5_copyFrom 107 = .ok (.iload_n 2, 1) := by decide +kernel
theorem dX5_copyFrom_108 : decode cX5_copyFrom 108 = .ok (.aaload, 1) := by decide +kernel
theorem dX5_copyFrom_109 : decode cX5_copyFrom 109 = .ok (.aload_n 1, 1) := by decide +kernel
theorem dX5_copyFrom_110 : decode cX5_copyFrom 110 = .ok (.getfield 29, 3) := by decide +kernel
theorem dX5_copyFrom_113 : decode cX5_copyFrom 113 = .ok (.iload_n 2, 1) := by decide +kernel
theorem dX5_copyFrom_114 : decode cX5_copyFrom 114 = .ok (.aaload, 1) := by decide +kernel
theorem dX5_copyFrom_115 : decode cX5_copyFrom 115 = .ok (.invokevirtual 66, 3) := by decide +kernel
theorem dX5_copyFrom_118 : decode cX5_copyFrom 118 = .ok (.iinc 2 1, 3) := by decide +kernel
theorem dX5_copyFrom_121 : decode cX5_copyFrom 121 = .ok (.goto (-23), 3) := by decide +kernel
theorem dX5_copyFrom_124 : decode cX5_copyFrom 124 = .ok (.return_, 1) := by decide +kernel
theorem q_X5_37 : zFld RX5 37 5 2 := ⟨RX5, TX5, 8, rfl, by decide, iX5, wf_X5_37, rfl⟩
theorem q_X5_41 : zFld RX5 41 5 3 := ⟨RX5, TX5, 8, rfl, by decide, iX5, wf_X5_41, rfl⟩
theorem q_X5_44 : zFld RX5 44 5 4 := ⟨RX5, TX5, 8, rfl, by decide, iX5, wf_X5_44, rfl⟩
set_option maxRecDepth 20000 in
theorem wm_X5_53 : Cond.methodLink RX5 53 arraycopyName ∈ zB := List.mem_filter.mpr ⟨List.mem_of_getElem? (i := 251) (by decide +kernel), by decide +kernel⟩
set_option maxRecDepth 20000 in
theorem wc_X4_copyFrom : Cond.code yX4_copyFrom cX4_copyFrom 2 none ∈ zB := List.mem_filter.mpr ⟨List.mem_of_getElem? (i := 257) (by decide +kernel), by decide +kernel⟩
set_option maxRecDepth 20000 in
theorem wm_X5_59 : Cond.methodLink RX5 59 yX4_copyFrom ∈ zB := List.mem_filter.mpr ⟨List.mem_of_getElem? (i := 254) (by decide +kernel), by decide +kernel⟩
theorem k_X5_59 : zCal RX5 59 yX4_copyFrom cX4_copyFrom 2 none 1 := ⟨wm_X5_59, wi_X4, wc_X4_copyFrom, by decide +kernel, by decide +kernel, by decide +kernel⟩
set_option maxRecDepth 20000 in
theorem wn_X4_copyFrom : Cond.instanceMethod yX4_copyFrom ∈ zB := List.mem_filter.mpr ⟨List.mem_of_getElem? (i := 255) (by decide +kernel), by decide +kernel⟩
set_option maxRecDepth 20000 in
theorem ws_X4_copyFrom : Cond.selects RX4 yX4_copyFrom yX4_copyFrom ∈ zB := List.mem_filter.mpr ⟨List.mem_of_getElem? (i := 256) (by decide +kernel), by decide +kernel⟩
theorem v_X4_copyFrom : zVir yX4_copyFrom 4 := ⟨wn_X4_copyFrom, ws_X4_copyFrom, TX4, 9, rfl⟩
set_option maxRecDepth 20000 in
theorem wc_X3_copyFrom : Cond.code yX3_copyFrom cX3_copyFrom 2 none ∈ zB := List.mem_filter.mpr ⟨List.mem_of_getElem? (i := 262) (by decide +kernel), by decide +kernel⟩
set_option maxRecDepth 20000 in
theorem wm_X5_63 : Cond.methodLink RX5 63 yX3_copyFrom ∈ zB := List.mem_filter.mpr ⟨List.mem_of_getElem? (i := 259) (by decide +kernel), by decide +kernel⟩
theorem k_X5_63 : zCal RX5 63 yX3_copyFrom cX3_copyFrom 2 none 1 := ⟨wm_X5_63, wi_X3, wc_X3_copyFrom, by decide +kernel, by decide +kernel, by decide +kernel⟩
set_option maxRecDepth 20000 in
theorem wn_X3_copyFrom : Cond.instanceMethod yX3_copyFrom ∈ zB := List.mem_filter.mpr ⟨List.mem_of_getElem? (i := 260) (by decide +kernel), by decide +kernel⟩
set_option maxRecDepth 20000 in
theorem ws_X3_copyFrom : Cond.selects RX3 yX3_copyFrom yX3_copyFrom ∈ zB := List.mem_filter.mpr ⟨List.mem_of_getElem? (i := 261) (by decide +kernel), by decide +kernel⟩
theorem v_X3_copyFrom : zVir yX3_copyFrom 3 := ⟨wn_X3_copyFrom, ws_X3_copyFrom, TX3, 3, rfl⟩
set_option maxRecDepth 20000 in
theorem wc_X2_copyFrom : Cond.code yX2_copyFrom cX2_copyFrom 2 none ∈ zB := List.mem_filter.mpr ⟨List.mem_of_getElem? (i := 267) (by decide +kernel), by decide +kernel⟩
set_option maxRecDepth 20000 in
theorem wm_X5_66 : Cond.methodLink RX5 66 yX2_copyFrom ∈ zB := List.mem_filter.mpr ⟨List.mem_of_getElem? (i := 264) (by decide +kernel), by decide +kernel⟩
theorem k_X5_66 : zCal RX5 66 yX2_copyFrom cX2_copyFrom 2 none 1 := ⟨wm_X5_66, wi_X2, wc_X2_copyFrom, by decide +kernel, by decide +kernel, by decide +kernel⟩
set_option maxRecDepth 20000 in
theorem wn_X2_copyFrom : Cond.instanceMethod yX2_copyFrom ∈ zB := List.mem_filter.mpr ⟨List.mem_of_getElem? (i := 265) (by decide +kernel), by decide +kernel⟩
set_option maxRecDepth 20000 in
theorem ws_X2_copyFrom : Cond.selects RX2 yX2_copyFrom yX2_copyFrom ∈ zB := List.mem_filter.mpr ⟨List.mem_of_getElem? (i := 266) (by decide +kernel), by decide +kernel⟩
theorem v_X2_copyFrom : zVir yX2_copyFrom 2 := ⟨wn_X2_copyFrom, ws_X2_copyFrom, TX2, 2, rfl⟩
def rm_X5_copyFrom : Room := { frames := 2, cells := 0, slots := 0, locals := 61 }
set_option maxHeartbeats 4000000 in
set_option maxRecDepth 20000 in
theorem t_X5_copyFrom_98_body {p : Program} {l : Launch} {e : Env} {s : State} {m : MethodId} {args : Array Value} {below : List Frame} {meth : Method} {c : Code} {G : zG} (Z : zF p s m args c meth cX5_copyFrom 3 RX5 G) (hr : meth.sig.returnType = none) {out : zHp} {r98 : Nat → Nat → Int32 → zHp → Option (zHp)} (k98 : ∀ {a0 : Nat} {a1 : Nat} {a2 : Int32} {h : zHp} {H : Heap} {locs : List Loc} {ls : Array Slot}, r98 a0 a1 a2 h = some out → zE G s h H locs → lv_has ls 3 [(0, .ref a0), (1, .ref a1), (2, .int a2)] → W p l e rm_X5_copyFrom s m args below meth c H locs 0 0 (MQ below (zQv G out) args s 0 0 (zA G)) (F0 m 98 ls [])) {a0 : Nat} {a1 : Nat} {a2 : Int32} {h : zHp} {H : Heap} {locs : List Loc} {ls : Array Slot} (hf : f_X5_copyFrom_98_body r98 a0 a1 a2 h = some out) (E : zE G s h H locs) (hl : lv_has ls 3 [(0, .ref a0), (1, .ref a1), (2, .int a2)]) : W p l e rm_X5_copyFrom s m args below meth c H locs 0 0 (MQ below (zQv G out) args s 0 0 (zA G)) (F0 m 98 ls []) := by
  unfold f_X5_copyFrom_98_body at hf
  refine lv_iload_n Z.x Z.b dX5_copyFrom_98 rfl (lv_at hl 2 rfl) ?_
  refine lv_iconst (v := 4) Z.x Z.b dX5_copyFrom_99 (by decide) ?_
  refine lv_icmp_ge (tgt := 124) Z.x Z.b dX5_copyFrom_100 (by decide) (fun c => ?_) (fun c => ?_)
  · have hf := zit hf c
    exact z_vret Z E hr dX5_copyFrom_124 hf
  · have hf := zif_ hf c
    refine lv_aload_n Z.x Z.b dX5_copyFrom_103 rfl (lv_at hl 0 rfl) ?_
    refine z_getR Z E q_X5_29 dX5_copyFrom_104 hf (fun v1 hf => ?_)
    refine lv_iload_n Z.x Z.b dX5_copyFrom_107 rfl (lv_at hl 2 rfl) ?_
    refine z_aald (kd := 4) Z E rfl dX5_copyFrom_108 hf (fun v2 hf => ?_)
    refine lv_aload_n Z.x Z.b dX5_copyFrom_109 rfl (lv_at hl 1 rfl) ?_
    refine z_getR Z E q_X5_29 dX5_copyFrom_110 hf (fun v3 hf => ?_)
    refine lv_iload_n Z.x Z.b dX5_copyFrom_113 rfl (lv_at hl 2 rfl) ?_
    refine z_aald (kd := 4) Z E rfl dX5_copyFrom_114 hf (fun v4 hf => ?_)
    refine z_Vv (As := [.ref v4]) Z E hl.1 k_X5_66 v_X2_copyFrom hf (fun h' e => c_X2_copyFrom l G h h' v2 v4 e) rfl rfl (Nat.le_of_ble_eq_true rfl) (zRm_of rfl (Nat.zero_le _) (Nat.zero_le _)) dX5_copyFrom_115 (fun h5 H locs hf E => ?_)
    refine lv_iinc (v := (a2 + 1)) (lv' := [(2, .int (a2 + 1)), (0, .ref a0), (1, .ref a1)]) Z.x Z.b dX5_copyFrom_118 hl (k := 2) rfl rfl (by decide) rfl (fun ls hl => ?_)
    refine lv_goto (tgt := 98) Z.x Z.b dX5_copyFrom_121 (by decide) ?_
    exact k98 hf E (lv_sub hl [1, 2, 0] rfl)
theorem t_X5_copyFrom_98 {p : Program} {l : Launch} {e : Env} {s : State} {m : MethodId} {args : Array Value} {below : List Frame} {meth : Method} {c : Code} {G : zG} (Z : zF p s m args c meth cX5_copyFrom 3 RX5 G) (hr : meth.sig.returnType = none) {out : zHp} : ∀ (n : Nat), ∀ {a0 : Nat} {a1 : Nat} {a2 : Int32} {h : zHp} {H : Heap} {locs : List Loc} {ls : Array Slot}, f_X5_copyFrom_98 n a0 a1 a2 h = some out → zE G s h H locs → lv_has ls 3 [(0, .ref a0), (1, .ref a1), (2, .int a2)] → W p l e rm_X5_copyFrom s m args below meth c H locs 0 0 (MQ below (zQv G out) args s 0 0 (zA G)) (F0 m 98 ls [])
  | 0 => fun hf => by cases hf
  | n + 1 => fun hf E hl => t_X5_copyFrom_98_body Z hr (r98 := f_X5_copyFrom_98 n) (t_X5_copyFrom_98 Z hr n) hf E hl
set_option maxHeartbeats 4000000 in
set_option maxRecDepth 20000 in
theorem t_X5_copyFrom_69_body {p : Program} {l : Launch} {e : Env} {s : State} {m : MethodId} {args : Array Value} {below : List Frame} {meth : Method} {c : Code} {G : zG} (Z : zF p s m args c meth cX5_copyFrom 3 RX5 G) (hr : meth.sig.returnType = none) {out : zHp} {r69 : Nat → Nat → Int32 → zHp → Option (zHp)} (k69 : ∀ {a0 : Nat} {a1 : Nat} {a2 : Int32} {h : zHp} {H : Heap} {locs : List Loc} {ls : Array Slot}, r69 a0 a1 a2 h = some out → zE G s h H locs → lv_has ls 3 [(0, .ref a0), (1, .ref a1), (2, .int a2)] → W p l e rm_X5_copyFrom s m args below meth c H locs 0 0 (MQ below (zQv G out) args s 0 0 (zA G)) (F0 m 69 ls [])) {a0 : Nat} {a1 : Nat} {a2 : Int32} {h : zHp} {H : Heap} {locs : List Loc} {ls : Array Slot} (hf : f_X5_copyFrom_69_body r69 a0 a1 a2 h = some out) (E : zE G s h H locs) (hl : lv_has ls 3 [(0, .ref a0), (1, .ref a1), (2, .int a2)]) : W p l e rm_X5_copyFrom s m args below meth c H locs 0 0 (MQ below (zQv G out) args s 0 0 (zA G)) (F0 m 69 ls []) := by
  unfold f_X5_copyFrom_69_body at hf
  refine lv_iload_n Z.x Z.b dX5_copyFrom_69 rfl (lv_at hl 2 rfl) ?_
  refine lv_bipush (v := 12) Z.x Z.b dX5_copyFrom_70 (by decide) ?_
  refine lv_icmp_ge (tgt := 96) Z.x Z.b dX5_copyFrom_72 (by decide) (fun c => ?_) (fun c => ?_)
  · have hf := zit hf c
    refine lv_iconst (v := 0) Z.x Z.b dX5_copyFrom_96 (by decide) ?_
    refine lv_istore_n (lv' := [(2, .int 0), (0, .ref a0), (1, .ref a1)]) Z.x Z.b dX5_copyFrom_97 rfl hl (by decide) rfl (fun ls hl => ?_)
    exact t_X5_copyFrom_98 Z hr zN hf E (lv_sub hl [1, 2, 0] rfl)
  · have hf := zif_ hf c
    refine lv_aload_n Z.x Z.b dX5_copyFrom_75 rfl (lv_at hl 0 rfl) ?_
    refine z_getR Z E q_X5_23 dX5_copyFrom_76 hf (fun v1 hf => ?_)
    refine lv_iload_n Z.x Z.b dX5_copyFrom_79 rfl (lv_at hl 2 rfl) ?_
    refine z_aald (kd := 3) Z E rfl dX5_copyFrom_80 hf (fun v2 hf => ?_)
    refine lv_aload_n Z.x Z.b dX5_copyFrom_81 rfl (lv_at hl 1 rfl) ?_
    refine z_getR Z E q_X5_23 dX5_copyFrom_82 hf (fun v3 hf => ?_)
    refine lv_iload_n Z.x Z.b dX5_copyFrom_85 rfl (lv_at hl 2 rfl) ?_
    refine z_aald (kd := 3) Z E rfl dX5_copyFrom_86 hf (fun v4 hf => ?_)
    refine z_Vv (As := [.ref v4]) Z E hl.1 k_X5_63 v_X3_copyFrom hf (fun h' e => c_X3_copyFrom l G h h' v2 v4 e) rfl rfl (Nat.le_of_ble_eq_true rfl) (zRm_of rfl (Nat.zero_le _) (Nat.zero_le _)) dX5_copyFrom_87 (fun h5 H locs hf E => ?_)
    refine lv_iinc (v := (a2 + 1)) (lv' := [(2, .int (a2 + 1)), (0, .ref a0), (1, .ref a1)]) Z.x Z.b dX5_copyFrom_90 hl (k := 2) rfl rfl (by decide) rfl (fun ls hl => ?_)
    refine lv_goto (tgt := 69) Z.x Z.b dX5_copyFrom_93 (by decide) ?_
    exact k69 hf E (lv_sub hl [1, 2, 0] rfl)
theorem t_X5_copyFrom_69 {p : Program} {l : Launch} {e : Env} {s : State} {m : MethodId} {args : Array Value} {below : List Frame} {meth : Method} {c : Code} {G : zG} (Z : zF p s m args c meth cX5_copyFrom 3 RX5 G) (hr : meth.sig.returnType = none) {out : zHp} : ∀ (n : Nat), ∀ {a0 : Nat} {a1 : Nat} {a2 : Int32} {h : zHp} {H : Heap} {locs : List Loc} {ls : Array Slot}, f_X5_copyFrom_69 n a0 a1 a2 h = some out → zE G s h H locs → lv_has ls 3 [(0, .ref a0), (1, .ref a1), (2, .int a2)] → W p l e rm_X5_copyFrom s m args below meth c H locs 0 0 (MQ below (zQv G out) args s 0 0 (zA G)) (F0 m 69 ls [])
  | 0 => fun hf => by cases hf
  | n + 1 => fun hf E hl => t_X5_copyFrom_69_body Z hr (r69 := f_X5_copyFrom_69 n) (t_X5_copyFrom_69 Z hr n) hf E hl
set_option maxHeartbeats 4000000 in
set_option maxRecDepth 20000 in
theorem t_X5_copyFrom_40_body {p : Program} {l : Launch} {e : Env} {s : State} {m : MethodId} {args : Array Value} {below : List Frame} {meth : Method} {c : Code} {G : zG} (Z : zF p s m args c meth cX5_copyFrom 3 RX5 G) (hr : meth.sig.returnType = none) {out : zHp} {r40 : Nat → Nat → Int32 → zHp → Option (zHp)} (k40 : ∀ {a0 : Nat} {a1 : Nat} {a2 : Int32} {h : zHp} {H : Heap} {locs : List Loc} {ls : Array Slot}, r40 a0 a1 a2 h = some out → zE G s h H locs → lv_has ls 3 [(0, .ref a0), (1, .ref a1), (2, .int a2)] → W p l e rm_X5_copyFrom s m args below meth c H locs 0 0 (MQ below (zQv G out) args s 0 0 (zA G)) (F0 m 40 ls [])) {a0 : Nat} {a1 : Nat} {a2 : Int32} {h : zHp} {H : Heap} {locs : List Loc} {ls : Array Slot} (hf : f_X5_copyFrom_40_body r40 a0 a1 a2 h = some out) (E : zE G s h H locs) (hl : lv_has ls 3 [(0, .ref a0), (1, .ref a1), (2, .int a2)]) : W p l e rm_X5_copyFrom s m args below meth c H locs 0 0 (MQ below (zQv G out) args s 0 0 (zA G)) (F0 m 40 ls []) := by
  unfold f_X5_copyFrom_40_body at hf
  refine lv_iload_n Z.x Z.b dX5_copyFrom_40 rfl (lv_at hl 2 rfl) ?_
  refine lv_bipush (v := 48) Z.x Z.b dX5_copyFrom_41 (by decide) ?_
  refine lv_icmp_ge (tgt := 67) Z.x Z.b dX5_copyFrom_43 (by decide) (fun c => ?_) (fun c => ?_)
  · have hf := zit hf c
    refine lv_iconst (v := 0) Z.x Z.b dX5_copyFrom_67 (by decide) ?_
    refine lv_istore_n (lv' := [(2, .int 0), (0, .ref a0), (1, .ref a1)]) Z.x Z.b dX5_copyFrom_68 rfl hl (by decide) rfl (fun ls hl => ?_)
    exact t_X5_copyFrom_69 Z hr zN hf E (lv_sub hl [1, 2, 0] rfl)
  · have hf := zif_ hf c
    refine lv_aload_n Z.x Z.b dX5_copyFrom_46 rfl (lv_at hl 0 rfl) ?_
    refine z_getR Z E q_X5_17 dX5_copyFrom_47 hf (fun v1 hf => ?_)
    refine lv_iload_n Z.x Z.b dX5_copyFrom_50 rfl (lv_at hl 2 rfl) ?_
    refine z_aald (kd := 2) Z E rfl dX5_copyFrom_51 hf (fun v2 hf => ?_)
    refine lv_aload_n Z.x Z.b dX5_copyFrom_52 rfl (lv_at hl 1 rfl) ?_
    refine z_getR Z E q_X5_17 dX5_copyFrom_53 hf (fun v3 hf => ?_)
    refine lv_iload_n Z.x Z.b dX5_copyFrom_56 rfl (lv_at hl 2 rfl) ?_
    refine z_aald (kd := 2) Z E rfl dX5_copyFrom_57 hf (fun v4 hf => ?_)
    refine z_Vv (As := [.ref v4]) Z E hl.1 k_X5_59 v_X4_copyFrom hf (fun h' e => c_X4_copyFrom l G h h' v2 v4 e) rfl rfl (Nat.le_of_ble_eq_true rfl) (zRm_of rfl (Nat.zero_le _) (Nat.zero_le _)) dX5_copyFrom_58 (fun h5 H locs hf E => ?_)
    refine lv_iinc (v := (a2 + 1)) (lv' := [(2, .int (a2 + 1)), (0, .ref a0), (1, .ref a1)]) Z.x Z.b dX5_copyFrom_61 hl (k := 2) rfl rfl (by decide) rfl (fun ls hl => ?_)
    refine lv_goto (tgt := 40) Z.x Z.b dX5_copyFrom_64 (by decide) ?_
    exact k40 hf E (lv_sub hl [1, 2, 0] rfl)
theorem t_X5_copyFrom_40 {p : Program} {l : Launch} {e : Env} {s : State} {m : MethodId} {args : Array Value} {below : List Frame} {meth : Method} {c : Code} {G : zG} (Z : zF p s m args c meth cX5_copyFrom 3 RX5 G) (hr : meth.sig.returnType = none) {out : zHp} : ∀ (n : Nat), ∀ {a0 : Nat} {a1 : Nat} {a2 : Int32} {h : zHp} {H : Heap} {locs : List Loc} {ls : Array Slot}, f_X5_copyFrom_40 n a0 a1 a2 h = some out → zE G s h H locs → lv_has ls 3 [(0, .ref a0), (1, .ref a1), (2, .int a2)] → W p l e rm_X5_copyFrom s m args below meth c H locs 0 0 (MQ below (zQv G out) args s 0 0 (zA G)) (F0 m 40 ls [])
  | 0 => fun hf => by cases hf
  | n + 1 => fun hf E hl => t_X5_copyFrom_40_body Z hr (r40 := f_X5_copyFrom_40 n) (t_X5_copyFrom_40 Z hr n) hf E hl
set_option maxHeartbeats 4000000 in
set_option maxRecDepth 20000 in
theorem t_X5_copyFrom {p : Program} {l : Launch} {e : Env} {s : State} {m : MethodId} {args : Array Value} {below : List Frame} {meth : Method} {c : Code} {G : zG} (Z : zF p s m args c meth cX5_copyFrom 3 RX5 G) (hr : meth.sig.returnType = none) {out : zHp} {a0 : Nat} {a1 : Nat} {h : zHp} {H : Heap} {locs : List Loc} {ls : Array Slot} (hf : f_X5_copyFrom a0 a1 h = some out) (E : zE G s h H locs) (hl : lv_has ls 3 [(0, .ref a0), (1, .ref a1)]) : W p l e rm_X5_copyFrom s m args below meth c H locs 0 0 (MQ below (zQv G out) args s 0 0 (zA G)) (F0 m 0 ls []) := by
  unfold f_X5_copyFrom at hf
  refine lv_aload_n Z.x Z.b dX5_copyFrom_0 rfl (lv_at hl 0 rfl) ?_
  refine lv_aload_n Z.x Z.b dX5_copyFrom_1 rfl (lv_at hl 1 rfl) ?_
  refine z_getI Z E q_X5_37 dX5_copyFrom_2 hf (fun v1 hf => ?_)
  refine z_put Z E p_X5_37 rfl rfl dX5_copyFrom_5 hf (fun h2 H locs hf E => ?_)
  refine lv_aload_n Z.x Z.b dX5_copyFrom_8 rfl (lv_at hl 0 rfl) ?_
  refine lv_aload_n Z.x Z.b dX5_copyFrom_9 rfl (lv_at hl 1 rfl) ?_
  refine z_getI Z E q_X5_41 dX5_copyFrom_10 hf (fun v3 hf => ?_)
  refine z_put Z E p_X5_41 rfl rfl dX5_copyFrom_13 hf (fun h4 H locs hf E => ?_)
  refine lv_aload_n Z.x Z.b dX5_copyFrom_16 rfl (lv_at hl 0 rfl) ?_
  refine lv_aload_n Z.x Z.b dX5_copyFrom_17 rfl (lv_at hl 1 rfl) ?_
  refine z_getI Z E q_X5_44 dX5_copyFrom_18 hf (fun v5 hf => ?_)
  refine z_put Z E p_X5_44 rfl rfl dX5_copyFrom_21 hf (fun h6 H locs hf E => ?_)
  refine lv_aload_n Z.x Z.b dX5_copyFrom_24 rfl (lv_at hl 1 rfl) ?_
  refine z_getR Z E q_X5_9 dX5_copyFrom_25 hf (fun v7 hf => ?_)
  refine lv_iconst (v := 0) Z.x Z.b dX5_copyFrom_28 (by decide) ?_
  refine lv_aload_n Z.x Z.b dX5_copyFrom_29 rfl (lv_at hl 0 rfl) ?_
  refine z_getR Z E q_X5_9 dX5_copyFrom_30 hf (fun v8 hf => ?_)
  refine lv_iconst (v := 0) Z.x Z.b dX5_copyFrom_33 (by decide) ?_
  refine lv_iconst (v := 5) Z.x Z.b dX5_copyFrom_34 (by decide) ?_
  refine z_copy Z E hl.1 wm_X5_53 wm_nat wm_stat wi_sys (by decide) (by decide +kernel) dX5_copyFrom_35 hf (fun h9 H locs hf E => ?_)
  refine lv_iconst (v := 0) Z.x Z.b dX5_copyFrom_38 (by decide) ?_
  refine lv_istore_n (lv' := [(2, .int 0), (0, .ref a0), (1, .ref a1)]) Z.x Z.b dX5_copyFrom_39 rfl hl (by decide) rfl (fun ls hl => ?_)
  exact t_X5_copyFrom_40 Z hr zN hf E (lv_sub hl [1, 2, 0] rfl)
set_option maxHeartbeats 4000000 in
set_option maxRecDepth 20000 in
theorem c_X5_copyFrom (l : Launch) (G : zG) (h : zHp) (h' : zHp) (a0 : Nat) (a1 : Nat) (hf : f_X5_copyFrom a0 a1 h = some h') : zM0 l yX5_copyFrom cX5_copyFrom 3 none rm_X5_copyFrom G [.ref a0, .ref a1] h (zQv G h') := by
  refine Met.ofW (cc := cX5_copyFrom) (maxL := 3) (ret := none) (by decide) rfl ?_
  intro p e s m args below meth c s₁ B hml hv
  obtain ⟨rfl, hW⟩ := hv
  obtain ⟨Z, E, hr⟩ := zEnter (own := RX5) B hml rfl hW
  have hl := lv_entry ([.ref a0, .ref a1]) (n := 3) (Nat.le_of_ble_eq_true rfl)
  rw [lg_entry_eq]
  generalize (lg_sl ([.ref a0, .ref a1]) ++ List.replicate (3 - (lg_sl ([.ref a0, .ref a1])).length) Slot.unset).toArray = ls at hl ⊢
  have hl : lv_has ls 3 [(0, .ref a0), (1, .ref a1)] := hl
  exact t_X5_copyFrom (out := h') Z hr hf E hl
/-! FerryCrews$History.record(LFerryCrews$State;)V -/
theorem dX1_record_0 : decode cX1_record 0 = .ok (.aload_n 0, 1) := by decide +kernel
theorem dX1_record_1 : decode cX1_record 1 = .ok (.getfield 20, 3) := by decide +kernel
theorem dX1_record_4 : decode cX1_record 4 = .ok (.iconst 4, 1) := by decide +kernel
theorem dX1_record_5 : decode cX1_record 5 = .ok (.if_icmp .lt 7, 3) := by decide +kernel
theorem dX1_record_8 : decode cX1_record 8 = .ok (.aload_n 0, 1) := by decide +kernel
theorem dX1_record_9 : decode cX1_record 9 = .ok (.invokevirtual 24, 3) := by decide +kernel
theorem dX1_record_12 : decode cX1_record 12 = .ok (.aload_n 0, 1) := by decide +kernel
theorem dX1_record_13 : decode cX1_record 13 = .ok (.getfield 20, 3) := by decide +kernel
theorem dX1_record_16 : decode cX1_record 16 = .ok (.iconst 0, 1) := by decide +kernel
theorem dX1_record_17 : decode cX1_record 17 = .ok (.iconst 3, 1) := by decide +kernel
theorem dX1_record_18 : decode cX1_record 18 = .ok (.invokestatic 27, 3) := by decide +kernel
theorem dX1_record_21 : decode cX1_record 21 = .ok (.ifCond .eq 26, 3) := by decide +kernel
theorem dX1_record_24 : decode cX1_record 24 = .ok (.aload_n 0, 1) := by decide +kernel
theorem dX1_record_25 : decode cX1_record 25 = .ok (.getfield 11, 3) := by decide +kernel
theorem dX1_record_28 : decode cX1_record 28 = .ok (.aload_n 0, 1) := by decide +kernel
theorem dX1_record_29 : decode cX1_record 29 = .ok (.getfield 20, 3) := by decide +kernel
theorem dX1_record_32 : decode cX1_record 32 = .ok (.aaload, 1) := by decide +kernel
theorem dX1_record_33 : decode cX1_record 33 = .ok (.aload_n 1, 1) := by decide +kernel
theorem dX1_record_34 : decode cX1_record 34 = .ok (.invokevirtual 31, 3) := by decide +kernel
theorem dX1_record_37 : decode cX1_record 37 = .ok (.aload_n 0, 1) := by decide +kernel
theorem dX1_record_38 : decode cX1_record 38 = .ok (.dup, 1) := by decide +kernel
theorem dX1_record_39 : decode cX1_record 39 = .ok (.getfield 20, 3) := by decide +kernel
theorem dX1_record_42 : decode cX1_record 42 = .ok (.iconst 1, 1) := by decide +kernel
theorem dX1_record_43 : decode cX1_record 43 = .ok (.iadd, 1) := by decide +kernel
theorem dX1_record_44 : decode cX1_record 44 = .ok (.putfield 20, 3) := by decide +kernel
theorem dX1_record_47 : decode cX1_record 47 = .ok (.return_, 1) := by decide +kernel
theorem q_X1_20 : zFld RX1 20 1 1 := ⟨RX1, TX1, 2, rfl, by decide, iX1, wf_X1_20, rfl⟩
set_option maxRecDepth 20000 in
theorem wi_X1 : Cond.initialized RX1 ∈ zB := List.mem_filter.mpr ⟨List.mem_of_getElem? (i := 13) (by decide +kernel), by decide +kernel⟩
set_option maxRecDepth 20000 in
theorem wc_X1_dropOldest : Cond.code yX1_dropOldest cX1_dropOldest 3 none ∈ zB := List.mem_filter.mpr ⟨List.mem_of_getElem? (i := 526) (by decide +kernel), by decide +kernel⟩
set_option maxRecDepth 20000 in
theorem wm_X1_24 : Cond.methodLink RX1 24 yX1_dropOldest ∈ zB := List.mem_filter.mpr ⟨List.mem_of_getElem? (i := 523) (by decide +kernel), by decide +kernel⟩
theorem k_X1_24 : zCal RX1 24 yX1_dropOldest cX1_dropOldest 3 none 0 := ⟨wm_X1_24, wi_X1, wc_X1_dropOldest, by decide +kernel, by decide +kernel, by decide +kernel⟩
set_option maxRecDepth 20000 in
theorem wn_X1_dropOldest : Cond.instanceMethod yX1_dropOldest ∈ zB := List.mem_filter.mpr ⟨List.mem_of_getElem? (i := 525) (by decide +kernel), by decide +kernel⟩
set_option maxRecDepth 20000 in
theorem ws_X1_dropOldest : Cond.selects RX1 yX1_dropOldest yX1_dropOldest ∈ zB := List.mem_filter.mpr ⟨List.mem_of_getElem? (i := 4) (by decide +kernel), by decide +kernel⟩
theorem v_X1_dropOldest : zVir yX1_dropOldest 1 := ⟨wn_X1_dropOldest, ws_X1_dropOldest, TX1, 2, rfl⟩
set_option maxRecDepth 20000 in
theorem wi_X7 : Cond.initialized RX7 ∈ zB := List.mem_filter.mpr ⟨List.mem_of_getElem? (i := 7) (by decide +kernel), by decide +kernel⟩
set_option maxRecDepth 20000 in
theorem wc_X7_isWithin : Cond.code yX7_isWithin cX7_isWithin 3 (some .boolean) ∈ zB := List.mem_filter.mpr ⟨List.mem_of_getElem? (i := 297) (by decide +kernel), by decide +kernel⟩
set_option maxRecDepth 20000 in
theorem k_X1_27 : zCalN RX1 27 yX7_isWithin "FerryCrews" cX7_isWithin 3 (some .boolean) 3 := ⟨List.mem_of_getElem? (i := 527) (by decide +kernel), wi_X7, wc_X7_isWithin, by decide +kernel, by decide +kernel, by decide +kernel⟩
set_option maxRecDepth 20000 in
theorem wt_X7_isWithin : Cond.static yX7_isWithin ∈ zB := List.mem_filter.mpr ⟨List.mem_of_getElem? (i := 296) (by decide +kernel), by decide +kernel⟩
set_option maxRecDepth 20000 in
theorem wc_X5_copyFrom : Cond.code yX5_copyFrom cX5_copyFrom 3 none ∈ zB := List.mem_filter.mpr ⟨List.mem_of_getElem? (i := 250) (by decide +kernel), by decide +kernel⟩
set_option maxRecDepth 20000 in
theorem wm_X1_31 : Cond.methodLink RX1 31 yX5_copyFrom ∈ zB := List.mem_filter.mpr ⟨List.mem_of_getElem? (i := 247) (by decide +kernel), by decide +kernel⟩
theorem k_X1_31 : zCal RX1 31 yX5_copyFrom cX5_copyFrom 3 none 1 := ⟨wm_X1_31, wi_X5, wc_X5_copyFrom, by decide +kernel, by decide +kernel, by decide +kernel⟩
set_option maxRecDepth 20000 in
theorem wn_X5_copyFrom : Cond.instanceMethod yX5_copyFrom ∈ zB := List.mem_filter.mpr ⟨List.mem_of_getElem? (i := 248) (by decide +kernel), by decide +kernel⟩
set_option maxRecDepth 20000 in
theorem ws_X5_copyFrom : Cond.selects RX5 yX5_copyFrom yX5_copyFrom ∈ zB := List.mem_filter.mpr ⟨List.mem_of_getElem? (i := 249) (by decide +kernel), by decide +kernel⟩
theorem v_X5_copyFrom : zVir yX5_copyFrom 5 := ⟨wn_X5_copyFrom, ws_X5_copyFrom, TX5, 8, rfl⟩
def rm_X1_record : Room := { frames := 3, cells := 0, slots := 0, locals := 83 }
set_option maxHeartbeats 4000000 in
set_option maxRecDepth 20000 in
theorem t_X1_record_12 {p : Program} {l : Launch} {e : Env} {s : State} {m : MethodId} {args : Array Value} {below : List Frame} {meth : Method} {c : Code} {G : zG} (Z : zF p s m args c meth cX1_record 2 RX1 G) (hr : meth.sig.returnType = none) {out : zHp} {a0 : Nat} {a1 : Nat} {h : zHp} {H : Heap} {locs : List Loc} {ls : Array Slot} (hf : f_X1_record_12 a0 a1 h = some out) (E : zE G s h H locs) (hl : lv_has ls 2 [(0, .ref a0), (1, .ref a1)]) : W p l e rm_X1_record s m args below meth c H locs 0 0 (MQ below (zQv G out) args s 0 0 (zA G)) (F0 m 12 ls []) := by
  unfold f_X1_record_12 at hf
  refine lv_aload_n Z.x Z.b dX1_record_12 rfl (lv_at hl 0 rfl) ?_
  refine z_getI Z E q_X1_20 dX1_record_13 hf (fun v1 hf => ?_)
  refine lv_iconst (v := 0) Z.x Z.b dX1_record_16 (by decide) ?_
  refine lv_iconst (v := 3) Z.x Z.b dX1_record_17 (by decide) ?_
  refine z_SNi (As := [.int v1, .int 0, .int 3]) Z E hl.1 k_X1_27 wt_X7_isWithin hf (fun r h' e => c_X7_isWithin l G h h' v1 0 3 r e) rfl rfl (Nat.le_of_ble_eq_true rfl) (zRm_of rfl (Nat.zero_le _) (Nat.zero_le _)) dX1_record_18 (fun v2 h3 H locs hf E => ?_)
  refine lv_if_eq (tgt := 47) Z.x Z.b dX1_record_21 (by decide) (fun c => ?_) (fun c => ?_)
  · have hf := zit hf c
    exact z_vret Z E hr dX1_record_47 hf
  · have hf := zif_ hf c
    refine lv_aload_n Z.x Z.b dX1_record_24 rfl (lv_at hl 0 rfl) ?_
    refine z_getR Z E q_X1_11 dX1_record_25 hf (fun v4 hf => ?_)
    refine lv_aload_n Z.x Z.b dX1_record_28 rfl (lv_at hl 0 rfl) ?_
    refine z_getI Z E q_X1_20 dX1_record_29 hf (fun v5 hf => ?_)
    refine z_aald (kd := 5) Z E rfl dX1_record_32 hf (fun v6 hf => ?_)
    refine lv_aload_n Z.x Z.b dX1_record_33 rfl (lv_at hl 1 rfl) ?_
    refine z_Vv (As := [.ref a1]) Z E hl.1 k_X1_31 v_X5_copyFrom hf (fun h' e => c_X5_copyFrom l G h3 h' v6 a1 e) rfl rfl (Nat.le_of_ble_eq_true rfl) (zRm_of rfl (Nat.zero_le _) (Nat.zero_le _)) dX1_record_34 (fun h7 H locs hf E => ?_)
    refine lv_aload_n Z.x Z.b dX1_record_37 rfl (lv_at hl 0 rfl) ?_
    refine lv_dup Z.x Z.b dX1_record_38 rfl ?_
    refine z_getI Z E q_X1_20 dX1_record_39 hf (fun v8 hf => ?_)
    refine lv_iconst (v := 1) Z.x Z.b dX1_record_42 (by decide) ?_
    refine lv_iadd Z.x Z.b dX1_record_43 ?_
    refine z_put Z E p_X1_20 rfl rfl dX1_record_44 hf (fun h9 H locs hf E => ?_)
    exact z_vret Z E hr dX1_record_47 hf
set_option maxHeartbeats 4000000 in
set_option maxRecDepth 20000 in
theorem t_X1_record {p : Program} {l : Launch} {e : Env} {s : State} {m : MethodId} {args : Array Value} {below : List Frame} {meth : Method} {c : Code} {G : zG} (Z : zF p s m args c meth cX1_record 2 RX1 G) (hr : meth.sig.returnType = none) {out : zHp} {a0 : Nat} {a1 : Nat} {h : zHp} {H : Heap} {locs : List Loc} {ls : Array Slot} (hf : f_X1_record a0 a1 h = some out) (E : zE G s h H locs) (hl : lv_has ls 2 [(0, .ref a0), (1, .ref a1)]) : W p l e rm_X1_record s m args below meth c H locs 0 0 (MQ below (zQv G out) args s 0 0 (zA G)) (F0 m 0 ls []) := by
  unfold f_X1_record at hf
  refine lv_aload_n Z.x Z.b dX1_record_0 rfl (lv_at hl 0 rfl) ?_
  refine z_getI Z E q_X1_20 dX1_record_1 hf (fun v1 hf => ?_)
  refine lv_iconst (v := 4) Z.x Z.b dX1_record_4 (by decide) ?_
  refine lv_icmp_lt (tgt := 12) Z.x Z.b dX1_record_5 (by decide) (fun c => ?_) (fun c => ?_)
  · have hf := zit hf c
    exact t_X1_record_12 Z hr hf E (lv_sub hl [0, 1] rfl)
  · have hf := zif_ hf c
    refine lv_aload_n Z.x Z.b dX1_record_8 rfl (lv_at hl 0 rfl) ?_
    refine z_Vv (As := []) Z E hl.1 k_X1_24 v_X1_dropOldest hf (fun h' e => c_X1_dropOldest l G h h' a0 e) rfl rfl (Nat.le_of_ble_eq_true rfl) (zRm_of rfl (Nat.zero_le _) (Nat.zero_le _)) dX1_record_9 (fun h2 H locs hf E => ?_)
    exact t_X1_record_12 Z hr hf E (lv_sub hl [0, 1] rfl)
set_option maxHeartbeats 4000000 in
set_option maxRecDepth 20000 in
theorem c_X1_record (l : Launch) (G : zG) (h : zHp) (h' : zHp) (a0 : Nat) (a1 : Nat) (hf : f_X1_record a0 a1 h = some h') : zM0 l yX1_record cX1_record 2 none rm_X1_record G [.ref a0, .ref a1] h (zQv G h') := by
  refine Met.ofW (cc := cX1_record) (maxL := 2) (ret := none) (by decide) rfl ?_
  intro p e s m args below meth c s₁ B hml hv
  obtain ⟨rfl, hW⟩ := hv
  obtain ⟨Z, E, hr⟩ := zEnter (own := RX1) B hml rfl hW
  have hl := lv_entry ([.ref a0, .ref a1]) (n := 2) (Nat.le_of_ble_eq_true rfl)
  rw [lg_entry_eq]
  generalize (lg_sl ([.ref a0, .ref a1]) ++ List.replicate (2 - (lg_sl ([.ref a0, .ref a1])).length) Slot.unset).toArray = ls at hl ⊢
  have hl : lv_has ls 2 [(0, .ref a0), (1, .ref a1)] := hl
  exact t_X1_record (out := h') Z hr hf E hl
/-! FerryCrews$History.takeBack(LFerryCrews$State;)V -/
theorem dX1_takeBack_0 : decode cX1_takeBack 0 = .ok (.aload_n 0, 1) := by decide +kernel
theorem dX1_takeBack_1 : decode cX1_takeBack 1 = .ok (.getfield 20, 3) := by decide +kernel
theorem dX1_takeBack_4 : decode cX1_takeBack 4 = .ok (.ifCond .le 34, 3) := by decide +kernel
theorem dX1_takeBack_7 : decode cX1_takeBack 7 = .ok (.aload_n 0, 1) := by decide +kernel
theorem dX1_takeBack_8 : decode cX1_takeBack 8 = .ok (.getfield 20, 3) := by decide +kernel
theorem dX1_takeBack_11 : decode cX1_takeBack 11 = .ok (.iconst 4, 1) := by decide +kernel
theorem dX1_takeBack_12 : decode cX1_takeBack 12 = .ok (.if_icmp .gt 26, 3) := by decide +kernel
theorem dX1_takeBack_15 : decode cX1_takeBack 15 = .ok (.aload_n 0, 1) := by decide +kernel
theorem dX1_takeBack_16 : decode cX1_takeBack 16 = .ok (.dup, 1) := by decide +kernel
theorem dX1_takeBack_17 : decode cX1_takeBack 17 = .ok (.getfield 20, 3) := by decide +kernel
theorem dX1_takeBack_20 : decode cX1_takeBack 20 = .ok (.iconst 1, 1) := by decide +kernel
theorem dX1_takeBack_21 : decode cX1_takeBack 21 = .ok (.isub, 1) := by decide +kernel
theorem dX1_takeBack_22 : decode cX1_takeBack 22 = .ok (.putfield 20, 3) := by decide +kernel
theorem dX1_takeBack_25 : decode cX1_takeBack 25 = .ok (.aload_n 1, 1) := by decide +kernel
theorem dX1_takeBack_26 : decode cX1_takeBack 26 = .ok (.aload_n 0, 1) := by decide +kernel
theorem dX1_takeBack_27 : decode cX1_takeBack 27 = .ok (.getfield 11, 3) := by decide +kernel
theorem dX1_takeBack_30 : decode cX1_takeBack 30 = .ok (.aload_n 0, 1) := by decide +kernel
theorem dX1_takeBack_31 : decode cX1_takeBack 31 = .ok (.getfield 20, 3) := by decide +kernel
theorem dX1_takeBack_34 : decode cX1_takeBack 34 = .ok (.aaload, 1) := by decide +kernel
theorem dX1_takeBack_35 : decode cX1_takeBack 35 = .ok (.invokevirtual 31, 3) := by decide +kernel
theorem dX1_takeBack_38 : decode cX1_takeBack 38 = .ok (.return_, 1) := by decide +kernel
def rm_X1_takeBack : Room := { frames := 3, cells := 0, slots := 0, locals := 83 }
set_option maxHeartbeats 4000000 in
set_option maxRecDepth 20000 in
theorem t_X1_takeBack {p : Program} {l : Launch} {e : Env} {s : State} {m : MethodId} {args : Array Value} {below : List Frame} {meth : Method} {c : Code} {G : zG} (Z : zF p s m args c meth cX1_takeBack 2 RX1 G) (hr : meth.sig.returnType = none) {out : zHp} {a0 : Nat} {a1 : Nat} {h : zHp} {H : Heap} {locs : List Loc} {ls : Array Slot} (hf : f_X1_takeBack a0 a1 h = some out) (E : zE G s h H locs) (hl : lv_has ls 2 [(0, .ref a0), (1, .ref a1)]) : W p l e rm_X1_takeBack s m args below meth c H locs 0 0 (MQ below (zQv G out) args s 0 0 (zA G)) (F0 m 0 ls []) := by
  unfold f_X1_takeBack at hf
  refine lv_aload_n Z.x Z.b dX1_takeBack_0 rfl (lv_at hl 0 rfl) ?_
  refine z_getI Z E q_X1_20 dX1_takeBack_1 hf (fun v1 hf => ?_)
  refine lv_if_le (tgt := 38) Z.x Z.b dX1_takeBack_4 (by decide) (fun c => ?_) (fun c => ?_)
  · have hf := zit hf c
    exact z_vret Z E hr dX1_takeBack_38 hf
  · have hf := zif_ hf c
    refine lv_aload_n Z.x Z.b dX1_takeBack_7 rfl (lv_at hl 0 rfl) ?_
    refine z_getI Z E q_X1_20 dX1_takeBack_8 hf (fun v2 hf => ?_)
    refine lv_iconst (v := 4) Z.x Z.b dX1_takeBack_11 (by decide) ?_
    refine lv_icmp_gt (tgt := 38) Z.x Z.b dX1_takeBack_12 (by decide) (fun c => ?_) (fun c => ?_)
    · have hf := zit hf c
      exact z_vret Z E hr dX1_takeBack_38 hf
    · have hf := zif_ hf c
      refine lv_aload_n Z.x Z.b dX1_takeBack_15 rfl (lv_at hl 0 rfl) ?_
      refine lv_dup Z.x Z.b dX1_takeBack_16 rfl ?_
      refine z_getI Z E q_X1_20 dX1_takeBack_17 hf (fun v3 hf => ?_)
      refine lv_iconst (v := 1) Z.x Z.b dX1_takeBack_20 (by decide) ?_
      refine lv_isub Z.x Z.b dX1_takeBack_21 ?_
      refine z_put Z E p_X1_20 rfl rfl dX1_takeBack_22 hf (fun h4 H locs hf E => ?_)
      refine lv_aload_n Z.x Z.b dX1_takeBack_25 rfl (lv_at hl 1 rfl) ?_
      refine lv_aload_n Z.x Z.b dX1_takeBack_26 rfl (lv_at hl 0 rfl) ?_
      refine z_getR Z E q_X1_11 dX1_takeBack_27 hf (fun v5 hf => ?_)
      refine lv_aload_n Z.x Z.b dX1_takeBack_30 rfl (lv_at hl 0 rfl) ?_
      refine z_getI Z E q_X1_20 dX1_takeBack_31 hf (fun v6 hf => ?_)
      refine z_aald (kd := 5) Z E rfl dX1_takeBack_34 hf (fun v7 hf => ?_)
      refine z_Vv (As := [.ref v7]) Z E hl.1 k_X1_31 v_X5_copyFrom hf (fun h' e => c_X5_copyFrom l G h4 h' a1 v7 e) rfl rfl (Nat.le_of_ble_eq_true rfl) (zRm_of rfl (Nat.zero_le _) (Nat.zero_le _)) dX1_takeBack_35 (fun h8 H locs hf E => ?_)
      exact z_vret Z E hr dX1_takeBack_38 hf
set_option maxHeartbeats 4000000 in
set_option maxRecDepth 20000 in
theorem c_X1_takeBack (l : Launch) (G : zG) (h : zHp) (h' : zHp) (a0 : Nat) (a1 : Nat) (hf : f_X1_takeBack a0 a1 h = some h') : zM0 l yX1_takeBack cX1_takeBack 2 none rm_X1_takeBack G [.ref a0, .ref a1] h (zQv G h') := by
  refine Met.ofW (cc := cX1_takeBack) (maxL := 2) (ret := none) (by decide) rfl ?_
  intro p e s m args below meth c s₁ B hml hv
  obtain ⟨rfl, hW⟩ := hv
  obtain ⟨Z, E, hr⟩ := zEnter (own := RX1) B hml rfl hW
  have hl := lv_entry ([.ref a0, .ref a1]) (n := 2) (Nat.le_of_ble_eq_true rfl)
  rw [lg_entry_eq]
  generalize (lg_sl ([.ref a0, .ref a1]) ++ List.replicate (2 - (lg_sl ([.ref a0, .ref a1])).length) Slot.unset).toArray = ls at hl ⊢
  have hl : lv_has ls 2 [(0, .ref a0), (1, .ref a1)] := hl
  exact t_X1_takeBack (out := h') Z hr hf E hl
