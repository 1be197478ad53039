/-! FerryCrews$State.hoursBeyond(LFerryCrews$Duties;I)I -/
theorem dX5_hoursBeyond_0 : decode cX5_hoursBeyond 0 = .ok (.sipush 168, 3) := by decide +kernel
theorem dX5_hoursBeyond_3 : decode cX5_hoursBeyond 3 = .ok (.aload_n 1, 1) := by decide +kernel
theorem dX5_hoursBeyond_4 : decode cX5_hoursBeyond 4 = .ok (.iload_n 2, 1) := by decide +kernel
theorem dX5_hoursBeyond_5 : decode cX5_hoursBeyond 5 = .ok (.sipush 168, 3) := by decide +kernel
theorem dX5_hoursBeyond_8 : decode cX5_hoursBeyond 8 = .ok (.imul, 1) := by decide +kernel
theorem dX5_hoursBeyond_9 : decode cX5_hoursBeyond 9 = .ok (.sipush 168, 3) := by decide +kernel
theorem dX5_hoursBeyond_12 : decode cX5_hoursBeyond 12 = .ok (.invokevirtual 213, 3) := by decide +kernel
theorem dX5_hoursBeyond_15 : decode cX5_hoursBeyond 15 = .ok (.isub, 1) := by decide +kernel
theorem dX5_hoursBeyond_16 : decode cX5_hoursBeyond 16 = .ok (.istore_n 3, 1) := by decide +kernel
theorem dX5_hoursBeyond_17 : decode cX5_hoursBeyond 17 = .ok (.iconst 0, 1) := by decide +kernel
theorem dX5_hoursBeyond_18 : decode cX5_hoursBeyond 18 = .ok (.iload_n 3, 1) := by decide +kernel
theorem dX5_hoursBeyond_19 : decode cX5_hoursBeyond 19 = .ok (.aload_n 0, 1) := by decide +kernel
theorem dX5_hoursBeyond_20 : decode cX5_hoursBeyond 20 = .ok (.getfield 9, 3) := by decide +kernel
theorem dX5_hoursBeyond_23 : decode cX5_hoursBeyond 23 = .ok (.iconst 4, 1) := by decide +kernel
theorem dX5_hoursBeyond_24 : decode cX5_hoursBeyond 24 = .ok (.iaload, 1) := by decide +kernel
theorem dX5_hoursBeyond_25 : decode cX5_hoursBeyond 25 = .ok (.isub, 1) := by decide +kernel
theorem dX5_hoursBeyond_26 : decode cX5_hoursBeyond 26 = .ok (.invokestatic 131, 3) := by decide +kernel
theorem dX5_hoursBeyond_29 : decode cX5_hoursBeyond 29 = .ok (.ireturn, 1) := by decide +kernel
set_option maxRecDepth 20000 in
theorem wm_X5_213 : Cond.methodLink RX5 213 yX0_restIn ∈ zB := List.mem_filter.mpr ⟨List.mem_of_getElem? (i := 726) (by decide +kernel), by decide +kernel⟩
theorem k_X5_213 : zCal RX5 213 yX0_restIn cX0_restIn 5 (some .int) 2 := ⟨wm_X5_213, wi_X0, wc_X0_restIn, by decide +kernel, by decide +kernel, by decide +kernel⟩
def rm_X5_hoursBeyond : Room := { frames := 1, cells := 0, slots := 0, locals := 24 }
set_option maxHeartbeats 4000000 in
set_option maxRecDepth 20000 in
theorem t_X5_hoursBeyond {p : Program} {l : Launch} {e : Env} {s : State} {m : MethodId} {args : Array Value} {below : List Frame} {meth : Method} {c : Code} {G : zG} (Z : zF p s m args c meth cX5_hoursBeyond 4 RX5 G) (hr : meth.sig.returnType = (some .int)) {out : Int32 × zHp} {a0 : Nat} {a1 : Nat} {a2 : Int32} {h : zHp} {H : Heap} {locs : List Loc} {ls : Array Slot} (hf : f_X5_hoursBeyond a0 a1 a2 h = some out) (E : zE G s h H locs) (hl : lv_has ls 4 [(0, .ref a0), (1, .ref a1), (2, .int a2)]) : W p l e rm_X5_hoursBeyond s m args below meth c H locs 0 0 (MQ below (zQi G out.1 out.2) args s 0 0 (zA G)) (F0 m 0 ls []) := by
  unfold f_X5_hoursBeyond at hf
  refine lv_sipush (v := 168) Z.x Z.b dX5_hoursBeyond_0 (by decide) ?_
  refine lv_aload_n Z.x Z.b dX5_hoursBeyond_3 rfl (lv_at hl 1 rfl) ?_
  refine lv_iload_n Z.x Z.b dX5_hoursBeyond_4 rfl (lv_at hl 2 rfl) ?_
  refine lv_sipush (v := 168) Z.x Z.b dX5_hoursBeyond_5 (by decide) ?_
  refine lv_imul Z.x Z.b dX5_hoursBeyond_8 ?_
  refine lv_sipush (v := 168) Z.x Z.b dX5_hoursBeyond_9 (by decide) ?_
  refine z_Vi (As := [.int (a2 * 168), .int 168]) Z E hl.1 k_X5_213 v_X0_restIn hf (fun r h' e => c_X0_restIn l G h h' a1 (a2 * 168) 168 r e) rfl rfl (Nat.le_of_ble_eq_true rfl) (zRm_of rfl (Nat.zero_le _) (Nat.zero_le _)) dX5_hoursBeyond_12 (fun v1 h2 H locs hf E => ?_)
  refine lv_isub Z.x Z.b dX5_hoursBeyond_15 ?_
  refine lv_istore_n (lv' := [(3, .int (168 - v1)), (0, .ref a0), (1, .ref a1), (2, .int a2)]) Z.x Z.b dX5_hoursBeyond_16 rfl hl (by decide) rfl (fun ls hl => ?_)
  refine lv_iconst (v := 0) Z.x Z.b dX5_hoursBeyond_17 (by decide) ?_
  refine lv_iload_n Z.x Z.b dX5_hoursBeyond_18 rfl (lv_at hl 0 rfl) ?_
  refine lv_aload_n Z.x Z.b dX5_hoursBeyond_19 rfl (lv_at hl 1 rfl) ?_
  refine z_getR Z E q_X5_9 dX5_hoursBeyond_20 hf (fun v3 hf => ?_)
  refine lv_iconst (v := 4) Z.x Z.b dX5_hoursBeyond_23 (by decide) ?_
  refine z_iald Z E dX5_hoursBeyond_24 hf (fun v4 hf => ?_)
  refine lv_isub Z.x Z.b dX5_hoursBeyond_25 ?_
  refine z_max Z hl.1 wm_X5_131 wx_stat wi_math wx_code (by decide) (by decide) (Nat.zero_le _) (Nat.zero_le _) dX5_hoursBeyond_26 ?_
  exact z_iret Z E hr dX5_hoursBeyond_29 hf
set_option maxHeartbeats 4000000 in
set_option maxRecDepth 20000 in
theorem c_X5_hoursBeyond (l : Launch) (G : zG) (h : zHp) (h' : zHp) (a0 : Nat) (a1 : Nat) (a2 : Int32) (r : Int32) (hf : f_X5_hoursBeyond a0 a1 a2 h = some (r, h')) : zM0 l yX5_hoursBeyond cX5_hoursBeyond 4 (some .int) rm_X5_hoursBeyond G [.ref a0, .ref a1, .int a2] h (zQi G r h') := by
  refine Met.ofW (cc := cX5_hoursBeyond) (maxL := 4) (ret := (some .int)) (by decide) rfl ?_
  intro p e s m args below meth c s₁ B hml hv
  obtain ⟨rfl, hW⟩ := hv
  obtain ⟨Z, E, hr⟩ := zEnter (own := RX5) B hml rfl hW
  have hl := lv_entry ([.ref a0, .ref a1, .int a2]) (n := 4) (Nat.le_of_ble_eq_true rfl)
  rw [lg_entry_eq]
  generalize (lg_sl ([.ref a0, .ref a1, .int a2]) ++ List.replicate (4 - (lg_sl ([.ref a0, .ref a1, .int a2])).length) Slot.unset).toArray = ls at hl ⊢
  have hl : lv_has ls 4 [(0, .ref a0), (1, .ref a1), (2, .int a2)] := hl
  exact t_X5_hoursBeyond (out := (r, h')) Z hr hf E hl
/-! FerryCrews$State.allHoursBeyond()I -/
theorem dX5_allHoursBeyond_0 : decode cX5_allHoursBeyond 0 = .ok (.iconst 0, 1) := by decide +kernel
theorem dX5_allHoursBeyond_1 : decode cX5_allHoursBeyond 1 = .ok (.istore_n 1, 1) := by decide +kernel
theorem dX5_allHoursBeyond_2 : decode cX5_allHoursBeyond 2 = .ok (.iconst 0, 1) := by decide +kernel
theorem dX5_allHoursBeyond_3 : decode cX5_allHoursBeyond 3 = .ok (.istore_n 2, 1) := by decide +kernel
theorem dX5_allHoursBeyond_4 : decode cX5_allHoursBeyond 4 = .ok (.iload_n 2, 1) := by decide +kernel
theorem dX5_allHoursBeyond_5 : decode cX5_allHoursBeyond 5 = .ok (.aload_n 0, 1) := by decide +kernel
theorem dX5_allHoursBeyond_6 : decode cX5_allHoursBeyond 6 = .ok (.getfield 44, 3) := by decide +kernel
theorem dX5_allHoursBeyond_9 : decode cX5_allHoursBeyond 9 = .ok (.if_icmp .ge 42, 3) := by decide +kernel
theorem dX5_allHoursBeyond_12 : decode cX5_allHoursBeyond 12 = .ok (.aload_n 0, 1) := by decide +kernel
theorem dX5_allHoursBeyond_13 : decode cX5_allHoursBeyond 13 = .ok (.iload_n 2, 1) := by decide +kernel
theorem dX5_allHoursBeyond_14 : decode cX5_allHoursBeyond 14 = .ok (.aconst_null, 1) := by decide +kernel
theorem dX5_allHoursBeyond_15 : decode cX5_allHoursBeyond 15 = .ok (.invokevirtual 147, 3) := by decide +kernel
theorem dX5_allHoursBeyond_18 : decode cX5_allHoursBeyond 18 = .ok (.astore_n 3, 1) := by decide +kernel
theorem dX5_allHoursBeyond_19 : decode cX5_allHoursBeyond 19 = .ok (.iconst 0, 1) := by decide +kernel
theorem dX5_allHoursBeyond_20 : decode cX5_allHoursBeyond 20 = .ok (.istore 4, 2) := by decide +kernel
theorem dX5_allHoursBeyond_22 : decode cX5_allHoursBeyond 22 = .ok (.iload 4, 2) := by decide +kernel
theorem dX5_allHoursBeyond_24 : decode cX5_allHoursBeyond 24 = .ok (.bipush 6, 2) := by decide +kernel
theorem dX5_allHoursBeyond_26 : decode cX5_allHoursBeyond 26 = .ok (.if_icmp .ge 19, 3) := by decide +kernel
theorem dX5_allHoursBeyond_29 : decode cX5_allHoursBeyond 29 = .ok (.iload_n 1, 1) := by decide +kernel
theorem dX5_allHoursBeyond_30 : decode cX5_allHoursBeyond 30 = .ok (.aload_n 0, 1) := by decide +kernel
theorem dX5_allHoursBeyond_31 : decode cX5_allHoursBeyond 31 = .ok (.aload_n 3, 1) := by decide +kernel
theorem dX5_allHoursBeyond_32 : decode cX5_allHoursBeyond 32 = .ok (.iload 4, 2) := by decide +kernel
theorem dX5_allHoursBeyond_34 : decode cX5_allHoursBeyond 34 = .ok (.invokevirtual 216, 3) := by decide +kernel
theorem dX5_allHoursBeyond_37 : decode cX5_allHoursBeyond 37 = .ok (.iadd, 1) := by decide +kernel
theorem dX5_allHoursBeyond_38 : decode cX5_allHoursBeyond 38 = .ok (.istore_n 1, 1) := by decide +kernel
theorem dX5_allHoursBeyond_39 : decode cX5_allHoursBeyond 39 = .ok (.iinc 4 1, 3) := by decide +kernel
theorem dX5_allHoursBeyond_42 : decode cX5_allHoursBeyond 42 = .ok (.goto (-20), 3) := by decide +kernel
theorem dX5_allHoursBeyond_45 : decode cX5_allHoursBeyond 45 = .ok (.iinc 2 1, 3) := by decide +kernel
theorem dX5_allHoursBeyond_48 : decode cX5_allHoursBeyond 48 = .ok (.goto (-44), 3) := by decide +kernel
theorem dX5_allHoursBeyond_51 : decode cX5_allHoursBeyond 51 = .ok (.iload_n 1, 1) := by decide +kernel
theorem dX5_allHoursBeyond_52 : decode cX5_allHoursBeyond 52 = .ok (.ireturn, 1) := by decide +kernel
set_option maxRecDepth 20000 in
theorem wc_X5_hoursBeyond : Cond.code yX5_hoursBeyond cX5_hoursBeyond 4 (some .int) ∈ zB := List.mem_filter.mpr ⟨List.mem_of_getElem? (i := 725) (by decide +kernel), by decide +kernel⟩
set_option maxRecDepth 20000 in
theorem wm_X5_216 : Cond.methodLink RX5 216 yX5_hoursBeyond ∈ zB := List.mem_filter.mpr ⟨List.mem_of_getElem? (i := 756) (by decide +kernel), by decide +kernel⟩
theorem k_X5_216 : zCal RX5 216 yX5_hoursBeyond cX5_hoursBeyond 4 (some .int) 2 := ⟨wm_X5_216, wi_X5, wc_X5_hoursBeyond, by decide +kernel, by decide +kernel, by decide +kernel⟩
set_option maxRecDepth 20000 in
theorem wn_X5_hoursBeyond : Cond.instanceMethod yX5_hoursBeyond ∈ zB := List.mem_filter.mpr ⟨List.mem_of_getElem? (i := 723) (by decide +kernel), by decide +kernel⟩
set_option maxRecDepth 20000 in
theorem ws_X5_hoursBeyond : Cond.selects RX5 yX5_hoursBeyond yX5_hoursBeyond ∈ zB := List.mem_filter.mpr ⟨List.mem_of_getElem? (i := 724) (by decide +kernel), by decide +kernel⟩
theorem v_X5_hoursBeyond : zVir yX5_hoursBeyond 5 := ⟨wn_X5_hoursBeyond, ws_X5_hoursBeyond, TX5, 8, rfl⟩
def rm_X5_allHoursBeyond : Room := { frames := 4, cells := 0, slots := 0, locals := 88 }
set_option maxHeartbeats 4000000 in
set_option maxRecDepth 20000 in
theorem t_X5_allHoursBeyond_22_body {p : Program} {l : Launch} {e : Env} {s : State} {m : MethodId} {args : Array Value} {below : List Frame} {meth : Method} {c : Code} {G : zG} (Z : zF p s m args c meth cX5_allHoursBeyond 5 RX5 G) (hr : meth.sig.returnType = (some .int)) {out : Int32 × zHp} {r4 : Nat → Int32 → Int32 → zHp → Option (Int32 × zHp)} (k4 : ∀ {a0 : Nat} {a1 : Int32} {a2 : Int32} {h : zHp} {H : Heap} {locs : List Loc} {ls : Array Slot}, r4 a0 a1 a2 h = some out → zE G s h H locs → lv_has ls 5 [(0, .ref a0), (1, .int a1), (2, .int a2)] → W p l e rm_X5_allHoursBeyond s m args below meth c H locs 0 0 (MQ below (zQi G out.1 out.2) args s 0 0 (zA G)) (F0 m 4 ls [])) {r22 : Nat → Int32 → Int32 → Nat → Int32 → zHp → Option (Int32 × zHp)} (k22 : ∀ {a0 : Nat} {a1 : Int32} {a2 : Int32} {a3 : Nat} {a4 : Int32} {h : zHp} {H : Heap} {locs : List Loc} {ls : Array Slot}, r22 a0 a1 a2 a3 a4 h = some out → zE G s h H locs → lv_has ls 5 [(0, .ref a0), (1, .int a1), (2, .int a2), (3, .ref a3), (4, .int a4)] → W p l e rm_X5_allHoursBeyond s m args below meth c H locs 0 0 (MQ below (zQi G out.1 out.2) args s 0 0 (zA G)) (F0 m 22 ls [])) {a0 : Nat} {a1 : Int32} {a2 : Int32} {a3 : Nat} {a4 : Int32} {h : zHp} {H : Heap} {locs : List Loc} {ls : Array Slot} (hf : f_X5_allHoursBeyond_22_body r4 r22 a0 a1 a2 a3 a4 h = some out) (E : zE G s h H locs) (hl : lv_has ls 5 [(0, .ref a0), (1, .int a1), (2, .int a2), (3, .ref a3), (4, .int a4)]) : W p l e rm_X5_allHoursBeyond s m args below meth c H locs 0 0 (MQ below (zQi G out.1 out.2) args s 0 0 (zA G)) (F0 m 22 ls []) := by
  unfold f_X5_allHoursBeyond_22_body at hf
  refine lv_iload Z.x Z.b dX5_allHoursBeyond_22 (lv_at hl 4 rfl) ?_
  refine lv_bipush (v := 6) Z.x Z.b dX5_allHoursBeyond_24 (by decide) ?_
  refine lv_icmp_ge (tgt := 45) Z.x Z.b dX5_allHoursBeyond_26 (by decide) (fun c => ?_) (fun c => ?_)
  · have hf := zit hf c
    refine lv_iinc (v := (a2 + 1)) (lv' := [(2, .int (a2 + 1)), (0, .ref a0), (1, .int a1), (3, .ref a3), (4, .int a4)]) Z.x Z.b dX5_allHoursBeyond_45 hl (k := 2) rfl rfl (by decide) rfl (fun ls hl => ?_)
    refine lv_goto (tgt := 4) Z.x Z.b dX5_allHoursBeyond_48 (by decide) ?_
    exact k4 hf E (lv_sub hl [1, 2, 0] rfl)
  · have hf := zif_ hf c
    refine lv_iload_n Z.x Z.b dX5_allHoursBeyond_29 rfl (lv_at hl 1 rfl) ?_
    refine lv_aload_n Z.x Z.b dX5_allHoursBeyond_30 rfl (lv_at hl 0 rfl) ?_
    refine lv_aload_n Z.x Z.b dX5_allHoursBeyond_31 rfl (lv_at hl 3 rfl) ?_
    refine lv_iload Z.x Z.b dX5_allHoursBeyond_32 (lv_at hl 4 rfl) ?_
    refine z_Vi (As := [.ref a3, .int a4]) Z E hl.1 k_X5_216 v_X5_hoursBeyond hf (fun r h' e => c_X5_hoursBeyond l G h h' a0 a3 a4 r e) rfl rfl (Nat.le_of_ble_eq_true rfl) (zRm_of rfl (Nat.zero_le _) (Nat.zero_le _)) dX5_allHoursBeyond_34 (fun v1 h2 H locs hf E => ?_)
    refine lv_iadd Z.x Z.b dX5_allHoursBeyond_37 ?_
    refine lv_istore_n (lv' := [(1, .int (a1 + v1)), (0, .ref a0), (2, .int a2), (3, .ref a3), (4, .int a4)]) Z.x Z.b dX5_allHoursBeyond_38 rfl hl (by decide) rfl (fun ls hl => ?_)
    refine lv_iinc (v := (a4 + 1)) (lv' := [(4, .int (a4 + 1)), (1, .int (a1 + v1)), (0, .ref a0), (2, .int a2), (3, .ref a3)]) Z.x Z.b dX5_allHoursBeyond_39 hl (k := 4) rfl rfl (by decide) rfl (fun ls hl => ?_)
    refine lv_goto (tgt := 22) Z.x Z.b dX5_allHoursBeyond_42 (by decide) ?_
    exact k22 hf E (lv_sub hl [2, 1, 3, 4, 0] rfl)
theorem t_X5_allHoursBeyond_22 {p : Program} {l : Launch} {e : Env} {s : State} {m : MethodId} {args : Array Value} {below : List Frame} {meth : Method} {c : Code} {G : zG} (Z : zF p s m args c meth cX5_allHoursBeyond 5 RX5 G) (hr : meth.sig.returnType = (some .int)) {out : Int32 × zHp} {r4 : Nat → Int32 → Int32 → zHp → Option (Int32 × zHp)} (k4 : ∀ {a0 : Nat} {a1 : Int32} {a2 : Int32} {h : zHp} {H : Heap} {locs : List Loc} {ls : Array Slot}, r4 a0 a1 a2 h = some out → zE G s h H locs → lv_has ls 5 [(0, .ref a0), (1, .int a1), (2, .int a2)] → W p l e rm_X5_allHoursBeyond s m args below meth c H locs 0 0 (MQ below (zQi G out.1 out.2) args s 0 0 (zA G)) (F0 m 4 ls [])) : ∀ (n : Nat), ∀ {a0 : Nat} {a1 : Int32} {a2 : Int32} {a3 : Nat} {a4 : Int32} {h : zHp} {H : Heap} {locs : List Loc} {ls : Array Slot}, f_X5_allHoursBeyond_22 r4 n a0 a1 a2 a3 a4 h = some out → zE G s h H locs → lv_has ls 5 [(0, .ref a0), (1, .int a1), (2, .int a2), (3, .ref a3), (4, .int a4)] → W p l e rm_X5_allHoursBeyond s m args below meth c H locs 0 0 (MQ below (zQi G out.1 out.2) args s 0 0 (zA G)) (F0 m 22 ls [])
  | 0 => fun hf => by cases hf
  | n + 1 => fun hf E hl => t_X5_allHoursBeyond_22_body Z hr k4 (r22 := f_X5_allHoursBeyond_22 r4 n) (t_X5_allHoursBeyond_22 Z hr k4 n) hf E hl
set_option maxHeartbeats 4000000 in
set_option maxRecDepth 20000 in
theorem t_X5_allHoursBeyond_4_body {p : Program} {l : Launch} {e : Env} {s : State} {m : MethodId} {args : Array Value} {below : List Frame} {meth : Method} {c : Code} {G : zG} (Z : zF p s m args c meth cX5_allHoursBeyond 5 RX5 G) (hr : meth.sig.returnType = (some .int)) {out : Int32 × zHp} {r4 : Nat → Int32 → Int32 → zHp → Option (Int32 × zHp)} (k4 : ∀ {a0 : Nat} {a1 : Int32} {a2 : Int32} {h : zHp} {H : Heap} {locs : List Loc} {ls : Array Slot}, r4 a0 a1 a2 h = some out → zE G s h H locs → lv_has ls 5 [(0, .ref a0), (1, .int a1), (2, .int a2)] → W p l e rm_X5_allHoursBeyond s m args below meth c H locs 0 0 (MQ below (zQi G out.1 out.2) args s 0 0 (zA G)) (F0 m 4 ls [])) {a0 : Nat} {a1 : Int32} {a2 : Int32} {h : zHp} {H : Heap} {locs : List Loc} {ls : Array Slot} (hf : f_X5_allHoursBeyond_4_body r4 a0 a1 a2 h = some out) (E : zE G s h H locs) (hl : lv_has ls 5 [(0, .ref a0), (1, .int a1), (2, .int a2)]) : W p l e rm_X5_allHoursBeyond s m args below meth c H locs 0 0 (MQ below (zQi G out.1 out.2) args s 0 0 (zA G)) (F0 m 4 ls []) := by
  unfold f_X5_allHoursBeyond_4_body at hf
  refine lv_iload_n Z.x Z.b dX5_allHoursBeyond_4 rfl (lv_at hl 2 rfl) ?_
  refine lv_aload_n Z.x Z.b dX5_allHoursBeyond_5 rfl (lv_at hl 0 rfl) ?_
  refine z_getI Z E q_X5_44 dX5_allHoursBeyond_6 hf (fun v1 hf => ?_)
  refine lv_icmp_ge (tgt := 51) Z.x Z.b dX5_allHoursBeyond_9 (by decide) (fun c => ?_) (fun c => ?_)
  · have hf := zit hf c
    refine lv_iload_n Z.x Z.b dX5_allHoursBeyond_51 rfl (lv_at hl 1 rfl) ?_
    exact z_iret Z E hr dX5_allHoursBeyond_52 hf
  · have hf := zif_ hf c
    refine lv_aload_n Z.x Z.b dX5_allHoursBeyond_12 rfl (lv_at hl 0 rfl) ?_
    refine lv_iload_n Z.x Z.b dX5_allHoursBeyond_13 rfl (lv_at hl 2 rfl) ?_
    refine lv_null Z.x Z.b dX5_allHoursBeyond_14 ?_
    refine z_Vq (As := [.int a2, va_rf none]) Z E hl.1 k_X5_147 v_X5_dutiesOf hf (fun r h' e => c_X5_dutiesOf l G h h' a0 a2 none r e) rfl rfl (Nat.le_of_ble_eq_true rfl) (zRm_of rfl (Nat.zero_le _) (Nat.zero_le _)) dX5_allHoursBeyond_15 (fun w2 h3 H locs hf E => ?_)
    obtain ⟨v4, ex, h8_15⟩ := zopt_inv hf
    subst ex
    have hf := h8_15
    refine lv_astore_n (lv' := [(3, .ref v4), (0, .ref a0), (1, .int a1), (2, .int a2)]) Z.x Z.b dX5_allHoursBeyond_18 rfl hl (by decide) rfl (fun ls hl => ?_)
    refine lv_iconst (v := 0) Z.x Z.b dX5_allHoursBeyond_19 (by decide) ?_
    refine lv_istore (lv' := [(4, .int 0), (3, .ref v4), (0, .ref a0), (1, .int a1), (2, .int a2)]) Z.x Z.b dX5_allHoursBeyond_20 hl (by decide) rfl (fun ls hl => ?_)
    exact t_X5_allHoursBeyond_22 Z hr k4 zN hf E (lv_sub hl [2, 3, 4, 1, 0] rfl)
theorem t_X5_allHoursBeyond_4 {p : Program} {l : Launch} {e : Env} {s : State} {m : MethodId} {args : Array Value} {below : List Frame} {meth : Method} {c : Code} {G : zG} (Z : zF p s m args c meth cX5_allHoursBeyond 5 RX5 G) (hr : meth.sig.returnType = (some .int)) {out : Int32 × zHp} : ∀ (n : Nat), ∀ {a0 : Nat} {a1 : Int32} {a2 : Int32} {h : zHp} {H : Heap} {locs : List Loc} {ls : Array Slot}, f_X5_allHoursBeyond_4 n a0 a1 a2 h = some out → zE G s h H locs → lv_has ls 5 [(0, .ref a0), (1, .int a1), (2, .int a2)] → W p l e rm_X5_allHoursBeyond s m args below meth c H locs 0 0 (MQ below (zQi G out.1 out.2) args s 0 0 (zA G)) (F0 m 4 ls [])
  | 0 => fun hf => by cases hf
  | n + 1 => fun hf E hl => t_X5_allHoursBeyond_4_body Z hr (r4 := f_X5_allHoursBeyond_4 n) (t_X5_allHoursBeyond_4 Z hr n) hf E hl
set_option maxHeartbeats 4000000 in
set_option maxRecDepth 20000 in
theorem t_X5_allHoursBeyond {p : Program} {l : Launch} {e : Env} {s : State} {m : MethodId} {args : Array Value} {below : List Frame} {meth : Method} {c : Code} {G : zG} (Z : zF p s m args c meth cX5_allHoursBeyond 5 RX5 G) (hr : meth.sig.returnType = (some .int)) {out : Int32 × zHp} {a0 : Nat} {h : zHp} {H : Heap} {locs : List Loc} {ls : Array Slot} (hf : f_X5_allHoursBeyond a0 h = some out) (E : zE G s h H locs) (hl : lv_has ls 5 [(0, .ref a0)]) : W p l e rm_X5_allHoursBeyond s m args below meth c H locs 0 0 (MQ below (zQi G out.1 out.2) args s 0 0 (zA G)) (F0 m 0 ls []) := by
  unfold f_X5_allHoursBeyond at hf
  refine lv_iconst (v := 0) Z.x Z.b dX5_allHoursBeyond_0 (by decide) ?_
  refine lv_istore_n (lv' := [(1, .int 0), (0, .ref a0)]) Z.x Z.b dX5_allHoursBeyond_1 rfl hl (by decide) rfl (fun ls hl => ?_)
  refine lv_iconst (v := 0) Z.x Z.b dX5_allHoursBeyond_2 (by decide) ?_
  refine lv_istore_n (lv' := [(2, .int 0), (1, .int 0), (0, .ref a0)]) Z.x Z.b dX5_allHoursBeyond_3 rfl hl (by decide) rfl (fun ls hl => ?_)
  exact t_X5_allHoursBeyond_4 Z hr zN hf E (lv_sub hl [2, 1, 0] rfl)
set_option maxHeartbeats 4000000 in
set_option maxRecDepth 20000 in
theorem c_X5_allHoursBeyond (l : Launch) (G : zG) (h : zHp) (h' : zHp) (a0 : Nat) (r : Int32) (hf : f_X5_allHoursBeyond a0 h = some (r, h')) : zM0 l yX5_allHoursBeyond cX5_allHoursBeyond 5 (some .int) rm_X5_allHoursBeyond G [.ref a0] h (zQi G r h') := by
  refine Met.ofW (cc := cX5_allHoursBeyond) (maxL := 5) (ret := (some .int)) (by decide) rfl ?_
  intro p e s m args below meth c s₁ B hml hv
  obtain ⟨rfl, hW⟩ := hv
  obtain ⟨Z, E, hr⟩ := zEnter (own := RX5) B hml rfl hW
  have hl := lv_entry ([.ref a0]) (n := 5) (Nat.le_of_ble_eq_true rfl)
  rw [lg_entry_eq]
  generalize (lg_sl ([.ref a0]) ++ List.replicate (5 - (lg_sl ([.ref a0])).length) Slot.unset).toArray = ls at hl ⊢
  have hl : lv_has ls 5 [(0, .ref a0)] := hl
  exact t_X5_allHoursBeyond (out := (r, h')) Z hr hf E hl
/-! FerryCrews$Text.<init>()V -/
theorem dX6_init_0 : decode cX6_init 0 = .ok (.aload_n 0, 1) := by decide +kernel
theorem dX6_init_1 : decode cX6_init 1 = .ok (.invokespecial 3, 3) := by decide +kernel
theorem dX6_init_4 : decode cX6_init 4 = .ok (.aload_n 0, 1) := by decide +kernel
theorem dX6_init_5 : decode cX6_init 5 = .ok (.bipush 60, 2) := by decide +kernel
theorem dX6_init_7 : decode cX6_init 7 = .ok (.newarray .char, 2) := by decide +kernel
theorem dX6_init_9 : decode cX6_init 9 = .ok (.putfield 9, 3) := by decide +kernel
theorem dX6_init_12 : decode cX6_init 12 = .ok (.aload_n 0, 1) := by decide +kernel
theorem dX6_init_13 : decode cX6_init 13 = .ok (.bipush 6, 2) := by decide +kernel
theorem dX6_init_15 : decode cX6_init 15 = .ok (.newarray .int, 2) := by decide +kernel
theorem dX6_init_17 : decode cX6_init 17 = .ok (.putfield 15, 3) := by decide +kernel
theorem dX6_init_20 : decode cX6_init 20 = .ok (.aload_n 0, 1) := by decide +kernel
theorem dX6_init_21 : decode cX6_init 21 = .ok (.bipush 6, 2) := by decide +kernel
theorem dX6_init_23 : decode cX6_init 23 = .ok (.newarray .int, 2) := by decide +kernel
theorem dX6_init_25 : decode cX6_init 25 = .ok (.putfield 19, 3) := by decide +kernel
theorem dX6_init_28 : decode cX6_init 28 = .ok (.aload_n 0, 1) := by decide +kernel
theorem dX6_init_29 : decode cX6_init 29 = .ok (.bipush 6, 2) := by decide +kernel
theorem dX6_init_31 : decode cX6_init 31 = .ok (.newarray .int, 2) := by decide +kernel
theorem dX6_init_33 : decode cX6_init 33 = .ok (.putfield 22, 3) := by decide +kernel
theorem dX6_init_36 : decode cX6_init 36 = .ok (.aload_n 0, 1) := by decide +kernel
theorem dX6_init_37 : decode cX6_init 37 = .ok (.bipush 6, 2) := by decide +kernel
theorem dX6_init_39 : decode cX6_init 39 = .ok (.newarray .int, 2) := by decide +kernel
theorem dX6_init_41 : decode cX6_init 41 = .ok (.putfield 25, 3) := by decide +kernel
theorem dX6_init_44 : decode cX6_init 44 = .ok (.return_, 1) := by decide +kernel
set_option maxRecDepth 20000 in
theorem wo_X6_3 : Cond.methodLink RX6 3 objectInit ∈ zB := List.mem_filter.mpr ⟨List.mem_of_getElem? (i := 250) (by decide +kernel), by decide +kernel⟩
set_option maxRecDepth 20000 in
theorem wr_1 : Cond.arrayClass .char ∈ zB := List.mem_filter.mpr ⟨List.mem_of_getElem? (i := 282) (by decide +kernel), by decide +kernel⟩
set_option maxRecDepth 20000 in
theorem wf_X6_9 : Cond.fieldLink RX6 9 RX6 "characters" "[C" ∈ zB := List.mem_filter.mpr ⟨List.mem_of_getElem? (i := 251) (by decide +kernel), by decide +kernel⟩
theorem p_X6_9 : zPut RX6 9 6 0 true (.array .char) := ⟨RX6, TX6, 8, tyX6, rfl, by decide, iX6, wf_X6_9, rfl, tyX6_ok, nmX6, rfl, by decide +kernel, fun _ => rfl⟩
set_option maxRecDepth 20000 in
theorem wf_X6_15 : Cond.fieldLink RX6 15 RX6 "ferries" "[I" ∈ zB := List.mem_filter.mpr ⟨List.mem_of_getElem? (i := 257) (by decide +kernel), by decide +kernel⟩
theorem p_X6_15 : zPut RX6 15 6 4 true (.array .int) := ⟨RX6, TX6, 8, tyX6, rfl, by decide, iX6, wf_X6_15, rfl, tyX6_ok, nmX6, rfl, by decide +kernel, fun _ => rfl⟩
set_option maxRecDepth 20000 in
theorem wf_X6_19 : Cond.fieldLink RX6 19 RX6 "starts" "[I" ∈ zB := List.mem_filter.mpr ⟨List.mem_of_getElem? (i := 259) (by decide +kernel), by decide +kernel⟩
theorem p_X6_19 : zPut RX6 19 6 5 true (.array .int) := ⟨RX6, TX6, 8, tyX6, rfl, by decide, iX6, wf_X6_19, rfl, tyX6_ok, nmX6, rfl, by decide +kernel, fun _ => rfl⟩
set_option maxRecDepth 20000 in
theorem wf_X6_22 : Cond.fieldLink RX6 22 RX6 "hours" "[I" ∈ zB := List.mem_filter.mpr ⟨List.mem_of_getElem? (i := 261) (by decide +kernel), by decide +kernel⟩
theorem p_X6_22 : zPut RX6 22 6 6 true (.array .int) := ⟨RX6, TX6, 8, tyX6, rfl, by decide, iX6, wf_X6_22, rfl, tyX6_ok, nmX6, rfl, by decide +kernel, fun _ => rfl⟩
set_option maxRecDepth 20000 in
theorem wf_X6_25 : Cond.fieldLink RX6 25 RX6 "sets" "[I" ∈ zB := List.mem_filter.mpr ⟨List.mem_of_getElem? (i := 263) (by decide +kernel), by decide +kernel⟩
theorem p_X6_25 : zPut RX6 25 6 7 true (.array .int) := ⟨RX6, TX6, 8, tyX6, rfl, by decide, iX6, wf_X6_25, rfl, tyX6_ok, nmX6, rfl, by decide +kernel, fun _ => rfl⟩
def rm_X6_init : Room := { frames := 1, cells := 5, slots := 84, locals := 20 }
set_option maxHeartbeats 4000000 in
set_option maxRecDepth 20000 in
theorem t_X6_init {p : Program} {l : Launch} {e : Env} {s : State} {m : MethodId} {args : Array Value} {below : List Frame} {meth : Method} {c : Code} {G : zG} (Z : zF p s m args c meth cX6_init 1 RX6 G) (hr : meth.sig.returnType = none) (hin : meth.name = "<init>") {out : zHp} {a0 : Nat} {h : zHp} {H : Heap} {locs : List Loc} {ls : Array Slot} {cells slots : Nat} (hf : f_X6_init a0 h = some out) (E : zE G s h H locs) (hl : lv_has ls 1 [(0, .ref a0)]) (hc : cells + 5 ≤ 5) (hs : slots + 84 ≤ 84) : W p l e rm_X6_init s m args below meth c H locs cells slots (MQ below (zQv G out) args s 5 84 (zA G)) (F0 m 0 ls []) := by
  unfold f_X6_init at hf
  refine lv_aload_n Z.x Z.b dX6_init_0 rfl (lv_at hl 0 rfl) ?_
  refine z_obj Z E hl.1 wo_X6_3 wo_inst wo_code dX6_init_1 (by decide) (by decide) ?_
  refine lv_aload_n Z.x Z.b dX6_init_4 rfl (lv_at hl 0 rfl) ?_
  refine lv_bipush (v := 60) Z.x Z.b dX6_init_5 (by decide) ?_
  refine z_newc (N := 60) Z E wr_1 (by decide) (by decide) (by decide) (show _ ≤ 5 by omega) (show _ ≤ 84 by omega) dX6_init_7 hf (fun q1 h2 H hf E => ?_)
  refine z_putF Z E hin p_X6_9 rfl rfl dX6_init_9 hf (fun h3 H locs hf E => ?_)
  refine lv_aload_n Z.x Z.b dX6_init_12 rfl (lv_at hl 0 rfl) ?_
  refine lv_bipush (v := 6) Z.x Z.b dX6_init_13 (by decide) ?_
  refine z_newi (N := 6) Z E wr_0 (by decide) (by decide) (by decide) (show _ ≤ 5 by omega) (show _ ≤ 84 by omega) dX6_init_15 hf (fun q4 h5 H hf E => ?_)
  refine z_putF Z E hin p_X6_15 rfl rfl dX6_init_17 hf (fun h6 H locs hf E => ?_)
  refine lv_aload_n Z.x Z.b dX6_init_20 rfl (lv_at hl 0 rfl) ?_
  refine lv_bipush (v := 6) Z.x Z.b dX6_init_21 (by decide) ?_
  refine z_newi (N := 6) Z E wr_0 (by decide) (by decide) (by decide) (show _ ≤ 5 by omega) (show _ ≤ 84 by omega) dX6_init_23 hf (fun q7 h8 H hf E => ?_)
  refine z_putF Z E hin p_X6_19 rfl rfl dX6_init_25 hf (fun h9 H locs hf E => ?_)
  refine lv_aload_n Z.x Z.b dX6_init_28 rfl (lv_at hl 0 rfl) ?_
  refine lv_bipush (v := 6) Z.x Z.b dX6_init_29 (by decide) ?_
  refine z_newi (N := 6) Z E wr_0 (by decide) (by decide) (by decide) (show _ ≤ 5 by omega) (show _ ≤ 84 by omega) dX6_init_31 hf (fun q10 h11 H hf E => ?_)
  refine z_putF Z E hin p_X6_22 rfl rfl dX6_init_33 hf (fun h12 H locs hf E => ?_)
  refine lv_aload_n Z.x Z.b dX6_init_36 rfl (lv_at hl 0 rfl) ?_
  refine lv_bipush (v := 6) Z.x Z.b dX6_init_37 (by decide) ?_
  refine z_newi (N := 6) Z E wr_0 (by decide) (by decide) (by decide) (show _ ≤ 5 by omega) (show _ ≤ 84 by omega) dX6_init_39 hf (fun q13 h14 H hf E => ?_)
  refine z_putF Z E hin p_X6_25 rfl rfl dX6_init_41 hf (fun h15 H locs hf E => ?_)
  refine W.widen (k := 5) (n := 84) (by omega) (by omega) ?_
  exact z_vret Z E hr dX6_init_44 hf
set_option maxHeartbeats 4000000 in
set_option maxRecDepth 20000 in
theorem c_X6_init (l : Launch) (G : zG) (h : zHp) (h' : zHp) (a0 : Nat) (hf : f_X6_init a0 h = some h') : zMn l yX6_init cX6_init 1 rm_X6_init 5 84 G [.ref a0] h h' := by
  refine Met.ofW (cc := cX6_init) (maxL := 1) (ret := none) (by decide) rfl ?_
  intro p e s m args below meth c s₁ B hml hv
  obtain ⟨rfl, hW⟩ := hv
  obtain ⟨Z, E, hr⟩ := zEnter (own := RX6) B hml rfl hW
  have hin : meth.name = "<init>" := (name_of_methodNamed B.named B.method).1
  have hl := lv_entry ([.ref a0]) (n := 1) (Nat.le_of_ble_eq_true rfl)
  rw [lg_entry_eq]
  generalize (lg_sl ([.ref a0]) ++ List.replicate (1 - (lg_sl ([.ref a0])).length) Slot.unset).toArray = ls at hl ⊢
  have hl : lv_has ls 1 [(0, .ref a0)] := hl
  exact t_X6_init (out := h') Z hr hin hf E hl (by decide) (by decide)
/-! FerryCrews$Text.append(C)I -/
theorem dX6_append_0 : decode cX6_append 0 = .ok (.aload_n 0, 1) := by decide +kernel
theorem dX6_append_1 : decode cX6_append 1 = .ok (.getfield 28, 3) := by decide +kernel
theorem dX6_append_4 : decode cX6_append 4 = .ok (.iconst 0, 1) := by decide +kernel
theorem dX6_append_5 : decode cX6_append 5 = .ok (.bipush 59, 2) := by decide +kernel
theorem dX6_append_7 : decode cX6_append 7 = .ok (.invokestatic 32, 3) := by decide +kernel
theorem dX6_append_10 : decode cX6_append 10 = .ok (.ifCond .ne 6, 3) := by decide +kernel
theorem dX6_append_13 : decode cX6_append 13 = .ok (.bipush (-3), 2) := by decide +kernel
theorem dX6_append_15 : decode cX6_append 15 = .ok (.ireturn, 1) := by decide +kernel
theorem dX6_append_16 : decode cX6_append 16 = .ok (.aload_n 0, 1) := by decide +kernel
theorem dX6_append_17 : decode cX6_append 17 = .ok (.getfield 9, 3) := by decide +kernel
theorem dX6_append_20 : decode cX6_append 20 = .ok (.aload_n 0, 1) := by decide +kernel
theorem dX6_append_21 : decode cX6_append 21 = .ok (.getfield 28, 3) := by decide +kernel
theorem dX6_append_24 : decode cX6_append 24 = .ok (.iload_n 1, 1) := by decide +kernel
theorem dX6_append_25 : decode cX6_append 25 = .ok (.castore, 1) := by decide +kernel
theorem dX6_append_26 : decode cX6_append 26 = .ok (.aload_n 0, 1) := by decide +kernel
theorem dX6_append_27 : decode cX6_append 27 = .ok (.dup, 1) := by decide +kernel
theorem dX6_append_28 : decode cX6_append 28 = .ok (.getfield 28, 3) := by decide +kernel
theorem dX6_append_31 : decode cX6_append 31 = .ok (.iconst 1, 1) := by decide +kernel
theorem dX6_append_32 : decode cX6_append 32 = .ok (.iadd, 1) := by decide +kernel
theorem dX6_append_33 : decode cX6_append 33 = .ok (.putfield 28, 3) := by decide +kernel
theorem dX6_append_36 : decode cX6_append 36 = .ok (.aload_n 0, 1) := by decide +kernel
theorem dX6_append_37 : decode cX6_append 37 = .ok (.getfield 28, 3) := by decide +kernel
theorem dX6_append_40 : decode cX6_append 40 = .ok (.ireturn, 1) := by decide +kernel
set_option maxRecDepth 20000 in
theorem wf_X6_28 : Cond.fieldLink RX6 28 RX6 "length" "I" ∈ zB := List.mem_filter.mpr ⟨List.mem_of_getElem? (i := 252) (by decide +kernel), by decide +kernel⟩
theorem q_X6_28 : zFld RX6 28 6 1 := ⟨RX6, TX6, 8, rfl, by decide, iX6, wf_X6_28, rfl⟩
set_option maxRecDepth 20000 in
theorem k_X6_32 : zCalN RX6 32 yX7_isWithin "FerryCrews" cX7_isWithin 3 (some .boolean) 3 := ⟨List.mem_of_getElem? (i := 380) (by decide +kernel), wi_X7, wc_X7_isWithin, by decide +kernel, by decide +kernel, by decide +kernel⟩
theorem q_X6_9 : zFld RX6 9 6 0 := ⟨RX6, TX6, 8, rfl, by decide, iX6, wf_X6_9, rfl⟩
theorem p_X6_28 : zPut RX6 28 6 1 false .int := ⟨RX6, TX6, 8, tyX6, rfl, by decide, iX6, wf_X6_28, rfl, tyX6_ok, nmX6, rfl, by decide +kernel, fun _ => rfl⟩
def rm_X6_append : Room := { frames := 1, cells := 0, slots := 0, locals := 22 }
set_option maxHeartbeats 4000000 in
set_option maxRecDepth 20000 in
theorem t_X6_append {p : Program} {l : Launch} {e : Env} {s : State} {m : MethodId} {args : Array Value} {below : List Frame} {meth : Method} {c : Code} {G : zG} (Z : zF p s m args c meth cX6_append 2 RX6 G) (hr : meth.sig.returnType = (some .int)) {out : Int32 × zHp} {a0 : Nat} {a1 : Int32} {h : zHp} {H : Heap} {locs : List Loc} {ls : Array Slot} (hf : f_X6_append a0 a1 h = some out) (E : zE G s h H locs) (hl : lv_has ls 2 [(0, .ref a0), (1, .int a1)]) : W p l e rm_X6_append s m args below meth c H locs 0 0 (MQ below (zQi G out.1 out.2) args s 0 0 (zA G)) (F0 m 0 ls []) := by
  unfold f_X6_append at hf
  refine lv_aload_n Z.x Z.b dX6_append_0 rfl (lv_at hl 0 rfl) ?_
  refine z_getI Z E q_X6_28 dX6_append_1 hf (fun v1 hf => ?_)
  refine lv_iconst (v := 0) Z.x Z.b dX6_append_4 (by decide) ?_
  refine lv_bipush (v := 59) Z.x Z.b dX6_append_5 (by decide) ?_
  refine z_SNi (As := [.int v1, .int 0, .int 59]) Z E hl.1 k_X6_32 wt_X7_isWithin hf (fun r h' e => c_X7_isWithin l G h h' v1 0 59 r e) rfl rfl (Nat.le_of_ble_eq_true rfl) (zRm_of rfl (Nat.zero_le _) (Nat.zero_le _)) dX6_append_7 (fun v2 h3 H locs hf E => ?_)
  refine lv_if_ne (tgt := 16) Z.x Z.b dX6_append_10 (by decide) (fun c => ?_) (fun c => ?_)
  · have hf := zif_ hf c
    refine lv_aload_n Z.x Z.b dX6_append_16 rfl (lv_at hl 0 rfl) ?_
    refine z_getR Z E q_X6_9 dX6_append_17 hf (fun v4 hf => ?_)
    refine lv_aload_n Z.x Z.b dX6_append_20 rfl (lv_at hl 0 rfl) ?_
    refine z_getI Z E q_X6_28 dX6_append_21 hf (fun v5 hf => ?_)
    refine lv_iload_n Z.x Z.b dX6_append_24 rfl (lv_at hl 1 rfl) ?_
    refine z_cast Z E dX6_append_25 hf (fun h6 H locs hf E => ?_)
    refine lv_aload_n Z.x Z.b dX6_append_26 rfl (lv_at hl 0 rfl) ?_
    refine lv_dup Z.x Z.b dX6_append_27 rfl ?_
    refine z_getI Z E q_X6_28 dX6_append_28 hf (fun v7 hf => ?_)
    refine lv_iconst (v := 1) Z.x Z.b dX6_append_31 (by decide) ?_
    refine lv_iadd Z.x Z.b dX6_append_32 ?_
    refine z_put Z E p_X6_28 rfl rfl dX6_append_33 hf (fun h8 H locs hf E => ?_)
    refine lv_aload_n Z.x Z.b dX6_append_36 rfl (lv_at hl 0 rfl) ?_
    refine z_getI Z E q_X6_28 dX6_append_37 hf (fun v9 hf => ?_)
    exact z_iret Z E hr dX6_append_40 hf
  · have hf := zit hf c
    refine lv_bipush (v := (-3)) Z.x Z.b dX6_append_13 (by decide) ?_
    exact z_iret Z E hr dX6_append_15 hf
set_option maxHeartbeats 4000000 in
set_option maxRecDepth 20000 in
theorem c_X6_append (l : Launch) (G : zG) (h : zHp) (h' : zHp) (a0 : Nat) (a1 : Int32) (r : Int32) (hf : f_X6_append a0 a1 h = some (r, h')) : zM0 l yX6_append cX6_append 2 (some .int) rm_X6_append G [.ref a0, .int a1] h (zQi G r h') := by
  refine Met.ofW (cc := cX6_append) (maxL := 2) (ret := (some .int)) (by decide) rfl ?_
  intro p e s m args below meth c s₁ B hml hv
  obtain ⟨rfl, hW⟩ := hv
  obtain ⟨Z, E, hr⟩ := zEnter (own := RX6) B hml rfl hW
  have hl := lv_entry ([.ref a0, .int a1]) (n := 2) (Nat.le_of_ble_eq_true rfl)
  rw [lg_entry_eq]
  generalize (lg_sl ([.ref a0, .int a1]) ++ List.replicate (2 - (lg_sl ([.ref a0, .int a1])).length) Slot.unset).toArray = ls at hl ⊢
  have hl : lv_has ls 2 [(0, .ref a0), (1, .int a1)] := hl
  exact t_X6_append (out := (r, h')) Z hr hf E hl
/-! FerryCrews$Text.nextDigit()I -/
theorem dX6_nextDigit_0 : decode cX6_nextDigit 0 = .ok (.aload_n 0, 1) := by decide +kernel
theorem dX6_nextDigit_1 : decode cX6_nextDigit 1 = .ok (.getfield 36, 3) := by decide +kernel
theorem dX6_nextDigit_4 : decode cX6_nextDigit 4 = .ok (.ifCond .lt 23, 3) := by decide +kernel
theorem dX6_nextDigit_7 : decode cX6_nextDigit 7 = .ok (.aload_n 0, 1) := by decide +kernel
theorem dX6_nextDigit_8 : decode cX6_nextDigit 8 = .ok (.getfield 36, 3) := by decide +kernel
theorem dX6_nextDigit_11 : decode cX6_nextDigit 11 = .ok (.aload_n 0, 1) := by decide +kernel
theorem dX6_nextDigit_12 : decode cX6_nextDigit 12 = .ok (.getfield 28, 3) := by decide +kernel
theorem dX6_nextDigit_15 : decode cX6_nextDigit 15 = .ok (.if_icmp .ge 12, 3) := by decide +kernel
theorem dX6_nextDigit_18 : decode cX6_nextDigit 18 = .ok (.aload_n 0, 1) := by decide +kernel
theorem dX6_nextDigit_19 : decode cX6_nextDigit 19 = .ok (.getfield 36, 3) := by decide +kernel
theorem dX6_nextDigit_22 : decode cX6_nextDigit 22 = .ok (.bipush 60, 2) := by decide +kernel
theorem dX6_nextDigit_24 : decode cX6_nextDigit 24 = .ok (.if_icmp .lt 5, 3) := by decide +kernel
theorem dX6_nextDigit_27 : decode cX6_nextDigit 27 = .ok (.iconst (-1), 1) := by decide +kernel
theorem dX6_nextDigit_28 : decode cX6_nextDigit 28 = .ok (.ireturn, 1) := by decide +kernel
theorem dX6_nextDigit_29 : decode cX6_nextDigit 29 = .ok (.aload_n 0, 1) := by decide +kernel
theorem dX6_nextDigit_30 : decode cX6_nextDigit 30 = .ok (.getfield 9, 3) := by decide +kernel
theorem dX6_nextDigit_33 : decode cX6_nextDigit 33 = .ok (.aload_n 0, 1) := by decide +kernel
theorem dX6_nextDigit_34 : decode cX6_nextDigit 34 = .ok (.getfield 36, 3) := by decide +kernel
theorem dX6_nextDigit_37 : decode cX6_nextDigit 37 = .ok (.caload, 1) := by decide +kernel
theorem dX6_nextDigit_38 : decode cX6_nextDigit 38 = .ok (.bipush 48, 2) := by decide +kernel
theorem dX6_nextDigit_40 : decode cX6_nextDigit 40 = .ok (.isub, 1) := by decide +kernel
theorem dX6_nextDigit_41 : decode cX6_nextDigit 41 = .ok (.istore_n 1, 1) := by decide +kernel
theorem dX6_nextDigit_42 : decode cX6_nextDigit 42 = .ok (.iload_n 1, 1) := by decide +kernel
theorem dX6_nextDigit_43 : decode cX6_nextDigit 43 = .ok (.iconst 0, 1) := by decide +kernel
theorem dX6_nextDigit_44 : decode cX6_nextDigit 44 = .ok (.bipush 9, 2) := by decide +kernel
theorem dX6_nextDigit_46 : decode cX6_nextDigit 46 = .ok (.invokestatic 32, 3) := by decide +kernel
theorem dX6_nextDigit_49 : decode cX6_nextDigit 49 = .ok (.ifCond .eq 7, 3) := by decide +kernel
theorem dX6_nextDigit_52 : decode cX6_nextDigit 52 = .ok (.iload_n 1, 1) := by decide +kernel
theorem dX6_nextDigit_53 : decode cX6_nextDigit 53 = .ok (.goto 4, 3) := by decide +kernel
theorem dX6_nextDigit_56 : decode cX6_nextDigit 56 = .ok (.iconst (-1), 1) := by decide +kernel
theorem dX6_nextDigit_57 : decode cX6_nextDigit 57 = .ok (.ireturn, 1) := by decide +kernel
set_option maxRecDepth 20000 in
theorem wf_X6_36 : Cond.fieldLink RX6 36 RX6 "at" "I" ∈ zB := List.mem_filter.mpr ⟨List.mem_of_getElem? (i := 254) (by decide +kernel), by decide +kernel⟩
theorem q_X6_36 : zFld RX6 36 6 2 := ⟨RX6, TX6, 8, rfl, by decide, iX6, wf_X6_36, rfl⟩
def rm_X6_nextDigit : Room := { frames := 1, cells := 0, slots := 0, locals := 22 }
set_option maxHeartbeats 4000000 in
set_option maxRecDepth 20000 in
theorem t_X6_nextDigit {p : Program} {l : Launch} {e : Env} {s : State} {m : MethodId} {args : Array Value} {below : List Frame} {meth : Method} {c : Code} {G : zG} (Z : zF p s m args c meth cX6_nextDigit 2 RX6 G) (hr : meth.sig.returnType = (some .int)) {out : Int32 × zHp} {a0 : Nat} {h : zHp} {H : Heap} {locs : List Loc} {ls : Array Slot} (hf : f_X6_nextDigit a0 h = some out) (E : zE G s h H locs) (hl : lv_has ls 2 [(0, .ref a0)]) : W p l e rm_X6_nextDigit s m args below meth c H locs 0 0 (MQ below (zQi G out.1 out.2) args s 0 0 (zA G)) (F0 m 0 ls []) := by
  unfold f_X6_nextDigit at hf
  refine lv_aload_n Z.x Z.b dX6_nextDigit_0 rfl (lv_at hl 0 rfl) ?_
  refine z_getI Z E q_X6_36 dX6_nextDigit_1 hf (fun v1 hf => ?_)
  refine lv_if_lt (tgt := 27) Z.x Z.b dX6_nextDigit_4 (by decide) (fun c => ?_) (fun c => ?_)
  · have hf := zit hf c
    refine lv_iconst (v := (-1)) Z.x Z.b dX6_nextDigit_27 (by decide) ?_
    exact z_iret Z E hr dX6_nextDigit_28 hf
  · have hf := zif_ hf c
    refine lv_aload_n Z.x Z.b dX6_nextDigit_7 rfl (lv_at hl 0 rfl) ?_
    refine z_getI Z E q_X6_36 dX6_nextDigit_8 hf (fun v2 hf => ?_)
    refine lv_aload_n Z.x Z.b dX6_nextDigit_11 rfl (lv_at hl 0 rfl) ?_
    refine z_getI Z E q_X6_28 dX6_nextDigit_12 hf (fun v3 hf => ?_)
    refine lv_icmp_ge (tgt := 27) Z.x Z.b dX6_nextDigit_15 (by decide) (fun c => ?_) (fun c => ?_)
    · have hf := zit hf c
      refine lv_iconst (v := (-1)) Z.x Z.b dX6_nextDigit_27 (by decide) ?_
      exact z_iret Z E hr dX6_nextDigit_28 hf
    · have hf := zif_ hf c
      refine lv_aload_n Z.x Z.b dX6_nextDigit_18 rfl (lv_at hl 0 rfl) ?_
      refine z_getI Z E q_X6_36 dX6_nextDigit_19 hf (fun v4 hf => ?_)
      refine lv_bipush (v := 60) Z.x Z.b dX6_nextDigit_22 (by decide) ?_
      refine lv_icmp_lt (tgt := 29) Z.x Z.b dX6_nextDigit_24 (by decide) (fun c => ?_) (fun c => ?_)
      · have hf := zit hf c
        refine lv_aload_n Z.x Z.b dX6_nextDigit_29 rfl (lv_at hl 0 rfl) ?_
        refine z_getR Z E q_X6_9 dX6_nextDigit_30 hf (fun v5 hf => ?_)
        refine lv_aload_n Z.x Z.b dX6_nextDigit_33 rfl (lv_at hl 0 rfl) ?_
        refine z_getI Z E q_X6_36 dX6_nextDigit_34 hf (fun v6 hf => ?_)
        refine z_cald Z E dX6_nextDigit_37 hf (fun v7 hf => ?_)
        refine lv_bipush (v := 48) Z.x Z.b dX6_nextDigit_38 (by decide) ?_
        refine lv_isub Z.x Z.b dX6_nextDigit_40 ?_
        refine lv_istore_n (lv' := [(1, .int (v7 - 48)), (0, .ref a0)]) Z.x Z.b dX6_nextDigit_41 rfl hl (by decide) rfl (fun ls hl => ?_)
        refine lv_iload_n Z.x Z.b dX6_nextDigit_42 rfl (lv_at hl 0 rfl) ?_
        refine lv_iconst (v := 0) Z.x Z.b dX6_nextDigit_43 (by decide) ?_
        refine lv_bipush (v := 9) Z.x Z.b dX6_nextDigit_44 (by decide) ?_
        refine z_SNi (As := [.int (v7 - 48), .int 0, .int 9]) Z E hl.1 k_X6_32 wt_X7_isWithin hf (fun r h' e => c_X7_isWithin l G h h' (v7 - 48) 0 9 r e) rfl rfl (Nat.le_of_ble_eq_true rfl) (zRm_of rfl (Nat.zero_le _) (Nat.zero_le _)) dX6_nextDigit_46 (fun v8 h9 H locs hf E => ?_)
        refine lv_if_eq (tgt := 56) Z.x Z.b dX6_nextDigit_49 (by decide) (fun c => ?_) (fun c => ?_)
        · have hf := zit hf c
          refine lv_iconst (v := (-1)) Z.x Z.b dX6_nextDigit_56 (by decide) ?_
          exact z_iret Z E hr dX6_nextDigit_57 hf
        · have hf := zif_ hf c
          refine lv_iload_n Z.x Z.b dX6_nextDigit_52 rfl (lv_at hl 0 rfl) ?_
          refine lv_goto (tgt := 57) Z.x Z.b dX6_nextDigit_53 (by decide) ?_
          exact z_iret Z E hr dX6_nextDigit_57 hf
      · have hf := zif_ hf c
        refine lv_iconst (v := (-1)) Z.x Z.b dX6_nextDigit_27 (by decide) ?_
        exact z_iret Z E hr dX6_nextDigit_28 hf
set_option maxHeartbeats 4000000 in
set_option maxRecDepth 20000 in
theorem c_X6_nextDigit (l : Launch) (G : zG) (h : zHp) (h' : zHp) (a0 : Nat) (r : Int32) (hf : f_X6_nextDigit a0 h = some (r, h')) : zM0 l yX6_nextDigit cX6_nextDigit 2 (some .int) rm_X6_nextDigit G [.ref a0] h (zQi G r h') := by
  refine Met.ofW (cc := cX6_nextDigit) (maxL := 2) (ret := (some .int)) (by decide) rfl ?_
  intro p e s m args below meth c s₁ B hml hv
  obtain ⟨rfl, hW⟩ := hv
  obtain ⟨Z, E, hr⟩ := zEnter (own := RX6) B hml rfl hW
  have hl := lv_entry ([.ref a0]) (n := 2) (Nat.le_of_ble_eq_true rfl)
  rw [lg_entry_eq]
  generalize (lg_sl ([.ref a0]) ++ List.replicate (2 - (lg_sl ([.ref a0])).length) Slot.unset).toArray = ls at hl ⊢
  have hl : lv_has ls 2 [(0, .ref a0)] := hl
  exact t_X6_nextDigit (out := (r, h')) Z hr hf E hl
/-! FerryCrews$Text.readNumber(II)I -/
theorem dX6_readNumber_0 : decode cX6_readNumber 0 = .ok (.aload_n 0, 1) := by decide +kernel
theorem dX6_readNumber_1 : decode cX6_readNumber 1 = .ok (.invokevirtual 58, 3) := by decide +kernel
theorem dX6_readNumber_4 : decode cX6_readNumber 4 = .ok (.istore_n 3, 1) := by decide +kernel
theorem dX6_readNumber_5 : decode cX6_readNumber 5 = .ok (.iload_n 3, 1) := by decide +kernel
theorem dX6_readNumber_6 : decode cX6_readNumber 6 = .ok (.iconst (-1), 1) := by decide +kernel
theorem dX6_readNumber_7 : decode cX6_readNumber 7 = .ok (.if_icmp .eq 12, 3) := by decide +kernel
theorem dX6_readNumber_10 : decode cX6_readNumber 10 = .ok (.iload_n 3, 1) := by decide +kernel
theorem dX6_readNumber_11 : decode cX6_readNumber 11 = .ok (.iload_n 1, 1) := by decide +kernel
theorem dX6_readNumber_12 : decode cX6_readNumber 12 = .ok (.iload_n 2, 1) := by decide +kernel
theorem dX6_readNumber_13 : decode cX6_readNumber 13 = .ok (.invokestatic 32, 3) := by decide +kernel
theorem dX6_readNumber_16 : decode cX6_readNumber 16 = .ok (.ifCond .ne 5, 3) := by decide +kernel
theorem dX6_readNumber_19 : decode cX6_readNumber 19 = .ok (.iconst (-1), 1) := by decide +kernel
theorem dX6_readNumber_20 : decode cX6_readNumber 20 = .ok (.ireturn, 1) := by decide +kernel
theorem dX6_readNumber_21 : decode cX6_readNumber 21 = .ok (.aload_n 0, 1) := by decide +kernel
theorem dX6_readNumber_22 : decode cX6_readNumber 22 = .ok (.dup, 1) := by decide +kernel
theorem dX6_readNumber_23 : decode cX6_readNumber 23 = .ok (.getfield 36, 3) := by decide +kernel
theorem dX6_readNumber_26 : decode cX6_readNumber 26 = .ok (.iconst 1, 1) := by decide +kernel
theorem dX6_readNumber_27 : decode cX6_readNumber 27 = .ok (.iadd, 1) := by decide +kernel
theorem dX6_readNumber_28 : decode cX6_readNumber 28 = .ok (.putfield 36, 3) := by decide +kernel
theorem dX6_readNumber_31 : decode cX6_readNumber 31 = .ok (.aload_n 0, 1) := by decide +kernel
theorem dX6_readNumber_32 : decode cX6_readNumber 32 = .ok (.getfield 36, 3) := by decide +kernel
theorem dX6_readNumber_35 : decode cX6_readNumber 35 = .ok (.aload_n 0, 1) := by decide +kernel
theorem dX6_readNumber_36 : decode cX6_readNumber 36 = .ok (.getfield 28, 3) := by decide +kernel
theorem dX6_readNumber_39 : decode cX6_readNumber 39 = .ok (.if_icmp .ge 53, 3) := by decide +kernel
theorem dX6_readNumber_42 : decode cX6_readNumber 42 = .ok (.aload_n 0, 1) := by decide +kernel
theorem dX6_readNumber_43 : decode cX6_readNumber 43 = .ok (.invokevirtual 58, 3) := by decide +kernel
theorem dX6_readNumber_46 : decode cX6_readNumber 46 = .ok (.istore 4, 2) := by decide +kernel
theorem dX6_readNumber_48 : decode cX6_readNumber 48 = .ok (.iload 4, 2) := by decide +kernel
theorem dX6_readNumber_50 : decode cX6_readNumber 50 = .ok (.iconst (-1), 1) := by decide +kernel
theorem dX6_readNumber_51 : decode cX6_readNumber 51 = .ok (.if_icmp .eq 18, 3) := by decide +kernel
theorem dX6_readNumber_54 : decode cX6_readNumber 54 = .ok (.iload_n 3, 1) := by decide +kernel
theorem dX6_readNumber_55 : decode cX6_readNumber 55 = .ok (.ifCond .eq 14, 3) := by decide +kernel
theorem dX6_readNumber_58 : decode cX6_readNumber 58 = .ok (.iload_n 3, 1) := by decide +kernel
theorem dX6_readNumber_59 : decode cX6_readNumber 59 = .ok (.bipush 10, 2) := by decide +kernel
theorem dX6_readNumber_61 : decode cX6_readNumber 61 = .ok (.imul, 1) := by decide +kernel
theorem dX6_readNumber_62 : decode cX6_readNumber 62 = .ok (.iload 4, 2) := by decide +kernel
theorem dX6_readNumber_64 : decode cX6_readNumber 64 = .ok (.iadd, 1) := by decide +kernel
theorem dX6_readNumber_65 : decode cX6_readNumber 65 = .ok (.iload_n 2, 1) := by decide +kernel
theorem dX6_readNumber_66 : decode cX6_readNumber 66 = .ok (.if_icmp .le 5, 3) := by decide +kernel
theorem dX6_readNumber_69 : decode cX6_readNumber 69 = .ok (.iload_n 3, 1) := by decide +kernel
theorem dX6_readNumber_70 : decode cX6_readNumber 70 = .ok (.ireturn, 1) := by decide +kernel
theorem dX6_readNumber_71 : decode cX6_readNumber 71 = .ok (.iload_n 3, 1) := by decide +kernel
theorem dX6_readNumber_72 : decode cX6_readNumber 72 = .ok (.bipush 10, 2) := by decide +kernel
theorem dX6_readNumber_74 : decode cX6_readNumber 74 = .ok (.imul, 1) := by decide +kernel
theorem dX6_readNumber_75 : decode cX6_readNumber 75 = .ok (.iload 4, 2) := by decide +kernel
theorem dX6_readNumber_77 : decode cX6_readNumber 77 = .ok (.iadd, 1) := by decide +kernel
theorem dX6_readNumber_78 : decode cX6_readNumber 78 = .ok (.istore_n 3, 1) := by decide +kernel
theorem dX6_readNumber_79 : decode cX6_readNumber 79 = .ok (.aload_n 0, 1) := by decide +kernel
theorem dX6_readNumber_80 : decode cX6_readNumber 80 = .ok (.dup, 1) := by decide +kernel
theorem dX6_readNumber_81 : decode cX6_readNumber 81 = .ok (.getfield 36, 3) := by decide +kernel
theorem dX6_readNumber_84 : decode cX6_readNumber 84 = .ok (.iconst 1, 1) := by decide +kernel
theorem dX6_readNumber_85 : decode cX6_readNumber 85 = .ok (.iadd, 1) := by decide +kernel
theorem dX6_readNumber_86 : decode cX6_readNumber 86 = .ok (.putfield 36, 3) := by decide +kernel
theorem dX6_readNumber_89 : decode cX6_readNumber 89 = .ok (.goto (-58), 3) := by decide +kernel
theorem dX6_readNumber_92 : decode cX6_readNumber 92 = .ok (.iload_n 3, 1) := by decide +kernel
theorem dX6_readNumber_93 : decode cX6_readNumber 93 = .ok (.ireturn, 1) := by decide +kernel
set_option maxRecDepth 20000 in
theorem wi_X6 : Cond.initialized RX6 ∈ zB := List.mem_filter.mpr ⟨List.mem_of_getElem? (i := 68) (by decide +kernel), by decide +kernel⟩
set_option maxRecDepth 20000 in
theorem wc_X6_nextDigit : Cond.code yX6_nextDigit cX6_nextDigit 2 (some .int) ∈ zB := List.mem_filter.mpr ⟨List.mem_of_getElem? (i := 379) (by decide +kernel), by decide +kernel⟩
set_option maxRecDepth 20000 in
theorem wm_X6_58 : Cond.methodLink RX6 58 yX6_nextDigit ∈ zB := List.mem_filter.mpr ⟨List.mem_of_getElem? (i := 376) (by decide +kernel), by decide +kernel⟩
theorem k_X6_58 : zCal RX6 58 yX6_nextDigit cX6_nextDigit 2 (some .int) 0 := ⟨wm_X6_58, wi_X6, wc_X6_nextDigit, by decide +kernel, by decide +kernel, by decide +kernel⟩
set_option maxRecDepth 20000 in
theorem wn_X6_nextDigit : Cond.instanceMethod yX6_nextDigit ∈ zB := List.mem_filter.mpr ⟨List.mem_of_getElem? (i := 378) (by decide +kernel), by decide +kernel⟩
set_option maxRecDepth 20000 in
theorem ws_X6_nextDigit : Cond.selects RX6 yX6_nextDigit yX6_nextDigit ∈ zB := List.mem_filter.mpr ⟨List.mem_of_getElem? (i := 4) (by decide +kernel), by decide +kernel⟩
theorem v_X6_nextDigit : zVir yX6_nextDigit 6 := ⟨wn_X6_nextDigit, ws_X6_nextDigit, TX6, 8, rfl⟩
theorem p_X6_36 : zPut RX6 36 6 2 false .int := ⟨RX6, TX6, 8, tyX6, rfl, by decide, iX6, wf_X6_36, rfl, tyX6_ok, nmX6, rfl, by decide +kernel, fun _ => rfl⟩
def rm_X6_readNumber : Room := { frames := 2, cells := 0, slots := 0, locals := 43 }
set_option maxHeartbeats 4000000 in
set_option maxRecDepth 20000 in
theorem t_X6_readNumber_31_body {p : Program} {l : Launch} {e : Env} {s : State} {m : MethodId} {args : Array Value} {below : List Frame} {meth : Method} {c : Code} {G : zG} (Z : zF p s m args c meth cX6_readNumber 5 RX6 G) (hr : meth.sig.returnType = (some .int)) {out : Int32 × zHp} {r31 : Nat → Int32 → Int32 → zHp → Option (Int32 × zHp)} (k31 : ∀ {a0 : Nat} {a2 : Int32} {a3 : Int32} {h : zHp} {H : Heap} {locs : List Loc} {ls : Array Slot}, r31 a0 a2 a3 h = some out → zE G s h H locs → lv_has ls 5 [(0, .ref a0), (2, .int a2), (3, .int a3)] → W p l e rm_X6_readNumber s m args below meth c H locs 0 0 (MQ below (zQi G out.1 out.2) args s 0 0 (zA G)) (F0 m 31 ls [])) {a0 : Nat} {a2 : Int32} {a3 : Int32} {h : zHp} {H : Heap} {locs : List Loc} {ls : Array Slot} (hf : f_X6_readNumber_31_body r31 a0 a2 a3 h = some out) (E : zE G s h H locs) (hl : lv_has ls 5 [(0, .ref a0), (2, .int a2), (3, .int a3)]) : W p l e rm_X6_readNumber s m args below meth c H locs 0 0 (MQ below (zQi G out.1 out.2) args s 0 0 (zA G)) (F0 m 31 ls []) := by
  unfold f_X6_readNumber_31_body at hf
  refine lv_aload_n Z.x Z.b dX6_readNumber_31 rfl (lv_at hl 0 rfl) ?_
  refine z_getI Z E q_X6_36 dX6_readNumber_32 hf (fun v1 hf => ?_)
  refine lv_aload_n Z.x Z.b dX6_readNumber_35 rfl (lv_at hl 0 rfl) ?_
  refine z_getI Z E q_X6_28 dX6_readNumber_36 hf (fun v2 hf => ?_)
  refine lv_icmp_ge (tgt := 92) Z.x Z.b dX6_readNumber_39 (by decide) (fun c => ?_) (fun c => ?_)
  · have hf := zit hf c
    refine lv_iload_n Z.x Z.b dX6_readNumber_92 rfl (lv_at hl 2 rfl) ?_
    exact z_iret Z E hr dX6_readNumber_93 hf
  · have hf := zif_ hf c
    refine lv_aload_n Z.x Z.b dX6_readNumber_42 rfl (lv_at hl 0 rfl) ?_
    refine z_Vi (As := []) Z E hl.1 k_X6_58 v_X6_nextDigit hf (fun r h' e => c_X6_nextDigit l G h h' a0 r e) rfl rfl (Nat.le_of_ble_eq_true rfl) (zRm_of rfl (Nat.zero_le _) (Nat.zero_le _)) dX6_readNumber_43 (fun v3 h4 H locs hf E => ?_)
    refine lv_istore (lv' := [(4, .int v3), (0, .ref a0), (2, .int a2), (3, .int a3)]) Z.x Z.b dX6_readNumber_46 hl (by decide) rfl (fun ls hl => ?_)
    refine lv_iload Z.x Z.b dX6_readNumber_48 (lv_at hl 0 rfl) ?_
    refine lv_iconst (v := (-1)) Z.x Z.b dX6_readNumber_50 (by decide) ?_
    refine lv_icmp_eq (tgt := 69) Z.x Z.b dX6_readNumber_51 (by decide) (fun c => ?_) (fun c => ?_)
    · have hf := zit hf c
      refine lv_iload_n Z.x Z.b dX6_readNumber_69 rfl (lv_at hl 3 rfl) ?_
      exact z_iret Z E hr dX6_readNumber_70 hf
    · have hf := zif_ hf c
      refine lv_iload_n Z.x Z.b dX6_readNumber_54 rfl (lv_at hl 3 rfl) ?_
      refine lv_if_eq (tgt := 69) Z.x Z.b dX6_readNumber_55 (by decide) (fun c => ?_) (fun c => ?_)
      · have hf := zit hf c
        refine lv_iload_n Z.x Z.b dX6_readNumber_69 rfl (lv_at hl 3 rfl) ?_
        exact z_iret Z E hr dX6_readNumber_70 hf
      · have hf := zif_ hf c
        refine lv_iload_n Z.x Z.b dX6_readNumber_58 rfl (lv_at hl 3 rfl) ?_
        refine lv_bipush (v := 10) Z.x Z.b dX6_readNumber_59 (by decide) ?_
        refine lv_imul Z.x Z.b dX6_readNumber_61 ?_
        refine lv_iload Z.x Z.b dX6_readNumber_62 (lv_at hl 0 rfl) ?_
        refine lv_iadd Z.x Z.b dX6_readNumber_64 ?_
        refine lv_iload_n Z.x Z.b dX6_readNumber_65 rfl (lv_at hl 2 rfl) ?_
        refine lv_icmp_le (tgt := 71) Z.x Z.b dX6_readNumber_66 (by decide) (fun c => ?_) (fun c => ?_)
        · have hf := zit hf c
          refine lv_iload_n Z.x Z.b dX6_readNumber_71 rfl (lv_at hl 3 rfl) ?_
          refine lv_bipush (v := 10) Z.x Z.b dX6_readNumber_72 (by decide) ?_
          refine lv_imul Z.x Z.b dX6_readNumber_74 ?_
          refine lv_iload Z.x Z.b dX6_readNumber_75 (lv_at hl 0 rfl) ?_
          refine lv_iadd Z.x Z.b dX6_readNumber_77 ?_
          refine lv_istore_n (lv' := [(3, .int ((a3 * 10) + v3)), (4, .int v3), (0, .ref a0), (2, .int a2)]) Z.x Z.b dX6_readNumber_78 rfl hl (by decide) rfl (fun ls hl => ?_)
          refine lv_aload_n Z.x Z.b dX6_readNumber_79 rfl (lv_at hl 2 rfl) ?_
          refine lv_dup Z.x Z.b dX6_readNumber_80 rfl ?_
          refine z_getI Z E q_X6_36 dX6_readNumber_81 hf (fun v5 hf => ?_)
          refine lv_iconst (v := 1) Z.x Z.b dX6_readNumber_84 (by decide) ?_
          refine lv_iadd Z.x Z.b dX6_readNumber_85 ?_
          refine z_put Z E p_X6_36 rfl rfl dX6_readNumber_86 hf (fun h6 H locs hf E => ?_)
          refine lv_goto (tgt := 31) Z.x Z.b dX6_readNumber_89 (by decide) ?_
          exact k31 hf E (lv_sub hl [2, 3, 0] rfl)
        · have hf := zif_ hf c
          refine lv_iload_n Z.x Z.b dX6_readNumber_69 rfl (lv_at hl 3 rfl) ?_
          exact z_iret Z E hr dX6_readNumber_70 hf
theorem t_X6_readNumber_31 {p : Program} {l : Launch} {e : Env} {s : State} {m : MethodId} {args : Array Value} {below : List Frame} {meth : Method} {c : Code} {G : zG} (Z : zF p s m args c meth cX6_readNumber 5 RX6 G) (hr : meth.sig.returnType = (some .int)) {out : Int32 × zHp} : ∀ (n : Nat), ∀ {a0 : Nat} {a2 : Int32} {a3 : Int32} {h : zHp} {H : Heap} {locs : List Loc} {ls : Array Slot}, f_X6_readNumber_31 n a0 a2 a3 h = some out → zE G s h H locs → lv_has ls 5 [(0, .ref a0), (2, .int a2), (3, .int a3)] → W p l e rm_X6_readNumber s m args below meth c H locs 0 0 (MQ below (zQi G out.1 out.2) args s 0 0 (zA G)) (F0 m 31 ls [])
  | 0 => fun hf => by cases hf
  | n + 1 => fun hf E hl => t_X6_readNumber_31_body Z hr (r31 := f_X6_readNumber_31 n) (t_X6_readNumber_31 Z hr n) hf E hl
set_option maxHeartbeats 4000000 in
set_option maxRecDepth 20000 in
theorem t_X6_readNumber {p : Program} {l : Launch} {e : Env} {s : State} {m : MethodId} {args : Array Value} {below : List Frame} {meth : Method} {c : Code} {G : zG} (Z : zF p s m args c meth cX6_readNumber 5 RX6 G) (hr : meth.sig.returnType = (some .int)) {out : Int32 × zHp} {a0 : Nat} {a1 : Int32} {a2 : Int32} {h : zHp} {H : Heap} {locs : List Loc} {ls : Array Slot} (hf : f_X6_readNumber a0 a1 a2 h = some out) (E : zE G s h H locs) (hl : lv_has ls 5 [(0, .ref a0), (1, .int a1), (2, .int a2)]) : W p l e rm_X6_readNumber s m args below meth c H locs 0 0 (MQ below (zQi G out.1 out.2) args s 0 0 (zA G)) (F0 m 0 ls []) := by
  unfold f_X6_readNumber at hf
  refine lv_aload_n Z.x Z.b dX6_readNumber_0 rfl (lv_at hl 0 rfl) ?_
  refine z_Vi (As := []) Z E hl.1 k_X6_58 v_X6_nextDigit hf (fun r h' e => c_X6_nextDigit l G h h' a0 r e) rfl rfl (Nat.le_of_ble_eq_true rfl) (zRm_of rfl (Nat.zero_le _) (Nat.zero_le _)) dX6_readNumber_1 (fun v1 h2 H locs hf E => ?_)
  refine lv_istore_n (lv' := [(3, .int v1), (0, .ref a0), (1, .int a1), (2, .int a2)]) Z.x Z.b dX6_readNumber_4 rfl hl (by decide) rfl (fun ls hl => ?_)
  refine lv_iload_n Z.x Z.b dX6_readNumber_5 rfl (lv_at hl 0 rfl) ?_
  refine lv_iconst (v := (-1)) Z.x Z.b dX6_readNumber_6 (by decide) ?_
  refine lv_icmp_eq (tgt := 19) Z.x Z.b dX6_readNumber_7 (by decide) (fun c => ?_) (fun c => ?_)
  · have hf := zit hf c
    refine lv_iconst (v := (-1)) Z.x Z.b dX6_readNumber_19 (by decide) ?_
    exact z_iret Z E hr dX6_readNumber_20 hf
  · have hf := zif_ hf c
    refine lv_iload_n Z.x Z.b dX6_readNumber_10 rfl (lv_at hl 0 rfl) ?_
    refine lv_iload_n Z.x Z.b dX6_readNumber_11 rfl (lv_at hl 2 rfl) ?_
    refine lv_iload_n Z.x Z.b dX6_readNumber_12 rfl (lv_at hl 3 rfl) ?_
    refine z_SNi (As := [.int v1, .int a1, .int a2]) Z E hl.1 k_X6_32 wt_X7_isWithin hf (fun r h' e => c_X7_isWithin l G h2 h' v1 a1 a2 r e) rfl rfl (Nat.le_of_ble_eq_true rfl) (zRm_of rfl (Nat.zero_le _) (Nat.zero_le _)) dX6_readNumber_13 (fun v3 h4 H locs hf E => ?_)
    refine lv_if_ne (tgt := 21) Z.x Z.b dX6_readNumber_16 (by decide) (fun c => ?_) (fun c => ?_)
    · have hf := zif_ hf c
      refine lv_aload_n Z.x Z.b dX6_readNumber_21 rfl (lv_at hl 1 rfl) ?_
      refine lv_dup Z.x Z.b dX6_readNumber_22 rfl ?_
      refine z_getI Z E q_X6_36 dX6_readNumber_23 hf (fun v5 hf => ?_)
      refine lv_iconst (v := 1) Z.x Z.b dX6_readNumber_26 (by decide) ?_
      refine lv_iadd Z.x Z.b dX6_readNumber_27 ?_
      refine z_put Z E p_X6_36 rfl rfl dX6_readNumber_28 hf (fun h6 H locs hf E => ?_)
      exact t_X6_readNumber_31 Z hr zN hf E (lv_sub hl [1, 3, 0] rfl)
    · have hf := zit hf c
      refine lv_iconst (v := (-1)) Z.x Z.b dX6_readNumber_19 (by decide) ?_
      exact z_iret Z E hr dX6_readNumber_20 hf
set_option maxHeartbeats 4000000 in
set_option maxRecDepth 20000 in
theorem c_X6_readNumber (l : Launch) (G : zG) (h : zHp) (h' : zHp) (a0 : Nat) (a1 : Int32) (a2 : Int32) (r : Int32) (hf : f_X6_readNumber a0 a1 a2 h = some (r, h')) : zM0 l yX6_readNumber cX6_readNumber 5 (some .int) rm_X6_readNumber G [.ref a0, .int a1, .int a2] h (zQi G r h') := by
  refine Met.ofW (cc := cX6_readNumber) (maxL := 5) (ret := (some .int)) (by decide) rfl ?_
  intro p e s m args below meth c s₁ B hml hv
  obtain ⟨rfl, hW⟩ := hv
  obtain ⟨Z, E, hr⟩ := zEnter (own := RX6) B hml rfl hW
  have hl := lv_entry ([.ref a0, .int a1, .int a2]) (n := 5) (Nat.le_of_ble_eq_true rfl)
  rw [lg_entry_eq]
  generalize (lg_sl ([.ref a0, .int a1, .int a2]) ++ List.replicate (5 - (lg_sl ([.ref a0, .int a1, .int a2])).length) Slot.unset).toArray = ls at hl ⊢
  have hl : lv_has ls 5 [(0, .ref a0), (1, .int a1), (2, .int a2)] := hl
  exact t_X6_readNumber (out := (r, h')) Z hr hf E hl
/-! FerryCrews$Text.accept(C)Z -/
theorem dX6_accept_0 : decode cX6_accept 0 = .ok (.aload_n 0, 1) := by decide +kernel
theorem dX6_accept_1 : decode cX6_accept 1 = .ok (.getfield 36, 3) := by decide +kernel
theorem dX6_accept_4 : decode cX6_accept 4 = .ok (.ifCond .lt 36, 3) := by decide +kernel
theorem dX6_accept_7 : decode cX6_accept 7 = .ok (.aload_n 0, 1) := by decide +kernel
theorem dX6_accept_8 : decode cX6_accept 8 = .ok (.getfield 36, 3) := by decide +kernel
theorem dX6_accept_11 : decode cX6_accept 11 = .ok (.aload_n 0, 1) := by decide +kernel
theorem dX6_accept_12 : decode cX6_accept 12 = .ok (.getfield 28, 3) := by decide +kernel
theorem dX6_accept_15 : decode cX6_accept 15 = .ok (.if_icmp .ge 25, 3) := by decide +kernel
theorem dX6_accept_18 : decode cX6_accept 18 = .ok (.aload_n 0, 1) := by decide +kernel
theorem dX6_accept_19 : decode cX6_accept 19 = .ok (.getfield 36, 3) := by decide +kernel
theorem dX6_accept_22 : decode cX6_accept 22 = .ok (.bipush 60, 2) := by decide +kernel
theorem dX6_accept_24 : decode cX6_accept 24 = .ok (.if_icmp .ge 16, 3) := by decide +kernel
theorem dX6_accept_27 : decode cX6_accept 27 = .ok (.aload_n 0, 1) := by decide +kernel
theorem dX6_accept_28 : decode cX6_accept 28 = .ok (.getfield 9, 3) := by decide +kernel
theorem dX6_accept_31 : decode cX6_accept 31 = .ok (.aload_n 0, 1) := by decide +kernel
theorem dX6_accept_32 : decode cX6_accept 32 = .ok (.getfield 36, 3) := by decide +kernel
theorem dX6_accept_35 : decode cX6_accept 35 = .ok (.caload, 1) := by decide +kernel
theorem dX6_accept_36 : decode cX6_accept 36 = .ok (.iload_n 1, 1) := by decide +kernel
theorem dX6_accept_37 : decode cX6_accept 37 = .ok (.if_icmp .eq 5, 3) := by decide +kernel
theorem dX6_accept_40 : decode cX6_accept 40 = .ok (.iconst 0, 1) := by decide +kernel
theorem dX6_accept_41 : decode cX6_accept 41 = .ok (.ireturn, 1) := by decide +kernel
theorem dX6_accept_42 : decode cX6_accept 42 = .ok (.aload_n 0, 1) := by decide +kernel
theorem dX6_accept_43 : decode cX6_accept 43 = .ok (.dup, 1) := by decide +kernel
theorem dX6_accept_44 : decode cX6_accept 44 = .ok (.getfield 36, 3) := by decide +kernel
theorem dX6_accept_47 : decode cX6_accept 47 = .ok (.iconst 1, 1) := by decide +kernel
theorem dX6_accept_48 : decode cX6_accept 48 = .ok (.iadd, 1) := by decide +kernel
theorem dX6_accept_49 : decode cX6_accept 49 = .ok (.putfield 36, 3) := by decide +kernel
theorem dX6_accept_52 : decode cX6_accept 52 = .ok (.iconst 1, 1) := by decide +kernel
theorem dX6_accept_53 : decode cX6_accept 53 = .ok (.ireturn, 1) := by decide +kernel
def rm_X6_accept : Room := { frames := 0, cells := 0, slots := 0, locals := 0 }
set_option maxHeartbeats 4000000 in
set_option maxRecDepth 20000 in
theorem t_X6_accept {p : Program} {l : Launch} {e : Env} {s : State} {m : MethodId} {args : Array Value} {below : List Frame} {meth : Method} {c : Code} {G : zG} (Z : zF p s m args c meth cX6_accept 2 RX6 G) (hr : meth.sig.returnType = (some .boolean)) {out : Int32 × zHp} {a0 : Nat} {a1 : Int32} {h : zHp} {H : Heap} {locs : List Loc} {ls : Array Slot} (hf : f_X6_accept a0 a1 h = some out) (E : zE G s h H locs) (hl : lv_has ls 2 [(0, .ref a0), (1, .int a1)]) : W p l e rm_X6_accept s m args below meth c H locs 0 0 (MQ below (zQi G out.1 out.2) args s 0 0 (zA G)) (F0 m 0 ls []) := by
  unfold f_X6_accept at hf
  refine lv_aload_n Z.x Z.b dX6_accept_0 rfl (lv_at hl 0 rfl) ?_
  refine z_getI Z E q_X6_36 dX6_accept_1 hf (fun v1 hf => ?_)
  refine lv_if_lt (tgt := 40) Z.x Z.b dX6_accept_4 (by decide) (fun c => ?_) (fun c => ?_)
  · have hf := zit hf c
    refine lv_iconst (v := 0) Z.x Z.b dX6_accept_40 (by decide) ?_
    exact z_zret Z E hr dX6_accept_41 hf
  · have hf := zif_ hf c
    refine lv_aload_n Z.x Z.b dX6_accept_7 rfl (lv_at hl 0 rfl) ?_
    refine z_getI Z E q_X6_36 dX6_accept_8 hf (fun v2 hf => ?_)
    refine lv_aload_n Z.x Z.b dX6_accept_11 rfl (lv_at hl 0 rfl) ?_
    refine z_getI Z E q_X6_28 dX6_accept_12 hf (fun v3 hf => ?_)
    refine lv_icmp_ge (tgt := 40) Z.x Z.b dX6_accept_15 (by decide) (fun c => ?_) (fun c => ?_)
    · have hf := zit hf c
      refine lv_iconst (v := 0) Z.x Z.b dX6_accept_40 (by decide) ?_
      exact z_zret Z E hr dX6_accept_41 hf
    · have hf := zif_ hf c
      refine lv_aload_n Z.x Z.b dX6_accept_18 rfl (lv_at hl 0 rfl) ?_
      refine z_getI Z E q_X6_36 dX6_accept_19 hf (fun v4 hf => ?_)
      refine lv_bipush (v := 60) Z.x Z.b dX6_accept_22 (by decide) ?_
      refine lv_icmp_ge (tgt := 40) Z.x Z.b dX6_accept_24 (by decide) (fun c => ?_) (fun c => ?_)
      · have hf := zit hf c
        refine lv_iconst (v := 0) Z.x Z.b dX6_accept_40 (by decide) ?_
        exact z_zret Z E hr dX6_accept_41 hf
      · have hf := zif_ hf c
        refine lv_aload_n Z.x Z.b dX6_accept_27 rfl (lv_at hl 0 rfl) ?_
        refine z_getR Z E q_X6_9 dX6_accept_28 hf (fun v5 hf => ?_)
        refine lv_aload_n Z.x Z.b dX6_accept_31 rfl (lv_at hl 0 rfl) ?_
        refine z_getI Z E q_X6_36 dX6_accept_32 hf (fun v6 hf => ?_)
        refine z_cald Z E dX6_accept_35 hf (fun v7 hf => ?_)
        refine lv_iload_n Z.x Z.b dX6_accept_36 rfl (lv_at hl 1 rfl) ?_
        refine lv_icmp_eq (tgt := 42) Z.x Z.b dX6_accept_37 (by decide) (fun c => ?_) (fun c => ?_)
        · have hf := zit hf c
          refine lv_aload_n Z.x Z.b dX6_accept_42 rfl (lv_at hl 0 rfl) ?_
          refine lv_dup Z.x Z.b dX6_accept_43 rfl ?_
          refine z_getI Z E q_X6_36 dX6_accept_44 hf (fun v8 hf => ?_)
          refine lv_iconst (v := 1) Z.x Z.b dX6_accept_47 (by decide) ?_
          refine lv_iadd Z.x Z.b dX6_accept_48 ?_
          refine z_put Z E p_X6_36 rfl rfl dX6_accept_49 hf (fun h9 H locs hf E => ?_)
          refine lv_iconst (v := 1) Z.x Z.b dX6_accept_52 (by decide) ?_
          exact z_zret Z E hr dX6_accept_53 hf
        · have hf := zif_ hf c
          refine lv_iconst (v := 0) Z.x Z.b dX6_accept_40 (by decide) ?_
          exact z_zret Z E hr dX6_accept_41 hf
set_option maxHeartbeats 4000000 in
set_option maxRecDepth 20000 in
theorem c_X6_accept (l : Launch) (G : zG) (h : zHp) (h' : zHp) (a0 : Nat) (a1 : Int32) (r : Int32) (hf : f_X6_accept a0 a1 h = some (r, h')) : zM0 l yX6_accept cX6_accept 2 (some .boolean) rm_X6_accept G [.ref a0, .int a1] h (zQi G r h') := by
  refine Met.ofW (cc := cX6_accept) (maxL := 2) (ret := (some .boolean)) (by decide) rfl ?_
  intro p e s m args below meth c s₁ B hml hv
  obtain ⟨rfl, hW⟩ := hv
  obtain ⟨Z, E, hr⟩ := zEnter (own := RX6) B hml rfl hW
  have hl := lv_entry ([.ref a0, .int a1]) (n := 2) (Nat.le_of_ble_eq_true rfl)
  rw [lg_entry_eq]
  generalize (lg_sl ([.ref a0, .int a1]) ++ List.replicate (2 - (lg_sl ([.ref a0, .int a1])).length) Slot.unset).toArray = ls at hl ⊢
  have hl : lv_has ls 2 [(0, .ref a0), (1, .int a1)] := hl
  exact t_X6_accept (out := (r, h')) Z hr hf E hl
/-! FerryCrews$Text.readSet()I -/
theorem dX6_readSet_0 : decode cX6_readSet 0 = .ok (.iconst 0, 1) := by decide +kernel
theorem dX6_readSet_1 : decode cX6_readSet 1 = .ok (.istore_n 1, 1) := by decide +kernel
theorem dX6_readSet_2 : decode cX6_readSet 2 = .ok (.iconst 0, 1) := by decide +kernel
theorem dX6_readSet_3 : decode cX6_readSet 3 = .ok (.istore_n 2, 1) := by decide +kernel
theorem dX6_readSet_4 : decode cX6_readSet 4 = .ok (.iload_n 2, 1) := by decide +kernel
theorem dX6_readSet_5 : decode cX6_readSet 5 = .ok (.iconst 4, 1) := by decide +kernel
theorem dX6_readSet_6 : decode cX6_readSet 6 = .ok (.if_icmp .ge 42, 3) := by decide +kernel
theorem dX6_readSet_9 : decode cX6_readSet 9 = .ok (.aload_n 0, 1) := by decide +kernel
theorem dX6_readSet_10 : decode cX6_readSet 10 = .ok (.invokevirtual 58, 3) := by decide +kernel
theorem dX6_readSet_13 : decode cX6_readSet 13 = .ok (.istore_n 3, 1) := by decide +kernel
theorem dX6_readSet_14 : decode cX6_readSet 14 = .ok (.iload_n 3, 1) := by decide +kernel
theorem dX6_readSet_15 : decode cX6_readSet 15 = .ok (.iconst 0, 1) := by decide +kernel
theorem dX6_readSet_16 : decode cX6_readSet 16 = .ok (.iconst 3, 1) := by decide +kernel
theorem dX6_readSet_17 : decode cX6_readSet 17 = .ok (.invokestatic 32, 3) := by decide +kernel
theorem dX6_readSet_20 : decode cX6_readSet 20 = .ok (.ifCond .ne 5, 3) := by decide +kernel
theorem dX6_readSet_23 : decode cX6_readSet 23 = .ok (.iconst (-1), 1) := by decide +kernel
theorem dX6_readSet_24 : decode cX6_readSet 24 = .ok (.ireturn, 1) := by decide +kernel
theorem dX6_readSet_25 : decode cX6_readSet 25 = .ok (.iload_n 1, 1) := by decide +kernel
theorem dX6_readSet_26 : decode cX6_readSet 26 = .ok (.bipush 10, 2) := by decide +kernel
theorem dX6_readSet_28 : decode cX6_readSet 28 = .ok (.imul, 1) := by decide +kernel
theorem dX6_readSet_29 : decode cX6_readSet 29 = .ok (.iload_n 3, 1) := by decide +kernel
theorem dX6_readSet_30 : decode cX6_readSet 30 = .ok (.iadd, 1) := by decide +kernel
theorem dX6_readSet_31 : decode cX6_readSet 31 = .ok (.istore_n 1, 1) := by decide +kernel
theorem dX6_readSet_32 : decode cX6_readSet 32 = .ok (.aload_n 0, 1) := by decide +kernel
theorem dX6_readSet_33 : decode cX6_readSet 33 = .ok (.dup, 1) := by decide +kernel
theorem dX6_readSet_34 : decode cX6_readSet 34 = .ok (.getfield 36, 3) := by decide +kernel
theorem dX6_readSet_37 : decode cX6_readSet 37 = .ok (.iconst 1, 1) := by decide +kernel
theorem dX6_readSet_38 : decode cX6_readSet 38 = .ok (.iadd, 1) := by decide +kernel
theorem dX6_readSet_39 : decode cX6_readSet 39 = .ok (.putfield 36, 3) := by decide +kernel
theorem dX6_readSet_42 : decode cX6_readSet 42 = .ok (.iinc 2 1, 3) := by decide +kernel
theorem dX6_readSet_45 : decode cX6_readSet 45 = .ok (.goto (-41), 3) := by decide +kernel
theorem dX6_readSet_48 : decode cX6_readSet 48 = .ok (.iload_n 1, 1) := by decide +kernel
theorem dX6_readSet_49 : decode cX6_readSet 49 = .ok (.ireturn, 1) := by decide +kernel
def rm_X6_readSet : Room := { frames := 2, cells := 0, slots := 0, locals := 43 }
set_option maxHeartbeats 4000000 in
set_option maxRecDepth 20000 in
theorem t_X6_readSet_4_body {p : Program} {l : Launch} {e : Env} {s : State} {m : MethodId} {args : Array Value} {below : List Frame} {meth : Method} {c : Code} {G : zG} (Z : zF p s m args c meth cX6_readSet 4 RX6 G) (hr : meth.sig.returnType = (some .int)) {out : Int32 × zHp} {r4 : Nat → Int32 → Int32 → zHp → Option (Int32 × zHp)} (k4 : ∀ {a0 : Nat} {a1 : Int32} {a2 : Int32} {h : zHp} {H : Heap} {locs : List Loc} {ls : Array Slot}, r4 a0 a1 a2 h = some out → zE G s h H locs → lv_has ls 4 [(0, .ref a0), (1, .int a1), (2, .int a2)] → W p l e rm_X6_readSet s m args below meth c H locs 0 0 (MQ below (zQi G out.1 out.2) args s 0 0 (zA G)) (F0 m 4 ls [])) {a0 : Nat} {a1 : Int32} {a2 : Int32} {h : zHp} {H : Heap} {locs : List Loc} {ls : Array Slot} (hf : f_X6_readSet_4_body r4 a0 a1 a2 h = some out) (E : zE G s h H locs) (hl : lv_has ls 4 [(0, .ref a0), (1, .int a1), (2, .int a2)]) : W p l e rm_X6_readSet s m args below meth c H locs 0 0 (MQ below (zQi G out.1 out.2) args s 0 0 (zA G)) (F0 m 4 ls []) := by
  unfold f_X6_readSet_4_body at hf
  refine lv_iload_n Z.x Z.b dX6_readSet_4 rfl (lv_at hl 2 rfl) ?_
  refine lv_iconst (v := 4) Z.x Z.b dX6_readSet_5 (by decide) ?_
  refine lv_icmp_ge (tgt := 48) Z.x Z.b dX6_readSet_6 (by decide) (fun c => ?_) (fun c => ?_)
  · have hf := zit hf c
    refine lv_iload_n Z.x Z.b dX6_readSet_48 rfl (lv_at hl 1 rfl) ?_
    exact z_iret Z E hr dX6_readSet_49 hf
  · have hf := zif_ hf c
    refine lv_aload_n Z.x Z.b dX6_readSet_9 rfl (lv_at hl 0 rfl) ?_
    refine z_Vi (As := []) Z E hl.1 k_X6_58 v_X6_nextDigit hf (fun r h' e => c_X6_nextDigit l G h h' a0 r e) rfl rfl (Nat.le_of_ble_eq_true rfl) (zRm_of rfl (Nat.zero_le _) (Nat.zero_le _)) dX6_readSet_10 (fun v1 h2 H locs hf E => ?_)
    refine lv_istore_n (lv' := [(3, .int v1), (0, .ref a0), (1, .int a1), (2, .int a2)]) Z.x Z.b dX6_readSet_13 rfl hl (by decide) rfl (fun ls hl => ?_)
    refine lv_iload_n Z.x Z.b dX6_readSet_14 rfl (lv_at hl 0 rfl) ?_
    refine lv_iconst (v := 0) Z.x Z.b dX6_readSet_15 (by decide) ?_
    refine lv_iconst (v := 3) Z.x Z.b dX6_readSet_16 (by decide) ?_
    refine z_SNi (As := [.int v1, .int 0, .int 3]) Z E hl.1 k_X6_32 wt_X7_isWithin hf (fun r h' e => c_X7_isWithin l G h2 h' v1 0 3 r e) rfl rfl (Nat.le_of_ble_eq_true rfl) (zRm_of rfl (Nat.zero_le _) (Nat.zero_le _)) dX6_readSet_17 (fun v3 h4 H locs hf E => ?_)
    refine lv_if_ne (tgt := 25) Z.x Z.b dX6_readSet_20 (by decide) (fun c => ?_) (fun c => ?_)
    · have hf := zif_ hf c
      refine lv_iload_n Z.x Z.b dX6_readSet_25 rfl (lv_at hl 2 rfl) ?_
      refine lv_bipush (v := 10) Z.x Z.b dX6_readSet_26 (by decide) ?_
      refine lv_imul Z.x Z.b dX6_readSet_28 ?_
      refine lv_iload_n Z.x Z.b dX6_readSet_29 rfl (lv_at hl 0 rfl) ?_
      refine lv_iadd Z.x Z.b dX6_readSet_30 ?_
      refine lv_istore_n (lv' := [(1, .int ((a1 * 10) + v1)), (3, .int v1), (0, .ref a0), (2, .int a2)]) Z.x Z.b dX6_readSet_31 rfl hl (by decide) rfl (fun ls hl => ?_)
      refine lv_aload_n Z.x Z.b dX6_readSet_32 rfl (lv_at hl 2 rfl) ?_
      refine lv_dup Z.x Z.b dX6_readSet_33 rfl ?_
      refine z_getI Z E q_X6_36 dX6_readSet_34 hf (fun v5 hf => ?_)
      refine lv_iconst (v := 1) Z.x Z.b dX6_readSet_37 (by decide) ?_
      refine lv_iadd Z.x Z.b dX6_readSet_38 ?_
      refine z_put Z E p_X6_36 rfl rfl dX6_readSet_39 hf (fun h6 H locs hf E => ?_)
      refine lv_iinc (v := (a2 + 1)) (lv' := [(2, .int (a2 + 1)), (1, .int ((a1 * 10) + v1)), (3, .int v1), (0, .ref a0)]) Z.x Z.b dX6_readSet_42 hl (k := 3) rfl rfl (by decide) rfl (fun ls hl => ?_)
      refine lv_goto (tgt := 4) Z.x Z.b dX6_readSet_45 (by decide) ?_
      exact k4 hf E (lv_sub hl [3, 1, 0] rfl)
    · have hf := zit hf c
      refine lv_iconst (v := (-1)) Z.x Z.b dX6_readSet_23 (by decide) ?_
      exact z_iret Z E hr dX6_readSet_24 hf
theorem t_X6_readSet_4 {p : Program} {l : Launch} {e : Env} {s : State} {m : MethodId} {args : Array Value} {below : List Frame} {meth : Method} {c : Code} {G : zG} (Z : zF p s m args c meth cX6_readSet 4 RX6 G) (hr : meth.sig.returnType = (some .int)) {out : Int32 × zHp} : ∀ (n : Nat), ∀ {a0 : Nat} {a1 : Int32} {a2 : Int32} {h : zHp} {H : Heap} {locs : List Loc} {ls : Array Slot}, f_X6_readSet_4 n a0 a1 a2 h = some out → zE G s h H locs → lv_has ls 4 [(0, .ref a0), (1, .int a1), (2, .int a2)] → W p l e rm_X6_readSet s m args below meth c H locs 0 0 (MQ below (zQi G out.1 out.2) args s 0 0 (zA G)) (F0 m 4 ls [])
  | 0 => fun hf => by cases hf
  | n + 1 => fun hf E hl => t_X6_readSet_4_body Z hr (r4 := f_X6_readSet_4 n) (t_X6_readSet_4 Z hr n) hf E hl
set_option maxHeartbeats 4000000 in
set_option maxRecDepth 20000 in
theorem t_X6_readSet {p : Program} {l : Launch} {e : Env} {s : State} {m : MethodId} {args : Array Value} {below : List Frame} {meth : Method} {c : Code} {G : zG} (Z : zF p s m args c meth cX6_readSet 4 RX6 G) (hr : meth.sig.returnType = (some .int)) {out : Int32 × zHp} {a0 : Nat} {h : zHp} {H : Heap} {locs : List Loc} {ls : Array Slot} (hf : f_X6_readSet a0 h = some out) (E : zE G s h H locs) (hl : lv_has ls 4 [(0, .ref a0)]) : W p l e rm_X6_readSet s m args below meth c H locs 0 0 (MQ below (zQi G out.1 out.2) args s 0 0 (zA G)) (F0 m 0 ls []) := by
  unfold f_X6_readSet at hf
  refine lv_iconst (v := 0) Z.x Z.b dX6_readSet_0 (by decide) ?_
  refine lv_istore_n (lv' := [(1, .int 0), (0, .ref a0)]) Z.x Z.b dX6_readSet_1 rfl hl (by decide) rfl (fun ls hl => ?_)
  refine lv_iconst (v := 0) Z.x Z.b dX6_readSet_2 (by decide) ?_
  refine lv_istore_n (lv' := [(2, .int 0), (1, .int 0), (0, .ref a0)]) Z.x Z.b dX6_readSet_3 rfl hl (by decide) rfl (fun ls hl => ?_)
  exact t_X6_readSet_4 Z hr zN hf E (lv_sub hl [2, 1, 0] rfl)
set_option maxHeartbeats 4000000 in
set_option maxRecDepth 20000 in
theorem c_X6_readSet (l : Launch) (G : zG) (h : zHp) (h' : zHp) (a0 : Nat) (r : Int32) (hf : f_X6_readSet a0 h = some (r, h')) : zM0 l yX6_readSet cX6_readSet 4 (some .int) rm_X6_readSet G [.ref a0] h (zQi G r h') := by
  refine Met.ofW (cc := cX6_readSet) (maxL := 4) (ret := (some .int)) (by decide) rfl ?_
  intro p e s m args below meth c s₁ B hml hv
  obtain ⟨rfl, hW⟩ := hv
  obtain ⟨Z, E, hr⟩ := zEnter (own := RX6) B hml rfl hW
  have hl := lv_entry ([.ref a0]) (n := 4) (Nat.le_of_ble_eq_true rfl)
  rw [lg_entry_eq]
  generalize (lg_sl ([.ref a0]) ++ List.replicate (4 - (lg_sl ([.ref a0])).length) Slot.unset).toArray = ls at hl ⊢
  have hl : lv_has ls 4 [(0, .ref a0)] := hl
  exact t_X6_readSet (out := (r, h')) Z hr hf E hl
/-! FerryCrews$Text.readSailing()Z -/
theorem dX6_readSailing_0 : decode cX6_readSailing 0 = .ok (.aload_n 0, 1) := by decide +kernel
theorem dX6_readSailing_1 : decode cX6_readSailing 1 = .ok (.iconst 0, 1) := by decide +kernel
theorem dX6_readSailing_2 : decode cX6_readSailing 2 = .ok (.iconst 5, 1) := by decide +kernel
theorem dX6_readSailing_3 : decode cX6_readSailing 3 = .ok (.invokevirtual 50, 3) := by decide +kernel
theorem dX6_readSailing_6 : decode cX6_readSailing 6 = .ok (.istore_n 1, 1) := by decide +kernel
theorem dX6_readSailing_7 : decode cX6_readSailing 7 = .ok (.iload_n 1, 1) := by decide +kernel
theorem dX6_readSailing_8 : decode cX6_readSailing 8 = .ok (.iconst (-1), 1) := by decide +kernel
theorem dX6_readSailing_9 : decode cX6_readSailing 9 = .ok (.if_icmp .eq 12, 3) := by decide +kernel
theorem dX6_readSailing_12 : decode cX6_readSailing 12 = .ok (.aload_n 0, 1) := by decide +kernel
theorem dX6_readSailing_13 : decode cX6_readSailing 13 = .ok (.bipush 58, 2) := by decide +kernel
theorem dX6_readSailing_15 : decode cX6_readSailing 15 = .ok (.invokevirtual 46, 3) := by decide +kernel
theorem dX6_readSailing_18 : decode cX6_readSailing 18 = .ok (.ifCond .ne 5, 3) := by decide +kernel
theorem dX6_readSailing_21 : decode cX6_readSailing 21 = .ok (.iconst 0, 1) := by decide +kernel
theorem dX6_readSailing_22 : decode cX6_readSailing 22 = .ok (.ireturn, 1) := by decide +kernel
theorem dX6_readSailing_23 : decode cX6_readSailing 23 = .ok (.aload_n 0, 1) := by decide +kernel
theorem dX6_readSailing_24 : decode cX6_readSailing 24 = .ok (.iconst 0, 1) := by decide +kernel
theorem dX6_readSailing_25 : decode cX6_readSailing 25 = .ok (.sipush 900, 3) := by decide +kernel
theorem dX6_readSailing_28 : decode cX6_readSailing 28 = .ok (.invokevirtual 50, 3) := by decide +kernel
theorem dX6_readSailing_31 : decode cX6_readSailing 31 = .ok (.istore_n 2, 1) := by decide +kernel
theorem dX6_readSailing_32 : decode cX6_readSailing 32 = .ok (.iload_n 2, 1) := by decide +kernel
theorem dX6_readSailing_33 : decode cX6_readSailing 33 = .ok (.iconst (-1), 1) := by decide +kernel
theorem dX6_readSailing_34 : decode cX6_readSailing 34 = .ok (.if_icmp .eq 12, 3) := by decide +kernel
theorem dX6_readSailing_37 : decode cX6_readSailing 37 = .ok (.aload_n 0, 1) := by decide +kernel
theorem dX6_readSailing_38 : decode cX6_readSailing 38 = .ok (.bipush 43, 2) := by decide +kernel
theorem dX6_readSailing_40 : decode cX6_readSailing 40 = .ok (.invokevirtual 46, 3) := by decide +kernel
theorem dX6_readSailing_43 : decode cX6_readSailing 43 = .ok (.ifCond .ne 5, 3) := by decide +kernel
theorem dX6_readSailing_46 : decode cX6_readSailing 46 = .ok (.iconst 0, 1) := by decide +kernel
theorem dX6_readSailing_47 : decode cX6_readSailing 47 = .ok (.ireturn, 1) := by decide +kernel
theorem dX6_readSailing_48 : decode cX6_readSailing 48 = .ok (.aload_n 0, 1) := by decide +kernel
theorem dX6_readSailing_49 : decode cX6_readSailing 49 = .ok (.iconst 1, 1) := by decide +kernel
theorem dX6_readSailing_50 : decode cX6_readSailing 50 = .ok (.bipush 12, 2) := by decide +kernel
theorem dX6_readSailing_52 : decode cX6_readSailing 52 = .ok (.invokevirtual 50, 3) := by decide +kernel
theorem dX6_readSailing_55 : decode cX6_readSailing 55 = .ok (.istore_n 3, 1) := by decide +kernel
theorem dX6_readSailing_56 : decode cX6_readSailing 56 = .ok (.iload_n 3, 1) := by decide +kernel
theorem dX6_readSailing_57 : decode cX6_readSailing 57 = .ok (.iconst (-1), 1) := by decide +kernel
theorem dX6_readSailing_58 : decode cX6_readSailing 58 = .ok (.if_icmp .eq 12, 3) := by decide +kernel
theorem dX6_readSailing_61 : decode cX6_readSailing 61 = .ok (.aload_n 0, 1) := by decide +kernel
theorem dX6_readSailing_62 : decode cX6_readSailing 62 = .ok (.bipush 61, 2) := by decide +kernel
theorem dX6_readSailing_64 : decode cX6_readSailing 64 = .ok (.invokevirtual 46, 3) := by decide +kernel
theorem dX6_readSailing_67 : decode cX6_readSailing 67 = .ok (.ifCond .ne 5, 3) := by decide +kernel
theorem dX6_readSailing_70 : decode cX6_readSailing 70 = .ok (.iconst 0, 1) := by decide +kernel
theorem dX6_readSailing_71 : decode cX6_readSailing 71 = .ok (.ireturn, 1) := by decide +kernel
theorem dX6_readSailing_72 : decode cX6_readSailing 72 = .ok (.aload_n 0, 1) := by decide +kernel
theorem dX6_readSailing_73 : decode cX6_readSailing 73 = .ok (.invokevirtual 54, 3) := by decide +kernel
theorem dX6_readSailing_76 : decode cX6_readSailing 76 = .ok (.istore 4, 2) := by decide +kernel
theorem dX6_readSailing_78 : decode cX6_readSailing 78 = .ok (.iload 4, 2) := by decide +kernel
theorem dX6_readSailing_80 : decode cX6_readSailing 80 = .ok (.iconst (-1), 1) := by decide +kernel
theorem dX6_readSailing_81 : decode cX6_readSailing 81 = .ok (.if_icmp .eq 15, 3) := by decide +kernel
theorem dX6_readSailing_84 : decode cX6_readSailing 84 = .ok (.aload_n 0, 1) := by decide +kernel
theorem dX6_readSailing_85 : decode cX6_readSailing 85 = .ok (.getfield 39, 3) := by decide +kernel
theorem dX6_readSailing_88 : decode cX6_readSailing 88 = .ok (.iconst 0, 1) := by decide +kernel
theorem dX6_readSailing_89 : decode cX6_readSailing 89 = .ok (.iconst 5, 1) := by decide +kernel
theorem dX6_readSailing_90 : decode cX6_readSailing 90 = .ok (.invokestatic 32, 3) := by decide +kernel
theorem dX6_readSailing_93 : decode cX6_readSailing 93 = .ok (.ifCond .ne 5, 3) := by decide +kernel
theorem dX6_readSailing_96 : decode cX6_readSailing 96 = .ok (.iconst 0, 1) := by decide +kernel
theorem dX6_readSailing_97 : decode cX6_readSailing 97 = .ok (.ireturn, 1) := by decide +kernel
theorem dX6_readSailing_98 : decode cX6_readSailing 98 = .ok (.aload_n 0, 1) := by decide +kernel
theorem dX6_readSailing_99 : decode cX6_readSailing 99 = .ok (.getfield 15, 3) := by decide +kernel
theorem dX6_readSailing_102 : decode cX6_readSailing 102 = .ok (.aload_n 0, 1) := by decide +kernel
theorem dX6_readSailing_103 : decode cX6_readSailing 103 = .ok (.getfield 39, 3) := by decide +kernel
theorem dX6_readSailing_106 : decode cX6_readSailing 106 = .ok (.iload_n 1, 1) := by decide +kernel
theorem dX6_readSailing_107 : decode cX6_readSailing 107 = .ok (.iastore, 1) := by decide +kernel
theorem dX6_readSailing_108 : decode cX6_readSailing 108 = .ok (.aload_n 0, 1) := by decide +kernel
theorem dX6_readSailing_109 : decode cX6_readSailing 109 = .ok (.getfield 19, 3) := by decide +kernel
theorem dX6_readSailing_112 : decode cX6_readSailing 112 = .ok (.aload_n 0, 1) := by decide +kernel
theorem dX6_readSailing_113 : decode cX6_readSailing 113 = .ok (.getfield 39, 3) := by decide +kernel
theorem dX6_readSailing_116 : decode cX6_readSailing 116 = .ok (.iload_n 2, 1) := by decide +kernel
theorem dX6_readSailing_117 : decode cX6_readSailing 117 = .ok (.iastore, 1) := by decide +kernel
theorem dX6_readSailing_118 : decode cX6_readSailing 118 = .ok (.aload_n 0, 1) := by decide +kernel
theorem dX6_readSailing_119 : decode cX6_readSailing 119 = .ok (.getfield 22, 3) := by decide +kernel
theorem dX6_readSailing_122 : decode cX6_readSailing 122 = .ok (.aload_n 0, 1) := by decide +kernel
theorem dX6_readSailing_123 : decode cX6_readSailing 123 = .ok (.getfield 39, 3) := by decide +kernel
theorem dX6_readSailing_126 : decode cX6_readSailing 126 = .ok (.iload_n 3, 1) := by decide +kernel
theorem dX6_readSailing_127 : decode cX6_readSailing 127 = .ok (.iastore, 1) := by decide +kernel
theorem dX6_readSailing_128 : decode cX6_readSailing 128 = .ok (.aload_n 0, 1) := by decide +kernel
theorem dX6_readSailing_129 : decode cX6_readSailing 129 = .ok (.getfield 25, 3) := by decide +kernel
theorem dX6_readSailing_132 : decode cX6_readSailing 132 = .ok (.aload_n 0, 1) := by decide +kernel
theorem dX6_readSailing_133 : decode cX6_readSailing 133 = .ok (.getfield 39, 3) := by decide +kernel
theorem dX6_readSailing_136 : decode cX6_readSailing 136 = .ok (.iload 4, 2) := by decide +kernel
theorem dX6_readSailing_138 : decode cX6_readSailing 138 = .ok (.iastore, 1) := by decide +kernel
theorem dX6_readSailing_139 : decode cX6_readSailing 139 = .ok (.aload_n 0, 1) := by decide +kernel
theorem dX6_readSailing_140 : decode cX6_readSailing 140 = .ok (.dup, 1) := by decide +kernel
theorem dX6_readSailing_141 : decode cX6_readSailing 141 = .ok (.getfield 39, 3) := by decide +kernel
theorem dX6_readSailing_144 : decode cX6_readSailing 144 = .ok (.iconst 1, 1) := by decide +kernel
theorem dX6_readSailing_145 : decode cX6_readSailing 145 = .ok (.iadd, 1) := by decide +kernel
theorem dX6_readSailing_146 : decode cX6_readSailing 146 = .ok (.putfield 39, 3) := by decide +kernel
theorem dX6_readSailing_149 : decode cX6_readSailing 149 = .ok (.iconst 1, 1) := by decide +kernel
theorem dX6_readSailing_150 : decode cX6_readSailing 150 = .ok (.ireturn, 1) := by decide +kernel
set_option maxRecDepth 20000 in
theorem wc_X6_readNumber : Cond.code yX6_readNumber cX6_readNumber 5 (some .int) ∈ zB := List.mem_filter.mpr ⟨List.mem_of_getElem? (i := 375) (by decide +kernel), by decide +kernel⟩
set_option maxRecDepth 20000 in
theorem wm_X6_50 : Cond.methodLink RX6 50 yX6_readNumber ∈ zB := List.mem_filter.mpr ⟨List.mem_of_getElem? (i := 372) (by decide +kernel), by decide +kernel⟩
theorem k_X6_50 : zCal RX6 50 yX6_readNumber cX6_readNumber 5 (some .int) 2 := ⟨wm_X6_50, wi_X6, wc_X6_readNumber, by decide +kernel, by decide +kernel, by decide +kernel⟩
set_option maxRecDepth 20000 in
theorem wn_X6_readNumber : Cond.instanceMethod yX6_readNumber ∈ zB := List.mem_filter.mpr ⟨List.mem_of_getElem? (i := 374) (by decide +kernel), by decide +kernel⟩
set_option maxRecDepth 20000 in
theorem ws_X6_readNumber : Cond.selects RX6 yX6_readNumber yX6_readNumber ∈ zB := List.mem_filter.mpr ⟨List.mem_of_getElem? (i := 3) (by decide +kernel), by decide +kernel⟩
theorem v_X6_readNumber : zVir yX6_readNumber 6 := ⟨wn_X6_readNumber, ws_X6_readNumber, TX6, 8, rfl⟩
set_option maxRecDepth 20000 in
theorem wc_X6_accept : Cond.code yX6_accept cX6_accept 2 (some .boolean) ∈ zB := List.mem_filter.mpr ⟨List.mem_of_getElem? (i := 384) (by decide +kernel), by decide +kernel⟩
set_option maxRecDepth 20000 in
theorem wm_X6_46 : Cond.methodLink RX6 46 yX6_accept ∈ zB := List.mem_filter.mpr ⟨List.mem_of_getElem? (i := 381) (by decide +kernel), by decide +kernel⟩
theorem k_X6_46 : zCal RX6 46 yX6_accept cX6_accept 2 (some .boolean) 1 := ⟨wm_X6_46, wi_X6, wc_X6_accept, by decide +kernel, by decide +kernel, by decide +kernel⟩
set_option maxRecDepth 20000 in
theorem wn_X6_accept : Cond.instanceMethod yX6_accept ∈ zB := List.mem_filter.mpr ⟨List.mem_of_getElem? (i := 383) (by decide +kernel), by decide +kernel⟩
set_option maxRecDepth 20000 in
theorem ws_X6_accept : Cond.selects RX6 yX6_accept yX6_accept ∈ zB := List.mem_filter.mpr ⟨List.mem_of_getElem? (i := 5) (by decide +kernel), by decide +kernel⟩
theorem v_X6_accept : zVir yX6_accept 6 := ⟨wn_X6_accept, ws_X6_accept, TX6, 8, rfl⟩
set_option maxRecDepth 20000 in
theorem wc_X6_readSet : Cond.code yX6_readSet cX6_readSet 4 (some .int) ∈ zB := List.mem_filter.mpr ⟨List.mem_of_getElem? (i := 388) (by decide +kernel), by decide +kernel⟩
set_option maxRecDepth 20000 in
theorem wm_X6_54 : Cond.methodLink RX6 54 yX6_readSet ∈ zB := List.mem_filter.mpr ⟨List.mem_of_getElem? (i := 385) (by decide +kernel), by decide +kernel⟩
theorem k_X6_54 : zCal RX6 54 yX6_readSet cX6_readSet 4 (some .int) 0 := ⟨wm_X6_54, wi_X6, wc_X6_readSet, by decide +kernel, by decide +kernel, by decide +kernel⟩
set_option maxRecDepth 20000 in
theorem wn_X6_readSet : Cond.instanceMethod yX6_readSet ∈ zB := List.mem_filter.mpr ⟨List.mem_of_getElem? (i := 387) (by decide +kernel), by decide +kernel⟩
set_option maxRecDepth 20000 in
theorem ws_X6_readSet : Cond.selects RX6 yX6_readSet yX6_readSet ∈ zB := List.mem_filter.mpr ⟨List.mem_of_getElem? (i := 6) (by decide +kernel), by decide +kernel⟩
theorem v_X6_readSet : zVir yX6_readSet 6 := ⟨wn_X6_readSet, ws_X6_readSet, TX6, 8, rfl⟩
set_option maxRecDepth 20000 in
theorem wf_X6_39 : Cond.fieldLink RX6 39 RX6 "sailingsRead" "I" ∈ zB := List.mem_filter.mpr ⟨List.mem_of_getElem? (i := 255) (by decide +kernel), by decide +kernel⟩
theorem q_X6_39 : zFld RX6 39 6 3 := ⟨RX6, TX6, 8, rfl, by decide, iX6, wf_X6_39, rfl⟩
theorem q_X6_15 : zFld RX6 15 6 4 := ⟨RX6, TX6, 8, rfl, by decide, iX6, wf_X6_15, rfl⟩
theorem q_X6_19 : zFld RX6 19 6 5 := ⟨RX6, TX6, 8, rfl, by decide, iX6, wf_X6_19, rfl⟩
theorem q_X6_22 : zFld RX6 22 6 6 := ⟨RX6, TX6, 8, rfl, by decide, iX6, wf_X6_22, rfl⟩
theorem q_X6_25 : zFld RX6 25 6 7 := ⟨RX6, TX6, 8, rfl, by decide, iX6, wf_X6_25, rfl⟩
theorem p_X6_39 : zPut RX6 39 6 3 false .int := ⟨RX6, TX6, 8, tyX6, rfl, by decide, iX6, wf_X6_39, rfl, tyX6_ok, nmX6, rfl, by decide +kernel, fun _ => rfl⟩
def rm_X6_readSailing : Room := { frames := 3, cells := 0, slots := 0, locals := 67 }
set_option maxHeartbeats 4000000 in
set_option maxRecDepth 20000 in
theorem t_X6_readSailing {p : Program} {l : Launch} {e : Env} {s : State} {m : MethodId} {args : Array Value} {below : List Frame} {meth : Method} {c : Code} {G : zG} (Z : zF p s m args c meth cX6_readSailing 5 RX6 G) (hr : meth.sig.returnType = (some .boolean)) {out : Int32 × zHp} {a0 : Nat} {h : zHp} {H : Heap} {locs : List Loc} {ls : Array Slot} (hf : f_X6_readSailing a0 h = some out) (E : zE G s h H locs) (hl : lv_has ls 5 [(0, .ref a0)]) : W p l e rm_X6_readSailing s m args below meth c H locs 0 0 (MQ below (zQi G out.1 out.2) args s 0 0 (zA G)) (F0 m 0 ls []) := by
  unfold f_X6_readSailing at hf
  refine lv_aload_n Z.x Z.b dX6_readSailing_0 rfl (lv_at hl 0 rfl) ?_
  refine lv_iconst (v := 0) Z.x Z.b dX6_readSailing_1 (by decide) ?_
  refine lv_iconst (v := 5) Z.x Z.b dX6_readSailing_2 (by decide) ?_
  refine z_Vi (As := [.int 0, .int 5]) Z E hl.1 k_X6_50 v_X6_readNumber hf (fun r h' e => c_X6_readNumber l G h h' a0 0 5 r e) rfl rfl (Nat.le_of_ble_eq_true rfl) (zRm_of rfl (Nat.zero_le _) (Nat.zero_le _)) dX6_readSailing_3 (fun v1 h2 H locs hf E => ?_)
  refine lv_istore_n (lv' := [(1, .int v1), (0, .ref a0)]) Z.x Z.b dX6_readSailing_6 rfl hl (by decide) rfl (fun ls hl => ?_)
  refine lv_iload_n Z.x Z.b dX6_readSailing_7 rfl (lv_at hl 0 rfl) ?_
  refine lv_iconst (v := (-1)) Z.x Z.b dX6_readSailing_8 (by decide) ?_
  refine lv_icmp_eq (tgt := 21) Z.x Z.b dX6_readSailing_9 (by decide) (fun c => ?_) (fun c => ?_)
  · have hf := zit hf c
    refine lv_iconst (v := 0) Z.x Z.b dX6_readSailing_21 (by decide) ?_
    exact z_zret Z E hr dX6_readSailing_22 hf
  · have hf := zif_ hf c
    refine lv_aload_n Z.x Z.b dX6_readSailing_12 rfl (lv_at hl 1 rfl) ?_
    refine lv_bipush (v := 58) Z.x Z.b dX6_readSailing_13 (by decide) ?_
    refine z_Vi (As := [.int 58]) Z E hl.1 k_X6_46 v_X6_accept hf (fun r h' e => c_X6_accept l G h2 h' a0 58 r e) rfl rfl (Nat.le_of_ble_eq_true rfl) (zRm_of rfl (Nat.zero_le _) (Nat.zero_le _)) dX6_readSailing_15 (fun v3 h4 H locs hf E => ?_)
    refine lv_if_ne (tgt := 23) Z.x Z.b dX6_readSailing_18 (by decide) (fun c => ?_) (fun c => ?_)
    · have hf := zif_ hf c
      refine lv_aload_n Z.x Z.b dX6_readSailing_23 rfl (lv_at hl 1 rfl) ?_
      refine lv_iconst (v := 0) Z.x Z.b dX6_readSailing_24 (by decide) ?_
      refine lv_sipush (v := 900) Z.x Z.b dX6_readSailing_25 (by decide) ?_
      refine z_Vi (As := [.int 0, .int 900]) Z E hl.1 k_X6_50 v_X6_readNumber hf (fun r h' e => c_X6_readNumber l G h4 h' a0 0 900 r e) rfl rfl (Nat.le_of_ble_eq_true rfl) (zRm_of rfl (Nat.zero_le _) (Nat.zero_le _)) dX6_readSailing_28 (fun v5 h6 H locs hf E => ?_)
      refine lv_istore_n (lv' := [(2, .int v5), (1, .int v1), (0, .ref a0)]) Z.x Z.b dX6_readSailing_31 rfl hl (by decide) rfl (fun ls hl => ?_)
      refine lv_iload_n Z.x Z.b dX6_readSailing_32 rfl (lv_at hl 0 rfl) ?_
      refine lv_iconst (v := (-1)) Z.x Z.b dX6_readSailing_33 (by decide) ?_
      refine lv_icmp_eq (tgt := 46) Z.x Z.b dX6_readSailing_34 (by decide) (fun c => ?_) (fun c => ?_)
      · have hf := zit hf c
        refine lv_iconst (v := 0) Z.x Z.b dX6_readSailing_46 (by decide) ?_
        exact z_zret Z E hr dX6_readSailing_47 hf
      · have hf := zif_ hf c
        refine lv_aload_n Z.x Z.b dX6_readSailing_37 rfl (lv_at hl 2 rfl) ?_
        refine lv_bipush (v := 43) Z.x Z.b dX6_readSailing_38 (by decide) ?_
        refine z_Vi (As := [.int 43]) Z E hl.1 k_X6_46 v_X6_accept hf (fun r h' e => c_X6_accept l G h6 h' a0 43 r e) rfl rfl (Nat.le_of_ble_eq_true rfl) (zRm_of rfl (Nat.zero_le _) (Nat.zero_le _)) dX6_readSailing_40 (fun v7 h8 H locs hf E => ?_)
        refine lv_if_ne (tgt := 48) Z.x Z.b dX6_readSailing_43 (by decide) (fun c => ?_) (fun c => ?_)
        · have hf := zif_ hf c
          refine lv_aload_n Z.x Z.b dX6_readSailing_48 rfl (lv_at hl 2 rfl) ?_
          refine lv_iconst (v := 1) Z.x Z.b dX6_readSailing_49 (by decide) ?_
          refine lv_bipush (v := 12) Z.x Z.b dX6_readSailing_50 (by decide) ?_
          refine z_Vi (As := [.int 1, .int 12]) Z E hl.1 k_X6_50 v_X6_readNumber hf (fun r h' e => c_X6_readNumber l G h8 h' a0 1 12 r e) rfl rfl (Nat.le_of_ble_eq_true rfl) (zRm_of rfl (Nat.zero_le _) (Nat.zero_le _)) dX6_readSailing_52 (fun v9 h10 H locs hf E => ?_)
          refine lv_istore_n (lv' := [(3, .int v9), (2, .int v5), (1, .int v1), (0, .ref a0)]) Z.x Z.b dX6_readSailing_55 rfl hl (by decide) rfl (fun ls hl => ?_)
          refine lv_iload_n Z.x Z.b dX6_readSailing_56 rfl (lv_at hl 0 rfl) ?_
          refine lv_iconst (v := (-1)) Z.x Z.b dX6_readSailing_57 (by decide) ?_
          refine lv_icmp_eq (tgt := 70) Z.x Z.b dX6_readSailing_58 (by decide) (fun c => ?_) (fun c => ?_)
          · have hf := zit hf c
            refine lv_iconst (v := 0) Z.x Z.b dX6_readSailing_70 (by decide) ?_
            exact z_zret Z E hr dX6_readSailing_71 hf
          · have hf := zif_ hf c
            refine lv_aload_n Z.x Z.b dX6_readSailing_61 rfl (lv_at hl 3 rfl) ?_
            refine lv_bipush (v := 61) Z.x Z.b dX6_readSailing_62 (by decide) ?_
            refine z_Vi (As := [.int 61]) Z E hl.1 k_X6_46 v_X6_accept hf (fun r h' e => c_X6_accept l G h10 h' a0 61 r e) rfl rfl (Nat.le_of_ble_eq_true rfl) (zRm_of rfl (Nat.zero_le _) (Nat.zero_le _)) dX6_readSailing_64 (fun v11 h12 H locs hf E => ?_)
            refine lv_if_ne (tgt := 72) Z.x Z.b dX6_readSailing_67 (by decide) (fun c => ?_) (fun c => ?_)
            · have hf := zif_ hf c
              refine lv_aload_n Z.x Z.b dX6_readSailing_72 rfl (lv_at hl 3 rfl) ?_
              refine z_Vi (As := []) Z E hl.1 k_X6_54 v_X6_readSet hf (fun r h' e => c_X6_readSet l G h12 h' a0 r e) rfl rfl (Nat.le_of_ble_eq_true rfl) (zRm_of rfl (Nat.zero_le _) (Nat.zero_le _)) dX6_readSailing_73 (fun v13 h14 H locs hf E => ?_)
              refine lv_istore (lv' := [(4, .int v13), (3, .int v9), (2, .int v5), (1, .int v1), (0, .ref a0)]) Z.x Z.b dX6_readSailing_76 hl (by decide) rfl (fun ls hl => ?_)
              refine lv_iload Z.x Z.b dX6_readSailing_78 (lv_at hl 0 rfl) ?_
              refine lv_iconst (v := (-1)) Z.x Z.b dX6_readSailing_80 (by decide) ?_
              refine lv_icmp_eq (tgt := 96) Z.x Z.b dX6_readSailing_81 (by decide) (fun c => ?_) (fun c => ?_)
              · have hf := zit hf c
                refine lv_iconst (v := 0) Z.x Z.b dX6_readSailing_96 (by decide) ?_
                exact z_zret Z E hr dX6_readSailing_97 hf
              · have hf := zif_ hf c
                refine lv_aload_n Z.x Z.b dX6_readSailing_84 rfl (lv_at hl 4 rfl) ?_
                refine z_getI Z E q_X6_39 dX6_readSailing_85 hf (fun v15 hf => ?_)
                refine lv_iconst (v := 0) Z.x Z.b dX6_readSailing_88 (by decide) ?_
                refine lv_iconst (v := 5) Z.x Z.b dX6_readSailing_89 (by decide) ?_
                refine z_SNi (As := [.int v15, .int 0, .int 5]) Z E hl.1 k_X6_32 wt_X7_isWithin hf (fun r h' e => c_X7_isWithin l G h14 h' v15 0 5 r e) rfl rfl (Nat.le_of_ble_eq_true rfl) (zRm_of rfl (Nat.zero_le _) (Nat.zero_le _)) dX6_readSailing_90 (fun v16 h17 H locs hf E => ?_)
                refine lv_if_ne (tgt := 98) Z.x Z.b dX6_readSailing_93 (by decide) (fun c => ?_) (fun c => ?_)
                · have hf := zif_ hf c
                  refine lv_aload_n Z.x Z.b dX6_readSailing_98 rfl (lv_at hl 4 rfl) ?_
                  refine z_getR Z E q_X6_15 dX6_readSailing_99 hf (fun v18 hf => ?_)
                  refine lv_aload_n Z.x Z.b dX6_readSailing_102 rfl (lv_at hl 4 rfl) ?_
                  refine z_getI Z E q_X6_39 dX6_readSailing_103 hf (fun v19 hf => ?_)
                  refine lv_iload_n Z.x Z.b dX6_readSailing_106 rfl (lv_at hl 3 rfl) ?_
                  refine z_iast Z E dX6_readSailing_107 hf (fun h20 H locs hf E => ?_)
                  refine lv_aload_n Z.x Z.b dX6_readSailing_108 rfl (lv_at hl 4 rfl) ?_
                  refine z_getR Z E q_X6_19 dX6_readSailing_109 hf (fun v21 hf => ?_)
                  refine lv_aload_n Z.x Z.b dX6_readSailing_112 rfl (lv_at hl 4 rfl) ?_
                  refine z_getI Z E q_X6_39 dX6_readSailing_113 hf (fun v22 hf => ?_)
                  refine lv_iload_n Z.x Z.b dX6_readSailing_116 rfl (lv_at hl 2 rfl) ?_
                  refine z_iast Z E dX6_readSailing_117 hf (fun h23 H locs hf E => ?_)
                  refine lv_aload_n Z.x Z.b dX6_readSailing_118 rfl (lv_at hl 4 rfl) ?_
                  refine z_getR Z E q_X6_22 dX6_readSailing_119 hf (fun v24 hf => ?_)
                  refine lv_aload_n Z.x Z.b dX6_readSailing_122 rfl (lv_at hl 4 rfl) ?_
                  refine z_getI Z E q_X6_39 dX6_readSailing_123 hf (fun v25 hf => ?_)
                  refine lv_iload_n Z.x Z.b dX6_readSailing_126 rfl (lv_at hl 1 rfl) ?_
                  refine z_iast Z E dX6_readSailing_127 hf (fun h26 H locs hf E => ?_)
                  refine lv_aload_n Z.x Z.b dX6_readSailing_128 rfl (lv_at hl 4 rfl) ?_
                  refine z_getR Z E q_X6_25 dX6_readSailing_129 hf (fun v27 hf => ?_)
                  refine lv_aload_n Z.x Z.b dX6_readSailing_132 rfl (lv_at hl 4 rfl) ?_
                  refine z_getI Z E q_X6_39 dX6_readSailing_133 hf (fun v28 hf => ?_)
                  refine lv_iload Z.x Z.b dX6_readSailing_136 (lv_at hl 0 rfl) ?_
                  refine z_iast Z E dX6_readSailing_138 hf (fun h29 H locs hf E => ?_)
                  refine lv_aload_n Z.x Z.b dX6_readSailing_139 rfl (lv_at hl 4 rfl) ?_
                  refine lv_dup Z.x Z.b dX6_readSailing_140 rfl ?_
                  refine z_getI Z E q_X6_39 dX6_readSailing_141 hf (fun v30 hf => ?_)
                  refine lv_iconst (v := 1) Z.x Z.b dX6_readSailing_144 (by decide) ?_
                  refine lv_iadd Z.x Z.b dX6_readSailing_145 ?_
                  refine z_put Z E p_X6_39 rfl rfl dX6_readSailing_146 hf (fun h31 H locs hf E => ?_)
                  refine lv_iconst (v := 1) Z.x Z.b dX6_readSailing_149 (by decide) ?_
                  exact z_zret Z E hr dX6_readSailing_150 hf
                · have hf := zit hf c
                  refine lv_iconst (v := 0) Z.x Z.b dX6_readSailing_96 (by decide) ?_
                  exact z_zret Z E hr dX6_readSailing_97 hf
            · have hf := zit hf c
              refine lv_iconst (v := 0) Z.x Z.b dX6_readSailing_70 (by decide) ?_
              exact z_zret Z E hr dX6_readSailing_71 hf
        · have hf := zit hf c
          refine lv_iconst (v := 0) Z.x Z.b dX6_readSailing_46 (by decide) ?_
          exact z_zret Z E hr dX6_readSailing_47 hf
    · have hf := zit hf c
      refine lv_iconst (v := 0) Z.x Z.b dX6_readSailing_21 (by decide) ?_
      exact z_zret Z E hr dX6_readSailing_22 hf
set_option maxHeartbeats 4000000 in
set_option maxRecDepth 20000 in
theorem c_X6_readSailing (l : Launch) (G : zG) (h : zHp) (h' : zHp) (a0 : Nat) (r : Int32) (hf : f_X6_readSailing a0 h = some (r, h')) : zM0 l yX6_readSailing cX6_readSailing 5 (some .boolean) rm_X6_readSailing G [.ref a0] h (zQi G r h') := by
  refine Met.ofW (cc := cX6_readSailing) (maxL := 5) (ret := (some .boolean)) (by decide) rfl ?_
  intro p e s m args below meth c s₁ B hml hv
  obtain ⟨rfl, hW⟩ := hv
  obtain ⟨Z, E, hr⟩ := zEnter (own := RX6) B hml rfl hW
  have hl := lv_entry ([.ref a0]) (n := 5) (Nat.le_of_ble_eq_true rfl)
  rw [lg_entry_eq]
  generalize (lg_sl ([.ref a0]) ++ List.replicate (5 - (lg_sl ([.ref a0])).length) Slot.unset).toArray = ls at hl ⊢
  have hl : lv_has ls 5 [(0, .ref a0)] := hl
  exact t_X6_readSailing (out := (r, h')) Z hr hf E hl
/-! FerryCrews$Text.readAll()I -/
theorem dX6_readAll_0 : decode cX6_readAll 0 = .ok (.aload_n 0, 1) := by decide +kernel
theorem dX6_readAll_1 : decode cX6_readAll 1 = .ok (.iconst 0, 1) := by decide +kernel
theorem dX6_readAll_2 : decode cX6_readAll 2 = .ok (.putfield 36, 3) := by decide +kernel
theorem dX6_readAll_5 : decode cX6_readAll 5 = .ok (.aload_n 0, 1) := by decide +kernel
theorem dX6_readAll_6 : decode cX6_readAll 6 = .ok (.iconst 0, 1) := by decide +kernel
theorem dX6_readAll_7 : decode cX6_readAll 7 = .ok (.putfield 39, 3) := by decide +kernel
theorem dX6_readAll_10 : decode cX6_readAll 10 = .ok (.iconst 0, 1) := by decide +kernel
theorem dX6_readAll_11 : decode cX6_readAll 11 = .ok (.istore_n 1, 1) := by decide +kernel
theorem dX6_readAll_12 : decode cX6_readAll 12 = .ok (.iload_n 1, 1) := by decide +kernel
theorem dX6_readAll_13 : decode cX6_readAll 13 = .ok (.bipush 6, 2) := by decide +kernel
theorem dX6_readAll_15 : decode cX6_readAll 15 = .ok (.if_icmp .ge 49, 3) := by decide +kernel
theorem dX6_readAll_18 : decode cX6_readAll 18 = .ok (.aload_n 0, 1) := by decide +kernel
theorem dX6_readAll_19 : decode cX6_readAll 19 = .ok (.invokevirtual 42, 3) := by decide +kernel
theorem dX6_readAll_22 : decode cX6_readAll 22 = .ok (.ifCond .ne 8, 3) := by decide +kernel
theorem dX6_readAll_25 : decode cX6_readAll 25 = .ok (.aload_n 0, 1) := by decide +kernel
theorem dX6_readAll_26 : decode cX6_readAll 26 = .ok (.getfield 36, 3) := by decide +kernel
theorem dX6_readAll_29 : decode cX6_readAll 29 = .ok (.ireturn, 1) := by decide +kernel
theorem dX6_readAll_30 : decode cX6_readAll 30 = .ok (.aload_n 0, 1) := by decide +kernel
theorem dX6_readAll_31 : decode cX6_readAll 31 = .ok (.getfield 36, 3) := by decide +kernel
theorem dX6_readAll_34 : decode cX6_readAll 34 = .ok (.aload_n 0, 1) := by decide +kernel
theorem dX6_readAll_35 : decode cX6_readAll 35 = .ok (.getfield 28, 3) := by decide +kernel
theorem dX6_readAll_38 : decode cX6_readAll 38 = .ok (.if_icmp .ne 6, 3) := by decide +kernel
theorem dX6_readAll_41 : decode cX6_readAll 41 = .ok (.bipush (-5), 2) := by decide +kernel
theorem dX6_readAll_43 : decode cX6_readAll 43 = .ok (.ireturn, 1) := by decide +kernel
theorem dX6_readAll_44 : decode cX6_readAll 44 = .ok (.aload_n 0, 1) := by decide +kernel
theorem dX6_readAll_45 : decode cX6_readAll 45 = .ok (.bipush 59, 2) := by decide +kernel
theorem dX6_readAll_47 : decode cX6_readAll 47 = .ok (.invokevirtual 46, 3) := by decide +kernel
theorem dX6_readAll_50 : decode cX6_readAll 50 = .ok (.ifCond .ne 8, 3) := by decide +kernel
theorem dX6_readAll_53 : decode cX6_readAll 53 = .ok (.aload_n 0, 1) := by decide +kernel
theorem dX6_readAll_54 : decode cX6_readAll 54 = .ok (.getfield 36, 3) := by decide +kernel
theorem dX6_readAll_57 : decode cX6_readAll 57 = .ok (.ireturn, 1) := by decide +kernel
theorem dX6_readAll_58 : decode cX6_readAll 58 = .ok (.iinc 1 1, 3) := by decide +kernel
theorem dX6_readAll_61 : decode cX6_readAll 61 = .ok (.goto (-49), 3) := by decide +kernel
theorem dX6_readAll_64 : decode cX6_readAll 64 = .ok (.aload_n 0, 1) := by decide +kernel
theorem dX6_readAll_65 : decode cX6_readAll 65 = .ok (.getfield 36, 3) := by decide +kernel
theorem dX6_readAll_68 : decode cX6_readAll 68 = .ok (.ireturn, 1) := by decide +kernel
set_option maxRecDepth 20000 in
theorem wc_X6_readSailing : Cond.code yX6_readSailing cX6_readSailing 5 (some .boolean) ∈ zB := List.mem_filter.mpr ⟨List.mem_of_getElem? (i := 371) (by decide +kernel), by decide +kernel⟩
set_option maxRecDepth 20000 in
theorem wm_X6_42 : Cond.methodLink RX6 42 yX6_readSailing ∈ zB := List.mem_filter.mpr ⟨List.mem_of_getElem? (i := 368) (by decide +kernel), by decide +kernel⟩
theorem k_X6_42 : zCal RX6 42 yX6_readSailing cX6_readSailing 5 (some .boolean) 0 := ⟨wm_X6_42, wi_X6, wc_X6_readSailing, by decide +kernel, by decide +kernel, by decide +kernel⟩
set_option maxRecDepth 20000 in
theorem wn_X6_readSailing : Cond.instanceMethod yX6_readSailing ∈ zB := List.mem_filter.mpr ⟨List.mem_of_getElem? (i := 370) (by decide +kernel), by decide +kernel⟩
set_option maxRecDepth 20000 in
theorem ws_X6_readSailing : Cond.selects RX6 yX6_readSailing yX6_readSailing ∈ zB := List.mem_filter.mpr ⟨List.mem_of_getElem? (i := 2) (by decide +kernel), by decide +kernel⟩
theorem v_X6_readSailing : zVir yX6_readSailing 6 := ⟨wn_X6_readSailing, ws_X6_readSailing, TX6, 8, rfl⟩
def rm_X6_readAll : Room := { frames := 4, cells := 0, slots := 0, locals := 91 }
set_option maxHeartbeats 4000000 in
set_option maxRecDepth 20000 in
theorem t_X6_readAll_12_body {p : Program} {l : Launch} {e : Env} {s : State} {m : MethodId} {args : Array Value} {below : List Frame} {meth : Method} {c : Code} {G : zG} (Z : zF p s m args c meth cX6_readAll 2 RX6 G) (hr : meth.sig.returnType = (some .int)) {out : Int32 × zHp} {r12 : Nat → Int32 → zHp → Option (Int32 × zHp)} (k12 : ∀ {a0 : Nat} {a1 : Int32} {h : zHp} {H : Heap} {locs : List Loc} {ls : Array Slot}, r12 a0 a1 h = some out → zE G s h H locs → lv_has ls 2 [(0, .ref a0), (1, .int a1)] → W p l e rm_X6_readAll s m args below meth c H locs 0 0 (MQ below (zQi G out.1 out.2) args s 0 0 (zA G)) (F0 m 12 ls [])) {a0 : Nat} {a1 : Int32} {h : zHp} {H : Heap} {locs : List Loc} {ls : Array Slot} (hf : f_X6_readAll_12_body r12 a0 a1 h = some out) (E : zE G s h H locs) (hl : lv_has ls 2 [(0, .ref a0), (1, .int a1)]) : W p l e rm_X6_readAll s m args below meth c H locs 0 0 (MQ below (zQi G out.1 out.2) args s 0 0 (zA G)) (F0 m 12 ls []) := by
  unfold f_X6_readAll_12_body at hf
  refine lv_iload_n Z.x Z.b dX6_readAll_12 rfl (lv_at hl 1 rfl) ?_
  refine lv_bipush (v := 6) Z.x Z.b dX6_readAll_13 (by decide) ?_
  refine lv_icmp_ge (tgt := 64) Z.x Z.b dX6_readAll_15 (by decide) (fun c => ?_) (fun c => ?_)
  · have hf := zit hf c
    refine lv_aload_n Z.x Z.b dX6_readAll_64 rfl (lv_at hl 0 rfl) ?_
    refine z_getI Z E q_X6_36 dX6_readAll_65 hf (fun v1 hf => ?_)
    exact z_iret Z E hr dX6_readAll_68 hf
  · have hf := zif_ hf c
    refine lv_aload_n Z.x Z.b dX6_readAll_18 rfl (lv_at hl 0 rfl) ?_
    refine z_Vi (As := []) Z E hl.1 k_X6_42 v_X6_readSailing hf (fun r h' e => c_X6_readSailing l G h h' a0 r e) rfl rfl (Nat.le_of_ble_eq_true rfl) (zRm_of rfl (Nat.zero_le _) (Nat.zero_le _)) dX6_readAll_19 (fun v2 h3 H locs hf E => ?_)
    refine lv_if_ne (tgt := 30) Z.x Z.b dX6_readAll_22 (by decide) (fun c => ?_) (fun c => ?_)
    · have hf := zif_ hf c
      refine lv_aload_n Z.x Z.b dX6_readAll_30 rfl (lv_at hl 0 rfl) ?_
      refine z_getI Z E q_X6_36 dX6_readAll_31 hf (fun v4 hf => ?_)
      refine lv_aload_n Z.x Z.b dX6_readAll_34 rfl (lv_at hl 0 rfl) ?_
      refine z_getI Z E q_X6_28 dX6_readAll_35 hf (fun v5 hf => ?_)
      refine lv_icmp_ne (tgt := 44) Z.x Z.b dX6_readAll_38 (by decide) (fun c => ?_) (fun c => ?_)
      · have hf := zif_ hf c
        refine lv_aload_n Z.x Z.b dX6_readAll_44 rfl (lv_at hl 0 rfl) ?_
        refine lv_bipush (v := 59) Z.x Z.b dX6_readAll_45 (by decide) ?_
        refine z_Vi (As := [.int 59]) Z E hl.1 k_X6_46 v_X6_accept hf (fun r h' e => c_X6_accept l G h3 h' a0 59 r e) rfl rfl (Nat.le_of_ble_eq_true rfl) (zRm_of rfl (Nat.zero_le _) (Nat.zero_le _)) dX6_readAll_47 (fun v6 h7 H locs hf E => ?_)
        refine lv_if_ne (tgt := 58) Z.x Z.b dX6_readAll_50 (by decide) (fun c => ?_) (fun c => ?_)
        · have hf := zif_ hf c
          refine lv_iinc (v := (a1 + 1)) (lv' := [(1, .int (a1 + 1)), (0, .ref a0)]) Z.x Z.b dX6_readAll_58 hl (k := 1) rfl rfl (by decide) rfl (fun ls hl => ?_)
          refine lv_goto (tgt := 12) Z.x Z.b dX6_readAll_61 (by decide) ?_
          exact k12 hf E (lv_sub hl [1, 0] rfl)
        · have hf := zit hf c
          refine lv_aload_n Z.x Z.b dX6_readAll_53 rfl (lv_at hl 0 rfl) ?_
          refine z_getI Z E q_X6_36 dX6_readAll_54 hf (fun v8 hf => ?_)
          exact z_iret Z E hr dX6_readAll_57 hf
      · have hf := zit hf c
        refine lv_bipush (v := (-5)) Z.x Z.b dX6_readAll_41 (by decide) ?_
        exact z_iret Z E hr dX6_readAll_43 hf
    · have hf := zit hf c
      refine lv_aload_n Z.x Z.b dX6_readAll_25 rfl (lv_at hl 0 rfl) ?_
      refine z_getI Z E q_X6_36 dX6_readAll_26 hf (fun v9 hf => ?_)
      exact z_iret Z E hr dX6_readAll_29 hf
theorem t_X6_readAll_12 {p : Program} {l : Launch} {e : Env} {s : State} {m : MethodId} {args : Array Value} {below : List Frame} {meth : Method} {c : Code} {G : zG} (Z : zF p s m args c meth cX6_readAll 2 RX6 G) (hr : meth.sig.returnType = (some .int)) {out : Int32 × zHp} : ∀ (n : Nat), ∀ {a0 : Nat} {a1 : Int32} {h : zHp} {H : Heap} {locs : List Loc} {ls : Array Slot}, f_X6_readAll_12 n a0 a1 h = some out → zE G s h H locs → lv_has ls 2 [(0, .ref a0), (1, .int a1)] → W p l e rm_X6_readAll s m args below meth c H locs 0 0 (MQ below (zQi G out.1 out.2) args s 0 0 (zA G)) (F0 m 12 ls [])
  | 0 => fun hf => by cases hf
  | n + 1 => fun hf E hl => t_X6_readAll_12_body Z hr (r12 := f_X6_readAll_12 n) (t_X6_readAll_12 Z hr n) hf E hl
set_option maxHeartbeats 4000000 in
set_option maxRecDepth 20000 in
theorem t_X6_readAll {p : Program} {l : Launch} {e : Env} {s : State} {m : MethodId} {args : Array Value} {below : List Frame} {meth : Method} {c : Code} {G : zG} (Z : zF p s m args c meth cX6_readAll 2 RX6 G) (hr : meth.sig.returnType = (some .int)) {out : Int32 × zHp} {a0 : Nat} {h : zHp} {H : Heap} {locs : List Loc} {ls : Array Slot} (hf : f_X6_readAll a0 h = some out) (E : zE G s h H locs) (hl : lv_has ls 2 [(0, .ref a0)]) : W p l e rm_X6_readAll s m args below meth c H locs 0 0 (MQ below (zQi G out.1 out.2) args s 0 0 (zA G)) (F0 m 0 ls []) := by
  unfold f_X6_readAll at hf
  refine lv_aload_n Z.x Z.b dX6_readAll_0 rfl (lv_at hl 0 rfl) ?_
  refine lv_iconst (v := 0) Z.x Z.b dX6_readAll_1 (by decide) ?_
  refine z_put Z E p_X6_36 rfl rfl dX6_readAll_2 hf (fun h1 H locs hf E => ?_)
  refine lv_aload_n Z.x Z.b dX6_readAll_5 rfl (lv_at hl 0 rfl) ?_
  refine lv_iconst (v := 0) Z.x Z.b dX6_readAll_6 (by decide) ?_
  refine z_put Z E p_X6_39 rfl rfl dX6_readAll_7 hf (fun h2 H locs hf E => ?_)
  refine lv_iconst (v := 0) Z.x Z.b dX6_readAll_10 (by decide) ?_
  refine lv_istore_n (lv' := [(1, .int 0), (0, .ref a0)]) Z.x Z.b dX6_readAll_11 rfl hl (by decide) rfl (fun ls hl => ?_)
  exact t_X6_readAll_12 Z hr zN hf E (lv_sub hl [1, 0] rfl)
set_option maxHeartbeats 4000000 in
set_option maxRecDepth 20000 in
theorem c_X6_readAll (l : Launch) (G : zG) (h : zHp) (h' : zHp) (a0 : Nat) (r : Int32) (hf : f_X6_readAll a0 h = some (r, h')) : zM0 l yX6_readAll cX6_readAll 2 (some .int) rm_X6_readAll G [.ref a0] h (zQi G r h') := by
  refine Met.ofW (cc := cX6_readAll) (maxL := 2) (ret := (some .int)) (by decide) rfl ?_
  intro p e s m args below meth c s₁ B hml hv
  obtain ⟨rfl, hW⟩ := hv
  obtain ⟨Z, E, hr⟩ := zEnter (own := RX6) B hml rfl hW
  have hl := lv_entry ([.ref a0]) (n := 2) (Nat.le_of_ble_eq_true rfl)
  rw [lg_entry_eq]
  generalize (lg_sl ([.ref a0]) ++ List.replicate (2 - (lg_sl ([.ref a0])).length) Slot.unset).toArray = ls at hl ⊢
  have hl : lv_has ls 2 [(0, .ref a0)] := hl
  exact t_X6_readAll (out := (r, h')) Z hr hf E hl
/-! FerryCrews.<init>()V -/
theorem dX7_init_0 : decode cX7_init 0 = .ok (.aload_n 0, 1) := by decide +kernel
theorem dX7_init_1 : decode cX7_init 1 = .ok (.invokespecial 3, 3) := by decide +kernel
theorem dX7_init_4 : decode cX7_init 4 = .ok (.new 9, 3) := by decide +kernel
theorem dX7_init_7 : decode cX7_init 7 = .ok (.dup, 1) := by decide +kernel
theorem dX7_init_8 : decode cX7_init 8 = .ok (.invokespecial 11, 3) := by decide +kernel
theorem dX7_init_11 : decode cX7_init 11 = .ok (.astore_n 1, 1) := by decide +kernel
theorem dX7_init_12 : decode cX7_init 12 = .ok (.aload_n 0, 1) := by decide +kernel
theorem dX7_init_13 : decode cX7_init 13 = .ok (.new 12, 3) := by decide +kernel
theorem dX7_init_16 : decode cX7_init 16 = .ok (.dup, 1) := by decide +kernel
theorem dX7_init_17 : decode cX7_init 17 = .ok (.aload_n 1, 1) := by decide +kernel
theorem dX7_init_18 : decode cX7_init 18 = .ok (.invokespecial 14, 3) := by decide +kernel
theorem dX7_init_21 : decode cX7_init 21 = .ok (.putfield 17, 3) := by decide +kernel
theorem dX7_init_24 : decode cX7_init 24 = .ok (.aload_n 0, 1) := by decide +kernel
theorem dX7_init_25 : decode cX7_init 25 = .ok (.new 12, 3) := by decide +kernel
theorem dX7_init_28 : decode cX7_init 28 = .ok (.dup, 1) := by decide +kernel
theorem dX7_init_29 : decode cX7_init 29 = .ok (.aload_n 1, 1) := by decide +kernel
theorem dX7_init_30 : decode cX7_init 30 = .ok (.invokespecial 14, 3) := by decide +kernel
theorem dX7_init_33 : decode cX7_init 33 = .ok (.putfield 21, 3) := by decide +kernel
theorem dX7_init_36 : decode cX7_init 36 = .ok (.aload_n 0, 1) := by decide +kernel
theorem dX7_init_37 : decode cX7_init 37 = .ok (.new 12, 3) := by decide +kernel
theorem dX7_init_40 : decode cX7_init 40 = .ok (.dup, 1) := by decide +kernel
theorem dX7_init_41 : decode cX7_init 41 = .ok (.aload_n 1, 1) := by decide +kernel
theorem dX7_init_42 : decode cX7_init 42 = .ok (.invokespecial 14, 3) := by decide +kernel
theorem dX7_init_45 : decode cX7_init 45 = .ok (.putfield 24, 3) := by decide +kernel
theorem dX7_init_48 : decode cX7_init 48 = .ok (.aload_n 0, 1) := by decide +kernel
theorem dX7_init_49 : decode cX7_init 49 = .ok (.new 27, 3) := by decide +kernel
theorem dX7_init_52 : decode cX7_init 52 = .ok (.dup, 1) := by decide +kernel
theorem dX7_init_53 : decode cX7_init 53 = .ok (.aload_n 1, 1) := by decide +kernel
theorem dX7_init_54 : decode cX7_init 54 = .ok (.invokespecial 29, 3) := by decide +kernel
theorem dX7_init_57 : decode cX7_init 57 = .ok (.putfield 30, 3) := by decide +kernel
theorem dX7_init_60 : decode cX7_init 60 = .ok (.aload_n 0, 1) := by decide +kernel
theorem dX7_init_61 : decode cX7_init 61 = .ok (.new 34, 3) := by decide +kernel
theorem dX7_init_64 : decode cX7_init 64 = .ok (.dup, 1) := by decide +kernel
theorem dX7_init_65 : decode cX7_init 65 = .ok (.invokespecial 36, 3) := by decide +kernel
theorem dX7_init_68 : decode cX7_init 68 = .ok (.putfield 37, 3) := by decide +kernel
theorem dX7_init_71 : decode cX7_init 71 = .ok (.aload_n 0, 1) := by decide +kernel
theorem dX7_init_72 : decode cX7_init 72 = .ok (.iconst 0, 1) := by decide +kernel
theorem dX7_init_73 : decode cX7_init 73 = .ok (.putfield 41, 3) := by decide +kernel
theorem dX7_init_76 : decode cX7_init 76 = .ok (.return_, 1) := by decide +kernel
set_option maxRecDepth 20000 in
theorem wo_X7_3 : Cond.methodLink RX7 3 objectInit ∈ zB := List.mem_filter.mpr ⟨List.mem_of_getElem? (i := 77) (by decide +kernel), by decide +kernel⟩
set_option maxRecDepth 20000 in
theorem wk_X7_9 : Cond.classLink RX7 9 RX0 ∈ zB := List.mem_filter.mpr ⟨List.mem_of_getElem? (i := 80) (by decide +kernel), by decide +kernel⟩
set_option maxRecDepth 20000 in
theorem wa_X0 : Cond.instantiable RX0 4 ∈ zB := List.mem_filter.mpr ⟨List.mem_of_getElem? (i := 81) (by decide +kernel), by decide +kernel⟩
set_option maxRecDepth 20000 in
theorem wc_X0_init : Cond.code yX0_init cX0_init 1 none ∈ zB := List.mem_filter.mpr ⟨List.mem_of_getElem? (i := 84) (by decide +kernel), by decide +kernel⟩
set_option maxRecDepth 20000 in
theorem k_X7_11 : zCalN RX7 11 yX0_init "FerryCrews" cX0_init 1 none 0 := ⟨List.mem_of_getElem? (i := 82) (by decide +kernel), wi_X0, wc_X0_init, by decide +kernel, by decide +kernel, by decide +kernel⟩
set_option maxRecDepth 20000 in
theorem wn_X0_init : Cond.instanceMethod yX0_init ∈ zB := List.mem_filter.mpr ⟨List.mem_of_getElem? (i := 83) (by decide +kernel), by decide +kernel⟩
set_option maxRecDepth 20000 in
theorem wk_X7_12 : Cond.classLink RX7 12 RX5 ∈ zB := List.mem_filter.mpr ⟨List.mem_of_getElem? (i := 103) (by decide +kernel), by decide +kernel⟩
set_option maxRecDepth 20000 in
theorem wm_X7_14 : Cond.methodLink RX7 14 yX5_init ∈ zB := List.mem_filter.mpr ⟨List.mem_of_getElem? (i := 105) (by decide +kernel), by decide +kernel⟩
theorem k_X7_14 : zCal RX7 14 yX5_init cX5_init 3 none 1 := ⟨wm_X7_14, wi_X5, wc_X5_init, by decide +kernel, by decide +kernel, by decide +kernel⟩
set_option maxRecDepth 20000 in
theorem wf_X7_17 : Cond.fieldLink RX7 17 RX7 "state" "LFerryCrews$State;" ∈ zB := List.mem_filter.mpr ⟨List.mem_of_getElem? (i := 283) (by decide +kernel), by decide +kernel⟩
theorem p_X7_17 : zPut RX7 17 7 0 true (.object "FerryCrews$State") := ⟨RX7, TX7, 6, tyX7, rfl, by decide, iX7, wf_X7_17, rfl, tyX7_ok, nmX7, rfl, by decide +kernel, fun _ => rfl⟩
set_option maxRecDepth 20000 in
theorem wf_X7_21 : Cond.fieldLink RX7 21 RX7 "snapshot" "LFerryCrews$State;" ∈ zB := List.mem_filter.mpr ⟨List.mem_of_getElem? (i := 284) (by decide +kernel), by decide +kernel⟩
theorem p_X7_21 : zPut RX7 21 7 1 true (.object "FerryCrews$State") := ⟨RX7, TX7, 6, tyX7, rfl, by decide, iX7, wf_X7_21, rfl, tyX7_ok, nmX7, rfl, by decide +kernel, fun _ => rfl⟩
set_option maxRecDepth 20000 in
theorem wf_X7_24 : Cond.fieldLink RX7 24 RX7 "trial" "LFerryCrews$State;" ∈ zB := List.mem_filter.mpr ⟨List.mem_of_getElem? (i := 285) (by decide +kernel), by decide +kernel⟩
theorem p_X7_24 : zPut RX7 24 7 2 true (.object "FerryCrews$State") := ⟨RX7, TX7, 6, tyX7, rfl, by decide, iX7, wf_X7_24, rfl, tyX7_ok, nmX7, rfl, by decide +kernel, fun _ => rfl⟩
set_option maxRecDepth 20000 in
theorem wk_X7_27 : Cond.classLink RX7 27 RX1 ∈ zB := List.mem_filter.mpr ⟨List.mem_of_getElem? (i := 228) (by decide +kernel), by decide +kernel⟩
set_option maxRecDepth 20000 in
theorem wa_X1 : Cond.instantiable RX1 2 ∈ zB := List.mem_filter.mpr ⟨List.mem_of_getElem? (i := 229) (by decide +kernel), by decide +kernel⟩
set_option maxRecDepth 20000 in
theorem wc_X1_init : Cond.code yX1_init cX1_init 3 none ∈ zB := List.mem_filter.mpr ⟨List.mem_of_getElem? (i := 232) (by decide +kernel), by decide +kernel⟩
set_option maxRecDepth 20000 in
theorem wm_X7_29 : Cond.methodLink RX7 29 yX1_init ∈ zB := List.mem_filter.mpr ⟨List.mem_of_getElem? (i := 230) (by decide +kernel), by decide +kernel⟩
theorem k_X7_29 : zCal RX7 29 yX1_init cX1_init 3 none 1 := ⟨wm_X7_29, wi_X1, wc_X1_init, by decide +kernel, by decide +kernel, by decide +kernel⟩
set_option maxRecDepth 20000 in
theorem wn_X1_init : Cond.instanceMethod yX1_init ∈ zB := List.mem_filter.mpr ⟨List.mem_of_getElem? (i := 231) (by decide +kernel), by decide +kernel⟩
set_option maxRecDepth 20000 in
theorem wf_X7_30 : Cond.fieldLink RX7 30 RX7 "history" "LFerryCrews$History;" ∈ zB := List.mem_filter.mpr ⟨List.mem_of_getElem? (i := 286) (by decide +kernel), by decide +kernel⟩
theorem p_X7_30 : zPut RX7 30 7 3 true (.object "FerryCrews$History") := ⟨RX7, TX7, 6, tyX7, rfl, by decide, iX7, wf_X7_30, rfl, tyX7_ok, nmX7, rfl, by decide +kernel, fun _ => rfl⟩
set_option maxRecDepth 20000 in
theorem wk_X7_34 : Cond.classLink RX7 34 RX6 ∈ zB := List.mem_filter.mpr ⟨List.mem_of_getElem? (i := 245) (by decide +kernel), by decide +kernel⟩
set_option maxRecDepth 20000 in
theorem wa_X6 : Cond.instantiable RX6 8 ∈ zB := List.mem_filter.mpr ⟨List.mem_of_getElem? (i := 246) (by decide +kernel), by decide +kernel⟩
set_option maxRecDepth 20000 in
theorem wc_X6_init : Cond.code yX6_init cX6_init 1 none ∈ zB := List.mem_filter.mpr ⟨List.mem_of_getElem? (i := 249) (by decide +kernel), by decide +kernel⟩
set_option maxRecDepth 20000 in
theorem k_X7_36 : zCalN RX7 36 yX6_init "FerryCrews" cX6_init 1 none 0 := ⟨List.mem_of_getElem? (i := 247) (by decide +kernel), wi_X6, wc_X6_init, by decide +kernel, by decide +kernel, by decide +kernel⟩
set_option maxRecDepth 20000 in
theorem wn_X6_init : Cond.instanceMethod yX6_init ∈ zB := List.mem_filter.mpr ⟨List.mem_of_getElem? (i := 248) (by decide +kernel), by decide +kernel⟩
set_option maxRecDepth 20000 in
theorem wf_X7_37 : Cond.fieldLink RX7 37 RX7 "text" "LFerryCrews$Text;" ∈ zB := List.mem_filter.mpr ⟨List.mem_of_getElem? (i := 287) (by decide +kernel), by decide +kernel⟩
theorem p_X7_37 : zPut RX7 37 7 4 true (.object "FerryCrews$Text") := ⟨RX7, TX7, 6, tyX7, rfl, by decide, iX7, wf_X7_37, rfl, tyX7_ok, nmX7, rfl, by decide +kernel, fun _ => rfl⟩
set_option maxRecDepth 20000 in
theorem wf_X7_41 : Cond.fieldLink RX7 41 RX7 "hasSnapshot" "Z" ∈ zB := List.mem_filter.mpr ⟨List.mem_of_getElem? (i := 288) (by decide +kernel), by decide +kernel⟩
theorem p_X7_41 : zPut RX7 41 7 5 false .boolean := ⟨RX7, TX7, 6, tyX7, rfl, by decide, iX7, wf_X7_41, rfl, tyX7_ok, nmX7, rfl, by decide +kernel, fun _ => rfl⟩
def rm_X7_init : Room := { frames := 4, cells := 1277, slots := 11189, locals := 85 }
set_option maxHeartbeats 4000000 in
set_option maxRecDepth 20000 in
theorem t_X7_init {p : Program} {l : Launch} {e : Env} {s : State} {m : MethodId} {args : Array Value} {below : List Frame} {meth : Method} {c : Code} {G : zG} (Z : zF p s m args c meth cX7_init 2 RX7 G) (hr : meth.sig.returnType = none) (hin : meth.name = "<init>") {out : zHp} {a0 : Nat} {h : zHp} {H : Heap} {locs : List Loc} {ls : Array Slot} {cells slots : Nat} (hf : f_X7_init a0 h = some out) (E : zE G s h H locs) (hl : lv_has ls 2 [(0, .ref a0)]) (hc : cells + 1277 ≤ 1277) (hs : slots + 11189 ≤ 11189) : W p l e rm_X7_init s m args below meth c H locs cells slots (MQ below (zQv G out) args s 1277 11189 (zA G)) (F0 m 0 ls []) := by
  unfold f_X7_init at hf
  refine lv_aload_n Z.x Z.b dX7_init_0 rfl (lv_at hl 0 rfl) ?_
  refine z_obj Z E hl.1 wo_X7_3 wo_inst wo_code dX7_init_1 (by decide) (by decide) ?_
  refine z_new (ci := 0) (C := RX0) (T := TX0) (N := 4) (ty := tyX0) (fs := [.null, .int 0, .int 0, .int 0]) Z E rfl iX0 tyX0_ok wk_X7_9 wa_X0 wi_X0 (fun j hj => by rcases (show j = 0 ∨ j = 1 ∨ j = 2 ∨ j = 3 by omega) with rfl | rfl | rfl | rfl <;> rfl) (show _ ≤ 1277 by omega) (show _ ≤ 11189 by omega) dX7_init_4 hf (fun q1 h2 H hf E => ?_)
  refine lv_dup Z.x Z.b dX7_init_7 rfl ?_
  refine z_IN (As := []) (mc := 1) (ms := 1168) Z E hl.1 k_X7_11 wn_X0_init rfl hf (fun h' e => c_X0_init l G h2 h' q1 e) rfl rfl (Nat.le_of_ble_eq_true rfl) ⟨⟨by decide, by decide⟩, ⟨rfl, rfl⟩, (show _ ≤ 1277 by omega), (show _ ≤ 11189 by omega)⟩ dX7_init_8 (fun h3 H locs hf E => ?_)
  refine lv_astore_n (lv' := [(1, .ref q1), (0, .ref a0)]) Z.x Z.b dX7_init_11 rfl hl (by decide) rfl (fun ls hl => ?_)
  refine lv_aload_n Z.x Z.b dX7_init_12 rfl (lv_at hl 1 rfl) ?_
  refine z_new (ci := 5) (C := RX5) (T := TX5) (N := 8) (ty := tyX5) (fs := [.null, .null, .int 0, .int 0, .int 0, .null, .null, .null]) Z E rfl iX5 tyX5_ok wk_X7_12 wa_X5 wi_X5 (fun j hj => by rcases (show j = 0 ∨ j = 1 ∨ j = 2 ∨ j = 3 ∨ j = 4 ∨ j = 5 ∨ j = 6 ∨ j = 7 by omega) with rfl | rfl | rfl | rfl | rfl | rfl | rfl | rfl <;> rfl) (show _ ≤ 1277 by omega) (show _ ≤ 11189 by omega) dX7_init_13 hf (fun q4 h5 H hf E => ?_)
  refine lv_dup Z.x Z.b dX7_init_16 rfl ?_
  refine lv_aload_n Z.x Z.b dX7_init_17 rfl (lv_at hl 0 rfl) ?_
  refine z_I (As := [.ref q1]) (mc := 180) (ms := 1409) Z E hl.1 k_X7_14 wn_X5_init rfl hf (fun h' e => c_X5_init l G h5 h' q4 q1 e) rfl rfl (Nat.le_of_ble_eq_true rfl) ⟨⟨by decide, by decide⟩, ⟨rfl, rfl⟩, (show _ ≤ 1277 by omega), (show _ ≤ 11189 by omega)⟩ dX7_init_18 (fun h6 H locs hf E => ?_)
  refine z_putF Z E hin p_X7_17 rfl rfl dX7_init_21 hf (fun h7 H locs hf E => ?_)
  refine lv_aload_n Z.x Z.b dX7_init_24 rfl (lv_at hl 1 rfl) ?_
  refine z_new (ci := 5) (C := RX5) (T := TX5) (N := 8) (ty := tyX5) (fs := [.null, .null, .int 0, .int 0, .int 0, .null, .null, .null]) Z E rfl iX5 tyX5_ok wk_X7_12 wa_X5 wi_X5 (fun j hj => by rcases (show j = 0 ∨ j = 1 ∨ j = 2 ∨ j = 3 ∨ j = 4 ∨ j = 5 ∨ j = 6 ∨ j = 7 by omega) with rfl | rfl | rfl | rfl | rfl | rfl | rfl | rfl <;> rfl) (show _ ≤ 1277 by omega) (show _ ≤ 11189 by omega) dX7_init_25 hf (fun q8 h9 H hf E => ?_)
  refine lv_dup Z.x Z.b dX7_init_28 rfl ?_
  refine lv_aload_n Z.x Z.b dX7_init_29 rfl (lv_at hl 0 rfl) ?_
  refine z_I (As := [.ref q1]) (mc := 180) (ms := 1409) Z E hl.1 k_X7_14 wn_X5_init rfl hf (fun h' e => c_X5_init l G h9 h' q8 q1 e) rfl rfl (Nat.le_of_ble_eq_true rfl) ⟨⟨by decide, by decide⟩, ⟨rfl, rfl⟩, (show _ ≤ 1277 by omega), (show _ ≤ 11189 by omega)⟩ dX7_init_30 (fun h10 H locs hf E => ?_)
  refine z_putF Z E hin p_X7_21 rfl rfl dX7_init_33 hf (fun h11 H locs hf E => ?_)
  refine lv_aload_n Z.x Z.b dX7_init_36 rfl (lv_at hl 1 rfl) ?_
  refine z_new (ci := 5) (C := RX5) (T := TX5) (N := 8) (ty := tyX5) (fs := [.null, .null, .int 0, .int 0, .int 0, .null, .null, .null]) Z E rfl iX5 tyX5_ok wk_X7_12 wa_X5 wi_X5 (fun j hj => by rcases (show j = 0 ∨ j = 1 ∨ j = 2 ∨ j = 3 ∨ j = 4 ∨ j = 5 ∨ j = 6 ∨ j = 7 by omega) with rfl | rfl | rfl | rfl | rfl | rfl | rfl | rfl <;> rfl) (show _ ≤ 1277 by omega) (show _ ≤ 11189 by omega) dX7_init_37 hf (fun q12 h13 H hf E => ?_)
  refine lv_dup Z.x Z.b dX7_init_40 rfl ?_
  refine lv_aload_n Z.x Z.b dX7_init_41 rfl (lv_at hl 0 rfl) ?_
  refine z_I (As := [.ref q1]) (mc := 180) (ms := 1409) Z E hl.1 k_X7_14 wn_X5_init rfl hf (fun h' e => c_X5_init l G h13 h' q12 q1 e) rfl rfl (Nat.le_of_ble_eq_true rfl) ⟨⟨by decide, by decide⟩, ⟨rfl, rfl⟩, (show _ ≤ 1277 by omega), (show _ ≤ 11189 by omega)⟩ dX7_init_42 (fun h14 H locs hf E => ?_)
  refine z_putF Z E hin p_X7_24 rfl rfl dX7_init_45 hf (fun h15 H locs hf E => ?_)
  refine lv_aload_n Z.x Z.b dX7_init_48 rfl (lv_at hl 1 rfl) ?_
  refine z_new (ci := 1) (C := RX1) (T := TX1) (N := 2) (ty := tyX1) (fs := [.null, .int 0]) Z E rfl iX1 tyX1_ok wk_X7_27 wa_X1 wi_X1 (fun j hj => by rcases (show j = 0 ∨ j = 1 by omega) with rfl | rfl <;> rfl) (show _ ≤ 1277 by omega) (show _ ≤ 11189 by omega) dX7_init_49 hf (fun q16 h17 H hf E => ?_)
  refine lv_dup Z.x Z.b dX7_init_52 rfl ?_
  refine lv_aload_n Z.x Z.b dX7_init_53 rfl (lv_at hl 0 rfl) ?_
  refine z_I (As := [.ref q1]) (mc := 725) (ms := 5672) Z E hl.1 k_X7_29 wn_X1_init rfl hf (fun h' e => c_X1_init l G h17 h' q16 q1 e) rfl rfl (Nat.le_of_ble_eq_true rfl) ⟨⟨by decide, by decide⟩, ⟨rfl, rfl⟩, (show _ ≤ 1277 by omega), (show _ ≤ 11189 by omega)⟩ dX7_init_54 (fun h18 H locs hf E => ?_)
  refine z_putF Z E hin p_X7_30 rfl rfl dX7_init_57 hf (fun h19 H locs hf E => ?_)
  refine lv_aload_n Z.x Z.b dX7_init_60 rfl (lv_at hl 1 rfl) ?_
  refine z_new (ci := 6) (C := RX6) (T := TX6) (N := 8) (ty := tyX6) (fs := [.null, .int 0, .int 0, .int 0, .null, .null, .null, .null]) Z E rfl iX6 tyX6_ok wk_X7_34 wa_X6 wi_X6 (fun j hj => by rcases (show j = 0 ∨ j = 1 ∨ j = 2 ∨ j = 3 ∨ j = 4 ∨ j = 5 ∨ j = 6 ∨ j = 7 by omega) with rfl | rfl | rfl | rfl | rfl | rfl | rfl | rfl <;> rfl) (show _ ≤ 1277 by omega) (show _ ≤ 11189 by omega) dX7_init_61 hf (fun q20 h21 H hf E => ?_)
  refine lv_dup Z.x Z.b dX7_init_64 rfl ?_
  refine z_IN (As := []) (mc := 5) (ms := 84) Z E hl.1 k_X7_36 wn_X6_init rfl hf (fun h' e => c_X6_init l G h21 h' q20 e) rfl rfl (Nat.le_of_ble_eq_true rfl) ⟨⟨by decide, by decide⟩, ⟨rfl, rfl⟩, (show _ ≤ 1277 by omega), (show _ ≤ 11189 by omega)⟩ dX7_init_65 (fun h22 H locs hf E => ?_)
  refine z_putF Z E hin p_X7_37 rfl rfl dX7_init_68 hf (fun h23 H locs hf E => ?_)
  refine lv_aload_n Z.x Z.b dX7_init_71 rfl (lv_at hl 1 rfl) ?_
  refine lv_iconst (v := 0) Z.x Z.b dX7_init_72 (by decide) ?_
  refine z_put Z E p_X7_41 rfl rfl dX7_init_73 hf (fun h24 H locs hf E => ?_)
  refine W.widen (k := 1277) (n := 11189) (by omega) (by omega) ?_
  exact z_vret Z E hr dX7_init_76 hf
set_option maxHeartbeats 4000000 in
set_option maxRecDepth 20000 in
theorem c_X7_init (l : Launch) (G : zG) (h : zHp) (h' : zHp) (a0 : Nat) (hf : f_X7_init a0 h = some h') : zMn l yX7_init cX7_init 2 rm_X7_init 1277 11189 G [.ref a0] h h' := by
  refine Met.ofW (cc := cX7_init) (maxL := 2) (ret := none) (by decide) rfl ?_
  intro p e s m args below meth c s₁ B hml hv
  obtain ⟨rfl, hW⟩ := hv
  obtain ⟨Z, E, hr⟩ := zEnter (own := RX7) B hml rfl hW
  have hin : meth.name = "<init>" := (name_of_methodNamed B.named B.method).1
  have hl := lv_entry ([.ref a0]) (n := 2) (Nat.le_of_ble_eq_true rfl)
  rw [lg_entry_eq]
  generalize (lg_sl ([.ref a0]) ++ List.replicate (2 - (lg_sl ([.ref a0])).length) Slot.unset).toArray = ls at hl ⊢
  have hl : lv_has ls 2 [(0, .ref a0)] := hl
  exact t_X7_init (out := h') Z hr hin hf E hl (by decide) (by decide)
/-! FerryCrews.sailing(IIII)I -/
theorem dX7_sailing_0 : decode cX7_sailing 0 = .ok (.aload_n 0, 1) := by decide +kernel
theorem dX7_sailing_1 : decode cX7_sailing 1 = .ok (.getfield 17, 3) := by decide +kernel
theorem dX7_sailing_4 : decode cX7_sailing 4 = .ok (.iload_n 1, 1) := by decide +kernel
theorem dX7_sailing_5 : decode cX7_sailing 5 = .ok (.iload_n 2, 1) := by decide +kernel
theorem dX7_sailing_6 : decode cX7_sailing 6 = .ok (.iload_n 3, 1) := by decide +kernel
theorem dX7_sailing_7 : decode cX7_sailing 7 = .ok (.iload 4, 2) := by decide +kernel
theorem dX7_sailing_9 : decode cX7_sailing 9 = .ok (.invokevirtual 45, 3) := by decide +kernel
theorem dX7_sailing_12 : decode cX7_sailing 12 = .ok (.istore 5, 2) := by decide +kernel
theorem dX7_sailing_14 : decode cX7_sailing 14 = .ok (.iload 5, 2) := by decide +kernel
theorem dX7_sailing_16 : decode cX7_sailing 16 = .ok (.ifCond .ge 6, 3) := by decide +kernel
theorem dX7_sailing_19 : decode cX7_sailing 19 = .ok (.iload 5, 2) := by decide +kernel
theorem dX7_sailing_21 : decode cX7_sailing 21 = .ok (.ireturn, 1) := by decide +kernel
theorem dX7_sailing_22 : decode cX7_sailing 22 = .ok (.aload_n 0, 1) := by decide +kernel
theorem dX7_sailing_23 : decode cX7_sailing 23 = .ok (.getfield 30, 3) := by decide +kernel
theorem dX7_sailing_26 : decode cX7_sailing 26 = .ok (.aload_n 0, 1) := by decide +kernel
theorem dX7_sailing_27 : decode cX7_sailing 27 = .ok (.getfield 17, 3) := by decide +kernel
theorem dX7_sailing_30 : decode cX7_sailing 30 = .ok (.invokevirtual 49, 3) := by decide +kernel
theorem dX7_sailing_33 : decode cX7_sailing 33 = .ok (.aload_n 0, 1) := by decide +kernel
theorem dX7_sailing_34 : decode cX7_sailing 34 = .ok (.getfield 17, 3) := by decide +kernel
theorem dX7_sailing_37 : decode cX7_sailing 37 = .ok (.iload_n 1, 1) := by decide +kernel
theorem dX7_sailing_38 : decode cX7_sailing 38 = .ok (.iload_n 2, 1) := by decide +kernel
theorem dX7_sailing_39 : decode cX7_sailing 39 = .ok (.iload_n 3, 1) := by decide +kernel
theorem dX7_sailing_40 : decode cX7_sailing 40 = .ok (.iload 4, 2) := by decide +kernel
theorem dX7_sailing_42 : decode cX7_sailing 42 = .ok (.invokevirtual 53, 3) := by decide +kernel
theorem dX7_sailing_45 : decode cX7_sailing 45 = .ok (.ireturn, 1) := by decide +kernel
theorem q_X7_17 : zFld RX7 17 7 0 := ⟨RX7, TX7, 6, rfl, by decide, iX7, wf_X7_17, rfl⟩
set_option maxRecDepth 20000 in
theorem wc_X5_refusalOf : Cond.code yX5_refusalOf cX5_refusalOf 9 (some .int) ∈ zB := List.mem_filter.mpr ⟨List.mem_of_getElem? (i := 309) (by decide +kernel), by decide +kernel⟩
set_option maxRecDepth 20000 in
theorem wm_X7_45 : Cond.methodLink RX7 45 yX5_refusalOf ∈ zB := List.mem_filter.mpr ⟨List.mem_of_getElem? (i := 306) (by decide +kernel), by decide +kernel⟩
theorem k_X7_45 : zCal RX7 45 yX5_refusalOf cX5_refusalOf 9 (some .int) 4 := ⟨wm_X7_45, wi_X5, wc_X5_refusalOf, by decide +kernel, by decide +kernel, by decide +kernel⟩
set_option maxRecDepth 20000 in
theorem wn_X5_refusalOf : Cond.instanceMethod yX5_refusalOf ∈ zB := List.mem_filter.mpr ⟨List.mem_of_getElem? (i := 307) (by decide +kernel), by decide +kernel⟩
set_option maxRecDepth 20000 in
theorem ws_X5_refusalOf : Cond.selects RX5 yX5_refusalOf yX5_refusalOf ∈ zB := List.mem_filter.mpr ⟨List.mem_of_getElem? (i := 308) (by decide +kernel), by decide +kernel⟩
theorem v_X5_refusalOf : zVir yX5_refusalOf 5 := ⟨wn_X5_refusalOf, ws_X5_refusalOf, TX5, 8, rfl⟩
theorem q_X7_30 : zFld RX7 30 7 3 := ⟨RX7, TX7, 6, rfl, by decide, iX7, wf_X7_30, rfl⟩
set_option maxRecDepth 20000 in
theorem wc_X1_record : Cond.code yX1_record cX1_record 2 none ∈ zB := List.mem_filter.mpr ⟨List.mem_of_getElem? (i := 324) (by decide +kernel), by decide +kernel⟩
set_option maxRecDepth 20000 in
theorem wm_X7_49 : Cond.methodLink RX7 49 yX1_record ∈ zB := List.mem_filter.mpr ⟨List.mem_of_getElem? (i := 321) (by decide +kernel), by decide +kernel⟩
theorem k_X7_49 : zCal RX7 49 yX1_record cX1_record 2 none 1 := ⟨wm_X7_49, wi_X1, wc_X1_record, by decide +kernel, by decide +kernel, by decide +kernel⟩
set_option maxRecDepth 20000 in
theorem wn_X1_record : Cond.instanceMethod yX1_record ∈ zB := List.mem_filter.mpr ⟨List.mem_of_getElem? (i := 322) (by decide +kernel), by decide +kernel⟩
set_option maxRecDepth 20000 in
theorem ws_X1_record : Cond.selects RX1 yX1_record yX1_record ∈ zB := List.mem_filter.mpr ⟨List.mem_of_getElem? (i := 323) (by decide +kernel), by decide +kernel⟩
theorem v_X1_record : zVir yX1_record 1 := ⟨wn_X1_record, ws_X1_record, TX1, 2, rfl⟩
set_option maxRecDepth 20000 in
theorem wc_X5_addSailing : Cond.code yX5_addSailing cX5_addSailing 8 (some .int) ∈ zB := List.mem_filter.mpr ⟨List.mem_of_getElem? (i := 355) (by decide +kernel), by decide +kernel⟩
set_option maxRecDepth 20000 in
theorem wm_X7_53 : Cond.methodLink RX7 53 yX5_addSailing ∈ zB := List.mem_filter.mpr ⟨List.mem_of_getElem? (i := 352) (by decide +kernel), by decide +kernel⟩
theorem k_X7_53 : zCal RX7 53 yX5_addSailing cX5_addSailing 8 (some .int) 4 := ⟨wm_X7_53, wi_X5, wc_X5_addSailing, by decide +kernel, by decide +kernel, by decide +kernel⟩
set_option maxRecDepth 20000 in
theorem wn_X5_addSailing : Cond.instanceMethod yX5_addSailing ∈ zB := List.mem_filter.mpr ⟨List.mem_of_getElem? (i := 353) (by decide +kernel), by decide +kernel⟩
set_option maxRecDepth 20000 in
theorem ws_X5_addSailing : Cond.selects RX5 yX5_addSailing yX5_addSailing ∈ zB := List.mem_filter.mpr ⟨List.mem_of_getElem? (i := 354) (by decide +kernel), by decide +kernel⟩
theorem v_X5_addSailing : zVir yX5_addSailing 5 := ⟨wn_X5_addSailing, ws_X5_addSailing, TX5, 8, rfl⟩
def rm_X7_sailing : Room := { frames := 4, cells := 0, slots := 0, locals := 104 }
set_option maxHeartbeats 4000000 in
set_option maxRecDepth 20000 in
theorem t_X7_sailing {p : Program} {l : Launch} {e : Env} {s : State} {m : MethodId} {args : Array Value} {below : List Frame} {meth : Method} {c : Code} {G : zG} (Z : zF p s m args c meth cX7_sailing 6 RX7 G) (hr : meth.sig.returnType = (some .int)) {out : Int32 × zHp} {a0 : Nat} {a1 : Int32} {a2 : Int32} {a3 : Int32} {a4 : Int32} {h : zHp} {H : Heap} {locs : List Loc} {ls : Array Slot} (hf : f_X7_sailing a0 a1 a2 a3 a4 h = some out) (E : zE G s h H locs) (hl : lv_has ls 6 [(0, .ref a0), (1, .int a1), (2, .int a2), (3, .int a3), (4, .int a4)]) : W p l e rm_X7_sailing s m args below meth c H locs 0 0 (MQ below (zQi G out.1 out.2) args s 0 0 (zA G)) (F0 m 0 ls []) := by
  unfold f_X7_sailing at hf
  refine lv_aload_n Z.x Z.b dX7_sailing_0 rfl (lv_at hl 0 rfl) ?_
  refine z_getR Z E q_X7_17 dX7_sailing_1 hf (fun v1 hf => ?_)
  refine lv_iload_n Z.x Z.b dX7_sailing_4 rfl (lv_at hl 1 rfl) ?_
  refine lv_iload_n Z.x Z.b dX7_sailing_5 rfl (lv_at hl 2 rfl) ?_
  refine lv_iload_n Z.x Z.b dX7_sailing_6 rfl (lv_at hl 3 rfl) ?_
  refine lv_iload Z.x Z.b dX7_sailing_7 (lv_at hl 4 rfl) ?_
  refine z_Vi (As := [.int a1, .int a2, .int a3, .int a4]) Z E hl.1 k_X7_45 v_X5_refusalOf hf (fun r h' e => c_X5_refusalOf l G h h' v1 a1 a2 a3 a4 r e) rfl rfl (Nat.le_of_ble_eq_true rfl) (zRm_of rfl (Nat.zero_le _) (Nat.zero_le _)) dX7_sailing_9 (fun v2 h3 H locs hf E => ?_)
  refine lv_istore (lv' := [(5, .int v2), (0, .ref a0), (1, .int a1), (2, .int a2), (3, .int a3), (4, .int a4)]) Z.x Z.b dX7_sailing_12 hl (by decide) rfl (fun ls hl => ?_)
  refine lv_iload Z.x Z.b dX7_sailing_14 (lv_at hl 0 rfl) ?_
  refine lv_if_ge (tgt := 22) Z.x Z.b dX7_sailing_16 (by decide) (fun c => ?_) (fun c => ?_)
  · have hf := zit hf c
    refine lv_aload_n Z.x Z.b dX7_sailing_22 rfl (lv_at hl 1 rfl) ?_
    refine z_getR Z E q_X7_30 dX7_sailing_23 hf (fun v4 hf => ?_)
    refine lv_aload_n Z.x Z.b dX7_sailing_26 rfl (lv_at hl 1 rfl) ?_
    refine z_getR Z E q_X7_17 dX7_sailing_27 hf (fun v5 hf => ?_)
    refine z_Vv (As := [.ref v5]) Z E hl.1 k_X7_49 v_X1_record hf (fun h' e => c_X1_record l G h3 h' v4 v5 e) rfl rfl (Nat.le_of_ble_eq_true rfl) (zRm_of rfl (Nat.zero_le _) (Nat.zero_le _)) dX7_sailing_30 (fun h6 H locs hf E => ?_)
    refine lv_aload_n Z.x Z.b dX7_sailing_33 rfl (lv_at hl 1 rfl) ?_
    refine z_getR Z E q_X7_17 dX7_sailing_34 hf (fun v7 hf => ?_)
    refine lv_iload_n Z.x Z.b dX7_sailing_37 rfl (lv_at hl 2 rfl) ?_
    refine lv_iload_n Z.x Z.b dX7_sailing_38 rfl (lv_at hl 3 rfl) ?_
    refine lv_iload_n Z.x Z.b dX7_sailing_39 rfl (lv_at hl 4 rfl) ?_
    refine lv_iload Z.x Z.b dX7_sailing_40 (lv_at hl 5 rfl) ?_
    refine z_Vi (As := [.int a1, .int a2, .int a3, .int a4]) Z E hl.1 k_X7_53 v_X5_addSailing hf (fun r h' e => c_X5_addSailing l G h6 h' v7 a1 a2 a3 a4 r e) rfl rfl (Nat.le_of_ble_eq_true rfl) (zRm_of rfl (Nat.zero_le _) (Nat.zero_le _)) dX7_sailing_42 (fun v8 h9 H locs hf E => ?_)
    exact z_iret Z E hr dX7_sailing_45 hf
  · have hf := zif_ hf c
    refine lv_iload Z.x Z.b dX7_sailing_19 (lv_at hl 0 rfl) ?_
    exact z_iret Z E hr dX7_sailing_21 hf
set_option maxHeartbeats 4000000 in
set_option maxRecDepth 20000 in
theorem c_X7_sailing (l : Launch) (G : zG) (h : zHp) (h' : zHp) (a0 : Nat) (a1 : Int32) (a2 : Int32) (a3 : Int32) (a4 : Int32) (r : Int32) (hf : f_X7_sailing a0 a1 a2 a3 a4 h = some (r, h')) : zM0 l yX7_sailing cX7_sailing 6 (some .int) rm_X7_sailing G [.ref a0, .int a1, .int a2, .int a3, .int a4] h (zQi G r h') := by
  refine Met.ofW (cc := cX7_sailing) (maxL := 6) (ret := (some .int)) (by decide) rfl ?_
  intro p e s m args below meth c s₁ B hml hv
  obtain ⟨rfl, hW⟩ := hv
  obtain ⟨Z, E, hr⟩ := zEnter (own := RX7) B hml rfl hW
  have hl := lv_entry ([.ref a0, .int a1, .int a2, .int a3, .int a4]) (n := 6) (Nat.le_of_ble_eq_true rfl)
  rw [lg_entry_eq]
  generalize (lg_sl ([.ref a0, .int a1, .int a2, .int a3, .int a4]) ++ List.replicate (6 - (lg_sl ([.ref a0, .int a1, .int a2, .int a3, .int a4])).length) Slot.unset).toArray = ls at hl ⊢
  have hl : lv_has ls 6 [(0, .ref a0), (1, .int a1), (2, .int a2), (3, .int a3), (4, .int a4)] := hl
  exact t_X7_sailing (out := (r, h')) Z hr hf E hl
/-! FerryCrews.addReadSailings(LFerryCrews$State;)I -/
theorem dX7_addReadSailings_0 : decode cX7_addReadSailings 0 = .ok (.iconst 0, 1) := by decide +kernel
theorem dX7_addReadSailings_1 : decode cX7_addReadSailings 1 = .ok (.istore_n 2, 1) := by decide +kernel
theorem dX7_addReadSailings_2 : decode cX7_addReadSailings 2 = .ok (.iload_n 2, 1) := by decide +kernel
theorem dX7_addReadSailings_3 : decode cX7_addReadSailings 3 = .ok (.aload_n 0, 1) := by decide +kernel
theorem dX7_addReadSailings_4 : decode cX7_addReadSailings 4 = .ok (.getfield 37, 3) := by decide +kernel
theorem dX7_addReadSailings_7 : decode cX7_addReadSailings 7 = .ok (.getfield 67, 3) := by decide +kernel
theorem dX7_addReadSailings_10 : decode cX7_addReadSailings 10 = .ok (.if_icmp .ge 91, 3) := by decide +kernel
theorem dX7_addReadSailings_13 : decode cX7_addReadSailings 13 = .ok (.iload_n 2, 1) := by decide +kernel
theorem dX7_addReadSailings_14 : decode cX7_addReadSailings 14 = .ok (.bipush 6, 2) := by decide +kernel
theorem dX7_addReadSailings_16 : decode cX7_addReadSailings 16 = .ok (.if_icmp .ge 85, 3) := by decide +kernel
theorem dX7_addReadSailings_19 : decode cX7_addReadSailings 19 = .ok (.aload_n 0, 1) := by decide +kernel
theorem dX7_addReadSailings_20 : decode cX7_addReadSailings 20 = .ok (.getfield 37, 3) := by decide +kernel
theorem dX7_addReadSailings_23 : decode cX7_addReadSailings 23 = .ok (.getfield 270, 3) := by decide +kernel
theorem dX7_addReadSailings_26 : decode cX7_addReadSailings 26 = .ok (.iload_n 2, 1) := by decide +kernel
theorem dX7_addReadSailings_27 : decode cX7_addReadSailings 27 = .ok (.iaload, 1) := by decide +kernel
theorem dX7_addReadSailings_28 : decode cX7_addReadSailings 28 = .ok (.istore_n 3, 1) := by decide +kernel
theorem dX7_addReadSailings_29 : decode cX7_addReadSailings 29 = .ok (.aload_n 0, 1) := by decide +kernel
theorem dX7_addReadSailings_30 : decode cX7_addReadSailings 30 = .ok (.getfield 37, 3) := by decide +kernel
theorem dX7_addReadSailings_33 : decode cX7_addReadSailings 33 = .ok (.getfield 273, 3) := by decide +kernel
theorem dX7_addReadSailings_36 : decode cX7_addReadSailings 36 = .ok (.iload_n 2, 1) := by decide +kernel
theorem dX7_addReadSailings_37 : decode cX7_addReadSailings 37 = .ok (.iaload, 1) := by decide +kernel
theorem dX7_addReadSailings_38 : decode cX7_addReadSailings 38 = .ok (.istore 4, 2) := by decide +kernel
theorem dX7_addReadSailings_40 : decode cX7_addReadSailings 40 = .ok (.aload_n 0, 1) := by decide +kernel
theorem dX7_addReadSailings_41 : decode cX7_addReadSailings 41 = .ok (.getfield 37, 3) := by decide +kernel
theorem dX7_addReadSailings_44 : decode cX7_addReadSailings 44 = .ok (.getfield 276, 3) := by decide +kernel
theorem dX7_addReadSailings_47 : decode cX7_addReadSailings 47 = .ok (.iload_n 2, 1) := by decide +kernel
theorem dX7_addReadSailings_48 : decode cX7_addReadSailings 48 = .ok (.iaload, 1) := by decide +kernel
theorem dX7_addReadSailings_49 : decode cX7_addReadSailings 49 = .ok (.istore 5, 2) := by decide +kernel
theorem dX7_addReadSailings_51 : decode cX7_addReadSailings 51 = .ok (.aload_n 0, 1) := by decide +kernel
theorem dX7_addReadSailings_52 : decode cX7_addReadSailings 52 = .ok (.getfield 37, 3) := by decide +kernel
theorem dX7_addReadSailings_55 : decode cX7_addReadSailings 55 = .ok (.getfield 278, 3) := by decide +kernel
theorem dX7_addReadSailings_58 : decode cX7_addReadSailings 58 = .ok (.iload_n 2, 1) := by decide +kernel
theorem dX7_addReadSailings_59 : decode cX7_addReadSailings 59 = .ok (.iaload, 1) := by decide +kernel
theorem dX7_addReadSailings_60 : decode cX7_addReadSailings 60 = .ok (.istore 6, 2) := by decide +kernel
theorem dX7_addReadSailings_62 : decode cX7_addReadSailings 62 = .ok (.aload_n 1, 1) := by decide +kernel
theorem dX7_addReadSailings_63 : decode cX7_addReadSailings 63 = .ok (.iload_n 3, 1) := by decide +kernel
theorem dX7_addReadSailings_64 : decode cX7_addReadSailings 64 = .ok (.iload 4, 2) := by decide +kernel
theorem dX7_addReadSailings_66 : decode cX7_addReadSailings 66 = .ok (.iload 5, 2) := by decide +kernel
theorem dX7_addReadSailings_68 : decode cX7_addReadSailings 68 = .ok (.iload 6, 2) := by decide +kernel
theorem dX7_addReadSailings_70 : decode cX7_addReadSailings 70 = .ok (.invokevirtual 45, 3) := by decide +kernel
theorem dX7_addReadSailings_73 : decode cX7_addReadSailings 73 = .ok (.istore 7, 2) := by decide +kernel
theorem dX7_addReadSailings_75 : decode cX7_addReadSailings 75 = .ok (.iload 7, 2) := by decide +kernel
theorem dX7_addReadSailings_77 : decode cX7_addReadSailings 77 = .ok (.ifCond .ge 6, 3) := by decide +kernel
theorem dX7_addReadSailings_80 : decode cX7_addReadSailings 80 = .ok (.iload 7, 2) := by decide +kernel
theorem dX7_addReadSailings_82 : decode cX7_addReadSailings 82 = .ok (.ireturn, 1) := by decide +kernel
theorem dX7_addReadSailings_83 : decode cX7_addReadSailings 83 = .ok (.aload_n 1, 1) := by decide +kernel
theorem dX7_addReadSailings_84 : decode cX7_addReadSailings 84 = .ok (.iload_n 3, 1) := by decide +kernel
theorem dX7_addReadSailings_85 : decode cX7_addReadSailings 85 = .ok (.iload 4, 2) := by decide +kernel
theorem dX7_addReadSailings_87 : decode cX7_addReadSailings 87 = .ok (.iload 5, 2) := by decide +kernel
theorem dX7_addReadSailings_89 : decode cX7_addReadSailings 89 = .ok (.iload 6, 2) := by decide +kernel
theorem dX7_addReadSailings_91 : decode cX7_addReadSailings 91 = .ok (.invokevirtual 53, 3) := by decide +kernel
theorem dX7_addReadSailings_94 : decode cX7_addReadSailings 94 = .ok (.pop, 1) := by decide +kernel
theorem dX7_addReadSailings_95 : decode cX7_addReadSailings 95 = .ok (.iinc 2 1, 3) := by decide +kernel
theorem dX7_addReadSailings_98 : decode cX7_addReadSailings 98 = .ok (.goto (-96), 3) := by decide +kernel
theorem dX7_addReadSailings_101 : decode cX7_addReadSailings 101 = .ok (.iconst 0, 1) := by decide +kernel
theorem dX7_addReadSailings_102 : decode cX7_addReadSailings 102 = .ok (.ireturn, 1) := by decide +kernel
theorem q_X7_37 : zFld RX7 37 7 4 := ⟨RX7, TX7, 6, rfl, by decide, iX7, wf_X7_37, rfl⟩
set_option maxRecDepth 20000 in
theorem wf_X7_67 : Cond.fieldLink RX7 67 RX6 "sailingsRead" "I" ∈ zB := List.mem_filter.mpr ⟨List.mem_of_getElem? (i := 256) (by decide +kernel), by decide +kernel⟩
theorem q_X7_67 : zFld RX7 67 6 3 := ⟨RX6, TX6, 8, rfl, by decide, iX6, wf_X7_67, rfl⟩
set_option maxRecDepth 20000 in
theorem wf_X7_270 : Cond.fieldLink RX7 270 RX6 "ferries" "[I" ∈ zB := List.mem_filter.mpr ⟨List.mem_of_getElem? (i := 258) (by decide +kernel), by decide +kernel⟩
theorem q_X7_270 : zFld RX7 270 6 4 := ⟨RX6, TX6, 8, rfl, by decide, iX6, wf_X7_270, rfl⟩
set_option maxRecDepth 20000 in
theorem wf_X7_273 : Cond.fieldLink RX7 273 RX6 "starts" "[I" ∈ zB := List.mem_filter.mpr ⟨List.mem_of_getElem? (i := 260) (by decide +kernel), by decide +kernel⟩
theorem q_X7_273 : zFld RX7 273 6 5 := ⟨RX6, TX6, 8, rfl, by decide, iX6, wf_X7_273, rfl⟩
set_option maxRecDepth 20000 in
theorem wf_X7_276 : Cond.fieldLink RX7 276 RX6 "hours" "[I" ∈ zB := List.mem_filter.mpr ⟨List.mem_of_getElem? (i := 262) (by decide +kernel), by decide +kernel⟩
theorem q_X7_276 : zFld RX7 276 6 6 := ⟨RX6, TX6, 8, rfl, by decide, iX6, wf_X7_276, rfl⟩
set_option maxRecDepth 20000 in
theorem wf_X7_278 : Cond.fieldLink RX7 278 RX6 "sets" "[I" ∈ zB := List.mem_filter.mpr ⟨List.mem_of_getElem? (i := 264) (by decide +kernel), by decide +kernel⟩
theorem q_X7_278 : zFld RX7 278 6 7 := ⟨RX6, TX6, 8, rfl, by decide, iX6, wf_X7_278, rfl⟩
def rm_X7_addReadSailings : Room := { frames := 3, cells := 0, slots := 0, locals := 72 }
set_option maxHeartbeats 4000000 in
set_option maxRecDepth 20000 in
theorem t_X7_addReadSailings_2_body {p : Program} {l : Launch} {e : Env} {s : State} {m : MethodId} {args : Array Value} {below : List Frame} {meth : Method} {c : Code} {G : zG} (Z : zF p s m args c meth cX7_addReadSailings 8 RX7 G) (hr : meth.sig.returnType = (some .int)) {out : Int32 × zHp} {r2 : Nat → Nat → Int32 → zHp → Option (Int32 × zHp)} (k2 : ∀ {a0 : Nat} {a1 : Nat} {a2 : Int32} {h : zHp} {H : Heap} {locs : List Loc} {ls : Array Slot}, r2 a0 a1 a2 h = some out → zE G s h H locs → lv_has ls 8 [(0, .ref a0), (1, .ref a1), (2, .int a2)] → W p l e rm_X7_addReadSailings s m args below meth c H locs 0 0 (MQ below (zQi G out.1 out.2) args s 0 0 (zA G)) (F0 m 2 ls [])) {a0 : Nat} {a1 : Nat} {a2 : Int32} {h : zHp} {H : Heap} {locs : List Loc} {ls : Array Slot} (hf : f_X7_addReadSailings_2_body r2 a0 a1 a2 h = some out) (E : zE G s h H locs) (hl : lv_has ls 8 [(0, .ref a0), (1, .ref a1), (2, .int a2)]) : W p l e rm_X7_addReadSailings s m args below meth c H locs 0 0 (MQ below (zQi G out.1 out.2) args s 0 0 (zA G)) (F0 m 2 ls []) := by
  unfold f_X7_addReadSailings_2_body at hf
  refine lv_iload_n Z.x Z.b dX7_addReadSailings_2 rfl (lv_at hl 2 rfl) ?_
  refine lv_aload_n Z.x Z.b dX7_addReadSailings_3 rfl (lv_at hl 0 rfl) ?_
  refine z_getR Z E q_X7_37 dX7_addReadSailings_4 hf (fun v1 hf => ?_)
  refine z_getI Z E q_X7_67 dX7_addReadSailings_7 hf (fun v2 hf => ?_)
  refine lv_icmp_ge (tgt := 101) Z.x Z.b dX7_addReadSailings_10 (by decide) (fun c => ?_) (fun c => ?_)
  · have hf := zit hf c
    refine lv_iconst (v := 0) Z.x Z.b dX7_addReadSailings_101 (by decide) ?_
    exact z_iret Z E hr dX7_addReadSailings_102 hf
  · have hf := zif_ hf c
    refine lv_iload_n Z.x Z.b dX7_addReadSailings_13 rfl (lv_at hl 2 rfl) ?_
    refine lv_bipush (v := 6) Z.x Z.b dX7_addReadSailings_14 (by decide) ?_
    refine lv_icmp_ge (tgt := 101) Z.x Z.b dX7_addReadSailings_16 (by decide) (fun c => ?_) (fun c => ?_)
    · have hf := zit hf c
      refine lv_iconst (v := 0) Z.x Z.b dX7_addReadSailings_101 (by decide) ?_
      exact z_iret Z E hr dX7_addReadSailings_102 hf
    · have hf := zif_ hf c
      refine lv_aload_n Z.x Z.b dX7_addReadSailings_19 rfl (lv_at hl 0 rfl) ?_
      refine z_getR Z E q_X7_37 dX7_addReadSailings_20 hf (fun v3 hf => ?_)
      refine z_getR Z E q_X7_270 dX7_addReadSailings_23 hf (fun v4 hf => ?_)
      refine lv_iload_n Z.x Z.b dX7_addReadSailings_26 rfl (lv_at hl 2 rfl) ?_
      refine z_iald Z E dX7_addReadSailings_27 hf (fun v5 hf => ?_)
      refine lv_istore_n (lv' := [(3, .int v5), (0, .ref a0), (1, .ref a1), (2, .int a2)]) Z.x Z.b dX7_addReadSailings_28 rfl hl (by decide) rfl (fun ls hl => ?_)
      refine lv_aload_n Z.x Z.b dX7_addReadSailings_29 rfl (lv_at hl 1 rfl) ?_
      refine z_getR Z E q_X7_37 dX7_addReadSailings_30 hf (fun v6 hf => ?_)
      refine z_getR Z E q_X7_273 dX7_addReadSailings_33 hf (fun v7 hf => ?_)
      refine lv_iload_n Z.x Z.b dX7_addReadSailings_36 rfl (lv_at hl 3 rfl) ?_
      refine z_iald Z E dX7_addReadSailings_37 hf (fun v8 hf => ?_)
      refine lv_istore (lv' := [(4, .int v8), (3, .int v5), (0, .ref a0), (1, .ref a1), (2, .int a2)]) Z.x Z.b dX7_addReadSailings_38 hl (by decide) rfl (fun ls hl => ?_)
      refine lv_aload_n Z.x Z.b dX7_addReadSailings_40 rfl (lv_at hl 2 rfl) ?_
      refine z_getR Z E q_X7_37 dX7_addReadSailings_41 hf (fun v9 hf => ?_)
      refine z_getR Z E q_X7_276 dX7_addReadSailings_44 hf (fun v10 hf => ?_)
      refine lv_iload_n Z.x Z.b dX7_addReadSailings_47 rfl (lv_at hl 4 rfl) ?_
      refine z_iald Z E dX7_addReadSailings_48 hf (fun v11 hf => ?_)
      refine lv_istore (lv' := [(5, .int v11), (4, .int v8), (3, .int v5), (0, .ref a0), (1, .ref a1), (2, .int a2)]) Z.x Z.b dX7_addReadSailings_49 hl (by decide) rfl (fun ls hl => ?_)
      refine lv_aload_n Z.x Z.b dX7_addReadSailings_51 rfl (lv_at hl 3 rfl) ?_
      refine z_getR Z E q_X7_37 dX7_addReadSailings_52 hf (fun v12 hf => ?_)
      refine z_getR Z E q_X7_278 dX7_addReadSailings_55 hf (fun v13 hf => ?_)
      refine lv_iload_n Z.x Z.b dX7_addReadSailings_58 rfl (lv_at hl 5 rfl) ?_
      refine z_iald Z E dX7_addReadSailings_59 hf (fun v14 hf => ?_)
      refine lv_istore (lv' := [(6, .int v14), (5, .int v11), (4, .int v8), (3, .int v5), (0, .ref a0), (1, .ref a1), (2, .int a2)]) Z.x Z.b dX7_addReadSailings_60 hl (by decide) rfl (fun ls hl => ?_)
      refine lv_aload_n Z.x Z.b dX7_addReadSailings_62 rfl (lv_at hl 5 rfl) ?_
      refine lv_iload_n Z.x Z.b dX7_addReadSailings_63 rfl (lv_at hl 3 rfl) ?_
      refine lv_iload Z.x Z.b dX7_addReadSailings_64 (lv_at hl 2 rfl) ?_
      refine lv_iload Z.x Z.b dX7_addReadSailings_66 (lv_at hl 1 rfl) ?_
      refine lv_iload Z.x Z.b dX7_addReadSailings_68 (lv_at hl 0 rfl) ?_
      refine z_Vi (As := [.int v5, .int v8, .int v11, .int v14]) Z E hl.1 k_X7_45 v_X5_refusalOf hf (fun r h' e => c_X5_refusalOf l G h h' a1 v5 v8 v11 v14 r e) rfl rfl (Nat.le_of_ble_eq_true rfl) (zRm_of rfl (Nat.zero_le _) (Nat.zero_le _)) dX7_addReadSailings_70 (fun v15 h16 H locs hf E => ?_)
      refine lv_istore (lv' := [(7, .int v15), (6, .int v14), (5, .int v11), (4, .int v8), (3, .int v5), (0, .ref a0), (1, .ref a1), (2, .int a2)]) Z.x Z.b dX7_addReadSailings_73 hl (by decide) rfl (fun ls hl => ?_)
      refine lv_iload Z.x Z.b dX7_addReadSailings_75 (lv_at hl 0 rfl) ?_
      refine lv_if_ge (tgt := 83) Z.x Z.b dX7_addReadSailings_77 (by decide) (fun c => ?_) (fun c => ?_)
      · have hf := zit hf c
        refine lv_aload_n Z.x Z.b dX7_addReadSailings_83 rfl (lv_at hl 6 rfl) ?_
        refine lv_iload_n Z.x Z.b dX7_addReadSailings_84 rfl (lv_at hl 4 rfl) ?_
        refine lv_iload Z.x Z.b dX7_addReadSailings_85 (lv_at hl 3 rfl) ?_
        refine lv_iload Z.x Z.b dX7_addReadSailings_87 (lv_at hl 2 rfl) ?_
        refine lv_iload Z.x Z.b dX7_addReadSailings_89 (lv_at hl 1 rfl) ?_
        refine z_Vi (As := [.int v5, .int v8, .int v11, .int v14]) Z E hl.1 k_X7_53 v_X5_addSailing hf (fun r h' e => c_X5_addSailing l G h16 h' a1 v5 v8 v11 v14 r e) rfl rfl (Nat.le_of_ble_eq_true rfl) (zRm_of rfl (Nat.zero_le _) (Nat.zero_le _)) dX7_addReadSailings_91 (fun v17 h18 H locs hf E => ?_)
        refine lv_pop Z.x Z.b dX7_addReadSailings_94 rfl ?_
        refine lv_iinc (v := (a2 + 1)) (lv' := [(2, .int (a2 + 1)), (7, .int v15), (6, .int v14), (5, .int v11), (4, .int v8), (3, .int v5), (0, .ref a0), (1, .ref a1)]) Z.x Z.b dX7_addReadSailings_95 hl (k := 7) rfl rfl (by decide) rfl (fun ls hl => ?_)
        refine lv_goto (tgt := 2) Z.x Z.b dX7_addReadSailings_98 (by decide) ?_
        exact k2 hf E (lv_sub hl [6, 7, 0] rfl)
      · have hf := zif_ hf c
        refine lv_iload Z.x Z.b dX7_addReadSailings_80 (lv_at hl 0 rfl) ?_
        exact z_iret Z E hr dX7_addReadSailings_82 hf
theorem t_X7_addReadSailings_2 {p : Program} {l : Launch} {e : Env} {s : State} {m : MethodId} {args : Array Value} {below : List Frame} {meth : Method} {c : Code} {G : zG} (Z : zF p s m args c meth cX7_addReadSailings 8 RX7 G) (hr : meth.sig.returnType = (some .int)) {out : Int32 × zHp} : ∀ (n : Nat), ∀ {a0 : Nat} {a1 : Nat} {a2 : Int32} {h : zHp} {H : Heap} {locs : List Loc} {ls : Array Slot}, f_X7_addReadSailings_2 n a0 a1 a2 h = some out → zE G s h H locs → lv_has ls 8 [(0, .ref a0), (1, .ref a1), (2, .int a2)] → W p l e rm_X7_addReadSailings s m args below meth c H locs 0 0 (MQ below (zQi G out.1 out.2) args s 0 0 (zA G)) (F0 m 2 ls [])
  | 0 => fun hf => by cases hf
  | n + 1 => fun hf E hl => t_X7_addReadSailings_2_body Z hr (r2 := f_X7_addReadSailings_2 n) (t_X7_addReadSailings_2 Z hr n) hf E hl
set_option maxHeartbeats 4000000 in
set_option maxRecDepth 20000 in
theorem t_X7_addReadSailings {p : Program} {l : Launch} {e : Env} {s : State} {m : MethodId} {args : Array Value} {below : List Frame} {meth : Method} {c : Code} {G : zG} (Z : zF p s m args c meth cX7_addReadSailings 8 RX7 G) (hr : meth.sig.returnType = (some .int)) {out : Int32 × zHp} {a0 : Nat} {a1 : Nat} {h : zHp} {H : Heap} {locs : List Loc} {ls : Array Slot} (hf : f_X7_addReadSailings a0 a1 h = some out) (E : zE G s h H locs) (hl : lv_has ls 8 [(0, .ref a0), (1, .ref a1)]) : W p l e rm_X7_addReadSailings s m args below meth c H locs 0 0 (MQ below (zQi G out.1 out.2) args s 0 0 (zA G)) (F0 m 0 ls []) := by
  unfold f_X7_addReadSailings at hf
  refine lv_iconst (v := 0) Z.x Z.b dX7_addReadSailings_0 (by decide) ?_
  refine lv_istore_n (lv' := [(2, .int 0), (0, .ref a0), (1, .ref a1)]) Z.x Z.b dX7_addReadSailings_1 rfl hl (by decide) rfl (fun ls hl => ?_)
  exact t_X7_addReadSailings_2 Z hr zN hf E (lv_sub hl [1, 2, 0] rfl)
set_option maxHeartbeats 4000000 in
set_option maxRecDepth 20000 in
theorem c_X7_addReadSailings (l : Launch) (G : zG) (h : zHp) (h' : zHp) (a0 : Nat) (a1 : Nat) (r : Int32) (hf : f_X7_addReadSailings a0 a1 h = some (r, h')) : zM0 l yX7_addReadSailings cX7_addReadSailings 8 (some .int) rm_X7_addReadSailings G [.ref a0, .ref a1] h (zQi G r h') := by
  refine Met.ofW (cc := cX7_addReadSailings) (maxL := 8) (ret := (some .int)) (by decide) rfl ?_
  intro p e s m args below meth c s₁ B hml hv
  obtain ⟨rfl, hW⟩ := hv
  obtain ⟨Z, E, hr⟩ := zEnter (own := RX7) B hml rfl hW
  have hl := lv_entry ([.ref a0, .ref a1]) (n := 8) (Nat.le_of_ble_eq_true rfl)
  rw [lg_entry_eq]
  generalize (lg_sl ([.ref a0, .ref a1]) ++ List.replicate (8 - (lg_sl ([.ref a0, .ref a1])).length) Slot.unset).toArray = ls at hl ⊢
  have hl : lv_has ls 8 [(0, .ref a0), (1, .ref a1)] := hl
  exact t_X7_addReadSailings (out := (r, h')) Z hr hf E hl
/-! FerryCrews.sailings()I -/
theorem dX7_sailings_0 : decode cX7_sailings 0 = .ok (.aload_n 0, 1) := by decide +kernel
theorem dX7_sailings_1 : decode cX7_sailings 1 = .ok (.getfield 37, 3) := by decide +kernel
theorem dX7_sailings_4 : decode cX7_sailings 4 = .ok (.invokevirtual 56, 3) := by decide +kernel
theorem dX7_sailings_7 : decode cX7_sailings 7 = .ok (.istore_n 1, 1) := by decide +kernel
theorem dX7_sailings_8 : decode cX7_sailings 8 = .ok (.iload_n 1, 1) := by decide +kernel
theorem dX7_sailings_9 : decode cX7_sailings 9 = .ok (.bipush (-5), 2) := by decide +kernel
theorem dX7_sailings_11 : decode cX7_sailings 11 = .ok (.if_icmp .eq 8, 3) := by decide +kernel
theorem dX7_sailings_14 : decode cX7_sailings 14 = .ok (.bipush (-100), 2) := by decide +kernel
theorem dX7_sailings_16 : decode cX7_sailings 16 = .ok (.iload_n 1, 1) := by decide +kernel
theorem dX7_sailings_17 : decode cX7_sailings 17 = .ok (.isub, 1) := by decide +kernel
theorem dX7_sailings_18 : decode cX7_sailings 18 = .ok (.ireturn, 1) := by decide +kernel
theorem dX7_sailings_19 : decode cX7_sailings 19 = .ok (.aload_n 0, 1) := by decide +kernel
theorem dX7_sailings_20 : decode cX7_sailings 20 = .ok (.getfield 24, 3) := by decide +kernel
theorem dX7_sailings_23 : decode cX7_sailings 23 = .ok (.aload_n 0, 1) := by decide +kernel
theorem dX7_sailings_24 : decode cX7_sailings 24 = .ok (.getfield 17, 3) := by decide +kernel
theorem dX7_sailings_27 : decode cX7_sailings 27 = .ok (.invokevirtual 60, 3) := by decide +kernel
theorem dX7_sailings_30 : decode cX7_sailings 30 = .ok (.aload_n 0, 1) := by decide +kernel
theorem dX7_sailings_31 : decode cX7_sailings 31 = .ok (.aload_n 0, 1) := by decide +kernel
theorem dX7_sailings_32 : decode cX7_sailings 32 = .ok (.getfield 24, 3) := by decide +kernel
theorem dX7_sailings_35 : decode cX7_sailings 35 = .ok (.invokevirtual 63, 3) := by decide +kernel
theorem dX7_sailings_38 : decode cX7_sailings 38 = .ok (.istore_n 2, 1) := by decide +kernel
theorem dX7_sailings_39 : decode cX7_sailings 39 = .ok (.iload_n 2, 1) := by decide +kernel
theorem dX7_sailings_40 : decode cX7_sailings 40 = .ok (.ifCond .ge 5, 3) := by decide +kernel
theorem dX7_sailings_43 : decode cX7_sailings 43 = .ok (.iload_n 2, 1) := by decide +kernel
theorem dX7_sailings_44 : decode cX7_sailings 44 = .ok (.ireturn, 1) := by decide +kernel
theorem dX7_sailings_45 : decode cX7_sailings 45 = .ok (.aload_n 0, 1) := by decide +kernel
theorem dX7_sailings_46 : decode cX7_sailings 46 = .ok (.getfield 30, 3) := by decide +kernel
theorem dX7_sailings_49 : decode cX7_sailings 49 = .ok (.aload_n 0, 1) := by decide +kernel
theorem dX7_sailings_50 : decode cX7_sailings 50 = .ok (.getfield 17, 3) := by decide +kernel
theorem dX7_sailings_53 : decode cX7_sailings 53 = .ok (.invokevirtual 49, 3) := by decide +kernel
theorem dX7_sailings_56 : decode cX7_sailings 56 = .ok (.aload_n 0, 1) := by decide +kernel
theorem dX7_sailings_57 : decode cX7_sailings 57 = .ok (.getfield 17, 3) := by decide +kernel
theorem dX7_sailings_60 : decode cX7_sailings 60 = .ok (.aload_n 0, 1) := by decide +kernel
theorem dX7_sailings_61 : decode cX7_sailings 61 = .ok (.getfield 24, 3) := by decide +kernel
theorem dX7_sailings_64 : decode cX7_sailings 64 = .ok (.invokevirtual 60, 3) := by decide +kernel
theorem dX7_sailings_67 : decode cX7_sailings 67 = .ok (.aload_n 0, 1) := by decide +kernel
theorem dX7_sailings_68 : decode cX7_sailings 68 = .ok (.getfield 37, 3) := by decide +kernel
theorem dX7_sailings_71 : decode cX7_sailings 71 = .ok (.getfield 67, 3) := by decide +kernel
theorem dX7_sailings_74 : decode cX7_sailings 74 = .ok (.ireturn, 1) := by decide +kernel
set_option maxRecDepth 20000 in
theorem wc_X6_readAll : Cond.code yX6_readAll cX6_readAll 2 (some .int) ∈ zB := List.mem_filter.mpr ⟨List.mem_of_getElem? (i := 367) (by decide +kernel), by decide +kernel⟩
set_option maxRecDepth 20000 in
theorem wm_X7_56 : Cond.methodLink RX7 56 yX6_readAll ∈ zB := List.mem_filter.mpr ⟨List.mem_of_getElem? (i := 364) (by decide +kernel), by decide +kernel⟩
theorem k_X7_56 : zCal RX7 56 yX6_readAll cX6_readAll 2 (some .int) 0 := ⟨wm_X7_56, wi_X6, wc_X6_readAll, by decide +kernel, by decide +kernel, by decide +kernel⟩
set_option maxRecDepth 20000 in
theorem wn_X6_readAll : Cond.instanceMethod yX6_readAll ∈ zB := List.mem_filter.mpr ⟨List.mem_of_getElem? (i := 365) (by decide +kernel), by decide +kernel⟩
set_option maxRecDepth 20000 in
theorem ws_X6_readAll : Cond.selects RX6 yX6_readAll yX6_readAll ∈ zB := List.mem_filter.mpr ⟨List.mem_of_getElem? (i := 366) (by decide +kernel), by decide +kernel⟩
theorem v_X6_readAll : zVir yX6_readAll 6 := ⟨wn_X6_readAll, ws_X6_readAll, TX6, 8, rfl⟩
theorem q_X7_24 : zFld RX7 24 7 2 := ⟨RX7, TX7, 6, rfl, by decide, iX7, wf_X7_24, rfl⟩
set_option maxRecDepth 20000 in
theorem wm_X7_60 : Cond.methodLink RX7 60 yX5_copyFrom ∈ zB := List.mem_filter.mpr ⟨List.mem_of_getElem? (i := 389) (by decide +kernel), by decide +kernel⟩
theorem k_X7_60 : zCal RX7 60 yX5_copyFrom cX5_copyFrom 3 none 1 := ⟨wm_X7_60, wi_X5, wc_X5_copyFrom, by decide +kernel, by decide +kernel, by decide +kernel⟩
set_option maxRecDepth 20000 in
theorem wc_X7_addReadSailings : Cond.code yX7_addReadSailings cX7_addReadSailings 8 (some .int) ∈ zB := List.mem_filter.mpr ⟨List.mem_of_getElem? (i := 393) (by decide +kernel), by decide +kernel⟩
set_option maxRecDepth 20000 in
theorem wm_X7_63 : Cond.methodLink RX7 63 yX7_addReadSailings ∈ zB := List.mem_filter.mpr ⟨List.mem_of_getElem? (i := 390) (by decide +kernel), by decide +kernel⟩
theorem k_X7_63 : zCal RX7 63 yX7_addReadSailings cX7_addReadSailings 8 (some .int) 1 := ⟨wm_X7_63, wi_X7, wc_X7_addReadSailings, by decide +kernel, by decide +kernel, by decide +kernel⟩
set_option maxRecDepth 20000 in
theorem wn_X7_addReadSailings : Cond.instanceMethod yX7_addReadSailings ∈ zB := List.mem_filter.mpr ⟨List.mem_of_getElem? (i := 392) (by decide +kernel), by decide +kernel⟩
set_option maxRecDepth 20000 in
theorem ws_X7_addReadSailings : Cond.selects RX7 yX7_addReadSailings yX7_addReadSailings ∈ zB := List.mem_filter.mpr ⟨List.mem_of_getElem? (i := 7) (by decide +kernel), by decide +kernel⟩
theorem v_X7_addReadSailings : zVir yX7_addReadSailings 7 := ⟨wn_X7_addReadSailings, ws_X7_addReadSailings, TX7, 6, rfl⟩
def rm_X7_sailings : Room := { frames := 5, cells := 0, slots := 0, locals := 112 }
set_option maxHeartbeats 4000000 in
set_option maxRecDepth 20000 in
theorem t_X7_sailings {p : Program} {l : Launch} {e : Env} {s : State} {m : MethodId} {args : Array Value} {below : List Frame} {meth : Method} {c : Code} {G : zG} (Z : zF p s m args c meth cX7_sailings 3 RX7 G) (hr : meth.sig.returnType = (some .int)) {out : Int32 × zHp} {a0 : Nat} {h : zHp} {H : Heap} {locs : List Loc} {ls : Array Slot} (hf : f_X7_sailings a0 h = some out) (E : zE G s h H locs) (hl : lv_has ls 3 [(0, .ref a0)]) : W p l e rm_X7_sailings s m args below meth c H locs 0 0 (MQ below (zQi G out.1 out.2) args s 0 0 (zA G)) (F0 m 0 ls []) := by
  unfold f_X7_sailings at hf
  refine lv_aload_n Z.x Z.b dX7_sailings_0 rfl (lv_at hl 0 rfl) ?_
  refine z_getR Z E q_X7_37 dX7_sailings_1 hf (fun v1 hf => ?_)
  refine z_Vi (As := []) Z E hl.1 k_X7_56 v_X6_readAll hf (fun r h' e => c_X6_readAll l G h h' v1 r e) rfl rfl (Nat.le_of_ble_eq_true rfl) (zRm_of rfl (Nat.zero_le _) (Nat.zero_le _)) dX7_sailings_4 (fun v2 h3 H locs hf E => ?_)
  refine lv_istore_n (lv' := [(1, .int v2), (0, .ref a0)]) Z.x Z.b dX7_sailings_7 rfl hl (by decide) rfl (fun ls hl => ?_)
  refine lv_iload_n Z.x Z.b dX7_sailings_8 rfl (lv_at hl 0 rfl) ?_
  refine lv_bipush (v := (-5)) Z.x Z.b dX7_sailings_9 (by decide) ?_
  refine lv_icmp_eq (tgt := 19) Z.x Z.b dX7_sailings_11 (by decide) (fun c => ?_) (fun c => ?_)
  · have hf := zit hf c
    refine lv_aload_n Z.x Z.b dX7_sailings_19 rfl (lv_at hl 1 rfl) ?_
    refine z_getR Z E q_X7_24 dX7_sailings_20 hf (fun v4 hf => ?_)
    refine lv_aload_n Z.x Z.b dX7_sailings_23 rfl (lv_at hl 1 rfl) ?_
    refine z_getR Z E q_X7_17 dX7_sailings_24 hf (fun v5 hf => ?_)
    refine z_Vv (As := [.ref v5]) Z E hl.1 k_X7_60 v_X5_copyFrom hf (fun h' e => c_X5_copyFrom l G h3 h' v4 v5 e) rfl rfl (Nat.le_of_ble_eq_true rfl) (zRm_of rfl (Nat.zero_le _) (Nat.zero_le _)) dX7_sailings_27 (fun h6 H locs hf E => ?_)
    refine lv_aload_n Z.x Z.b dX7_sailings_30 rfl (lv_at hl 1 rfl) ?_
    refine lv_aload_n Z.x Z.b dX7_sailings_31 rfl (lv_at hl 1 rfl) ?_
    refine z_getR Z E q_X7_24 dX7_sailings_32 hf (fun v7 hf => ?_)
    refine z_Vi (As := [.ref v7]) Z E hl.1 k_X7_63 v_X7_addReadSailings hf (fun r h' e => c_X7_addReadSailings l G h6 h' a0 v7 r e) rfl rfl (Nat.le_of_ble_eq_true rfl) (zRm_of rfl (Nat.zero_le _) (Nat.zero_le _)) dX7_sailings_35 (fun v8 h9 H locs hf E => ?_)
    refine lv_istore_n (lv' := [(2, .int v8), (1, .int v2), (0, .ref a0)]) Z.x Z.b dX7_sailings_38 rfl hl (by decide) rfl (fun ls hl => ?_)
    refine lv_iload_n Z.x Z.b dX7_sailings_39 rfl (lv_at hl 0 rfl) ?_
    refine lv_if_ge (tgt := 45) Z.x Z.b dX7_sailings_40 (by decide) (fun c => ?_) (fun c => ?_)
    · have hf := zit hf c
      refine lv_aload_n Z.x Z.b dX7_sailings_45 rfl (lv_at hl 2 rfl) ?_
      refine z_getR Z E q_X7_30 dX7_sailings_46 hf (fun v10 hf => ?_)
      refine lv_aload_n Z.x Z.b dX7_sailings_49 rfl (lv_at hl 2 rfl) ?_
      refine z_getR Z E q_X7_17 dX7_sailings_50 hf (fun v11 hf => ?_)
      refine z_Vv (As := [.ref v11]) Z E hl.1 k_X7_49 v_X1_record hf (fun h' e => c_X1_record l G h9 h' v10 v11 e) rfl rfl (Nat.le_of_ble_eq_true rfl) (zRm_of rfl (Nat.zero_le _) (Nat.zero_le _)) dX7_sailings_53 (fun h12 H locs hf E => ?_)
      refine lv_aload_n Z.x Z.b dX7_sailings_56 rfl (lv_at hl 2 rfl) ?_
      refine z_getR Z E q_X7_17 dX7_sailings_57 hf (fun v13 hf => ?_)
      refine lv_aload_n Z.x Z.b dX7_sailings_60 rfl (lv_at hl 2 rfl) ?_
      refine z_getR Z E q_X7_24 dX7_sailings_61 hf (fun v14 hf => ?_)
      refine z_Vv (As := [.ref v14]) Z E hl.1 k_X7_60 v_X5_copyFrom hf (fun h' e => c_X5_copyFrom l G h12 h' v13 v14 e) rfl rfl (Nat.le_of_ble_eq_true rfl) (zRm_of rfl (Nat.zero_le _) (Nat.zero_le _)) dX7_sailings_64 (fun h15 H locs hf E => ?_)
      refine lv_aload_n Z.x Z.b dX7_sailings_67 rfl (lv_at hl 2 rfl) ?_
      refine z_getR Z E q_X7_37 dX7_sailings_68 hf (fun v16 hf => ?_)
      refine z_getI Z E q_X7_67 dX7_sailings_71 hf (fun v17 hf => ?_)
      exact z_iret Z E hr dX7_sailings_74 hf
    · have hf := zif_ hf c
      refine lv_iload_n Z.x Z.b dX7_sailings_43 rfl (lv_at hl 0 rfl) ?_
      exact z_iret Z E hr dX7_sailings_44 hf
  · have hf := zif_ hf c
    refine lv_bipush (v := (-100)) Z.x Z.b dX7_sailings_14 (by decide) ?_
    refine lv_iload_n Z.x Z.b dX7_sailings_16 rfl (lv_at hl 0 rfl) ?_
    refine lv_isub Z.x Z.b dX7_sailings_17 ?_
    exact z_iret Z E hr dX7_sailings_18 hf
set_option maxHeartbeats 4000000 in
set_option maxRecDepth 20000 in
theorem c_X7_sailings (l : Launch) (G : zG) (h : zHp) (h' : zHp) (a0 : Nat) (r : Int32) (hf : f_X7_sailings a0 h = some (r, h')) : zM0 l yX7_sailings cX7_sailings 3 (some .int) rm_X7_sailings G [.ref a0] h (zQi G r h') := by
  refine Met.ofW (cc := cX7_sailings) (maxL := 3) (ret := (some .int)) (by decide) rfl ?_
  intro p e s m args below meth c s₁ B hml hv
  obtain ⟨rfl, hW⟩ := hv
  obtain ⟨Z, E, hr⟩ := zEnter (own := RX7) B hml rfl hW
  have hl := lv_entry ([.ref a0]) (n := 3) (Nat.le_of_ble_eq_true rfl)
  rw [lg_entry_eq]
  generalize (lg_sl ([.ref a0]) ++ List.replicate (3 - (lg_sl ([.ref a0])).length) Slot.unset).toArray = ls at hl ⊢
  have hl : lv_has ls 3 [(0, .ref a0)] := hl
  exact t_X7_sailings (out := (r, h')) Z hr hf E hl
/-! FerryCrews.cancel(I)I -/
theorem dX7_cancel_0 : decode cX7_cancel 0 = .ok (.aload_n 0, 1) := by decide +kernel
theorem dX7_cancel_1 : decode cX7_cancel 1 = .ok (.getfield 17, 3) := by decide +kernel
theorem dX7_cancel_4 : decode cX7_cancel 4 = .ok (.iload_n 1, 1) := by decide +kernel
theorem dX7_cancel_5 : decode cX7_cancel 5 = .ok (.invokevirtual 71, 3) := by decide +kernel
theorem dX7_cancel_8 : decode cX7_cancel 8 = .ok (.astore_n 2, 1) := by decide +kernel
theorem dX7_cancel_9 : decode cX7_cancel 9 = .ok (.aload_n 2, 1) := by decide +kernel
theorem dX7_cancel_10 : decode cX7_cancel 10 = .ok (.ifnonnull 5, 3) := by decide +kernel
theorem dX7_cancel_13 : decode cX7_cancel 13 = .ok (.iconst (-1), 1) := by decide +kernel
theorem dX7_cancel_14 : decode cX7_cancel 14 = .ok (.ireturn, 1) := by decide +kernel
theorem dX7_cancel_15 : decode cX7_cancel 15 = .ok (.aload_n 2, 1) := by decide +kernel
theorem dX7_cancel_16 : decode cX7_cancel 16 = .ok (.invokevirtual 75, 3) := by decide +kernel
theorem dX7_cancel_19 : decode cX7_cancel 19 = .ok (.ifCond .ne 6, 3) := by decide +kernel
theorem dX7_cancel_22 : decode cX7_cancel 22 = .ok (.bipush (-4), 2) := by decide +kernel
theorem dX7_cancel_24 : decode cX7_cancel 24 = .ok (.ireturn, 1) := by decide +kernel
theorem dX7_cancel_25 : decode cX7_cancel 25 = .ok (.aload_n 0, 1) := by decide +kernel
theorem dX7_cancel_26 : decode cX7_cancel 26 = .ok (.getfield 30, 3) := by decide +kernel
theorem dX7_cancel_29 : decode cX7_cancel 29 = .ok (.aload_n 0, 1) := by decide +kernel
theorem dX7_cancel_30 : decode cX7_cancel 30 = .ok (.getfield 17, 3) := by decide +kernel
theorem dX7_cancel_33 : decode cX7_cancel 33 = .ok (.invokevirtual 49, 3) := by decide +kernel
theorem dX7_cancel_36 : decode cX7_cancel 36 = .ok (.aload_n 2, 1) := by decide +kernel
theorem dX7_cancel_37 : decode cX7_cancel 37 = .ok (.invokevirtual 81, 3) := by decide +kernel
theorem dX7_cancel_40 : decode cX7_cancel 40 = .ok (.ireturn, 1) := by decide +kernel
set_option maxRecDepth 20000 in
theorem wc_X5_sailingAt : Cond.code yX5_sailingAt cX5_sailingAt 6 (some (.object "FerryCrews$Sailing")) ∈ zB := List.mem_filter.mpr ⟨List.mem_of_getElem? (i := 401) (by decide +kernel), by decide +kernel⟩
set_option maxRecDepth 20000 in
theorem wm_X7_71 : Cond.methodLink RX7 71 yX5_sailingAt ∈ zB := List.mem_filter.mpr ⟨List.mem_of_getElem? (i := 398) (by decide +kernel), by decide +kernel⟩
theorem k_X7_71 : zCal RX7 71 yX5_sailingAt cX5_sailingAt 6 (some (.object "FerryCrews$Sailing")) 1 := ⟨wm_X7_71, wi_X5, wc_X5_sailingAt, by decide +kernel, by decide +kernel, by decide +kernel⟩
set_option maxRecDepth 20000 in
theorem wn_X5_sailingAt : Cond.instanceMethod yX5_sailingAt ∈ zB := List.mem_filter.mpr ⟨List.mem_of_getElem? (i := 399) (by decide +kernel), by decide +kernel⟩
set_option maxRecDepth 20000 in
theorem ws_X5_sailingAt : Cond.selects RX5 yX5_sailingAt yX5_sailingAt ∈ zB := List.mem_filter.mpr ⟨List.mem_of_getElem? (i := 400) (by decide +kernel), by decide +kernel⟩
theorem v_X5_sailingAt : zVir yX5_sailingAt 5 := ⟨wn_X5_sailingAt, ws_X5_sailingAt, TX5, 8, rfl⟩
set_option maxRecDepth 20000 in
theorem wm_X7_75 : Cond.methodLink RX7 75 yX4_isOpen ∈ zB := List.mem_filter.mpr ⟨List.mem_of_getElem? (i := 406) (by decide +kernel), by decide +kernel⟩
theorem k_X7_75 : zCal RX7 75 yX4_isOpen cX4_isOpen 1 (some .boolean) 0 := ⟨wm_X7_75, wi_X4, wc_X4_isOpen, by decide +kernel, by decide +kernel, by decide +kernel⟩
set_option maxRecDepth 20000 in
theorem wm_X7_81 : Cond.methodLink RX7 81 yX4_callOff ∈ zB := List.mem_filter.mpr ⟨List.mem_of_getElem? (i := 410) (by decide +kernel), by decide +kernel⟩
theorem k_X7_81 : zCal RX7 81 yX4_callOff cX4_callOff 2 (some .int) 0 := ⟨wm_X7_81, wi_X4, wc_X4_callOff, by decide +kernel, by decide +kernel, by decide +kernel⟩
def rm_X7_cancel : Room := { frames := 4, cells := 0, slots := 0, locals := 104 }
set_option maxHeartbeats 4000000 in
set_option maxRecDepth 20000 in
theorem t_X7_cancel {p : Program} {l : Launch} {e : Env} {s : State} {m : MethodId} {args : Array Value} {below : List Frame} {meth : Method} {c : Code} {G : zG} (Z : zF p s m args c meth cX7_cancel 3 RX7 G) (hr : meth.sig.returnType = (some .int)) {out : Int32 × zHp} {a0 : Nat} {a1 : Int32} {h : zHp} {H : Heap} {locs : List Loc} {ls : Array Slot} (hf : f_X7_cancel a0 a1 h = some out) (E : zE G s h H locs) (hl : lv_has ls 3 [(0, .ref a0), (1, .int a1)]) : W p l e rm_X7_cancel s m args below meth c H locs 0 0 (MQ below (zQi G out.1 out.2) args s 0 0 (zA G)) (F0 m 0 ls []) := by
  unfold f_X7_cancel at hf
  refine lv_aload_n Z.x Z.b dX7_cancel_0 rfl (lv_at hl 0 rfl) ?_
  refine z_getR Z E q_X7_17 dX7_cancel_1 hf (fun v1 hf => ?_)
  refine lv_iload_n Z.x Z.b dX7_cancel_4 rfl (lv_at hl 1 rfl) ?_
  refine z_Vq (As := [.int a1]) Z E hl.1 k_X7_71 v_X5_sailingAt hf (fun r h' e => c_X5_sailingAt l G h h' v1 a1 r e) rfl rfl (Nat.le_of_ble_eq_true rfl) (zRm_of rfl (Nat.zero_le _) (Nat.zero_le _)) dX7_cancel_5 (fun w2 h3 H locs hf E => ?_)
  refine z_astore_n (lv' := [(2, va_rf w2), (0, .ref a0), (1, .int a1)]) Z (x := w2) dX7_cancel_8 rfl hl (by decide) (by cases w2 <;> rfl) (fun ls hl => ?_)
  refine z_aload_n Z (x := w2) dX7_cancel_9 rfl (lv_at hl 0 rfl) ?_
  refine z_ifnonnull (tgt := 15) Z dX7_cancel_10 (by decide) hf (fun ex h9_10 => ?_) (fun v4 ex h9_10 => ?_)
  · subst ex
    have hf := h9_10
    refine lv_iconst (v := (-1)) Z.x Z.b dX7_cancel_13 (by decide) ?_
    exact z_iret Z E hr dX7_cancel_14 hf
  · subst ex
    have hf := h9_10
    refine lv_aload_n Z.x Z.b dX7_cancel_15 rfl (lv_at hl 0 rfl) ?_
    refine z_Vi (As := []) Z E hl.1 k_X7_75 v_X4_isOpen hf (fun r h' e => c_X4_isOpen l G h3 h' v4 r e) rfl rfl (Nat.le_of_ble_eq_true rfl) (zRm_of rfl (Nat.zero_le _) (Nat.zero_le _)) dX7_cancel_16 (fun v5 h6 H locs hf E => ?_)
    refine lv_if_ne (tgt := 25) Z.x Z.b dX7_cancel_19 (by decide) (fun c => ?_) (fun c => ?_)
    · have hf := zif_ hf c
      refine lv_aload_n Z.x Z.b dX7_cancel_25 rfl (lv_at hl 1 rfl) ?_
      refine z_getR Z E q_X7_30 dX7_cancel_26 hf (fun v7 hf => ?_)
      refine lv_aload_n Z.x Z.b dX7_cancel_29 rfl (lv_at hl 1 rfl) ?_
      refine z_getR Z E q_X7_17 dX7_cancel_30 hf (fun v8 hf => ?_)
      refine z_Vv (As := [.ref v8]) Z E hl.1 k_X7_49 v_X1_record hf (fun h' e => c_X1_record l G h6 h' v7 v8 e) rfl rfl (Nat.le_of_ble_eq_true rfl) (zRm_of rfl (Nat.zero_le _) (Nat.zero_le _)) dX7_cancel_33 (fun h9 H locs hf E => ?_)
      refine lv_aload_n Z.x Z.b dX7_cancel_36 rfl (lv_at hl 0 rfl) ?_
      refine z_Vi (As := []) Z E hl.1 k_X7_81 v_X4_callOff hf (fun r h' e => c_X4_callOff l G h9 h' v4 r e) rfl rfl (Nat.le_of_ble_eq_true rfl) (zRm_of rfl (Nat.zero_le _) (Nat.zero_le _)) dX7_cancel_37 (fun v10 h11 H locs hf E => ?_)
      exact z_iret Z E hr dX7_cancel_40 hf
    · have hf := zit hf c
      refine lv_bipush (v := (-4)) Z.x Z.b dX7_cancel_22 (by decide) ?_
      exact z_iret Z E hr dX7_cancel_24 hf
set_option maxHeartbeats 4000000 in
set_option maxRecDepth 20000 in
theorem c_X7_cancel (l : Launch) (G : zG) (h : zHp) (h' : zHp) (a0 : Nat) (a1 : Int32) (r : Int32) (hf : f_X7_cancel a0 a1 h = some (r, h')) : zM0 l yX7_cancel cX7_cancel 3 (some .int) rm_X7_cancel G [.ref a0, .int a1] h (zQi G r h') := by
  refine Met.ofW (cc := cX7_cancel) (maxL := 3) (ret := (some .int)) (by decide) rfl ?_
  intro p e s m args below meth c s₁ B hml hv
  obtain ⟨rfl, hW⟩ := hv
  obtain ⟨Z, E, hr⟩ := zEnter (own := RX7) B hml rfl hW
  have hl := lv_entry ([.ref a0, .int a1]) (n := 3) (Nat.le_of_ble_eq_true rfl)
  rw [lg_entry_eq]
  generalize (lg_sl ([.ref a0, .int a1]) ++ List.replicate (3 - (lg_sl ([.ref a0, .int a1])).length) Slot.unset).toArray = ls at hl ⊢
  have hl : lv_has ls 3 [(0, .ref a0), (1, .int a1)] := hl
  exact t_X7_cancel (out := (r, h')) Z hr hf E hl
/-! FerryCrews.member(II)I -/
theorem dX7_member_0 : decode cX7_member 0 = .ok (.iload_n 1, 1) := by decide +kernel
theorem dX7_member_1 : decode cX7_member 1 = .ok (.invokestatic 84, 3) := by decide +kernel
theorem dX7_member_4 : decode cX7_member 4 = .ok (.ifCond .ne 5, 3) := by decide +kernel
theorem dX7_member_7 : decode cX7_member 7 = .ok (.iconst (-1), 1) := by decide +kernel
theorem dX7_member_8 : decode cX7_member 8 = .ok (.ireturn, 1) := by decide +kernel
theorem dX7_member_9 : decode cX7_member 9 = .ok (.iload_n 2, 1) := by decide +kernel
theorem dX7_member_10 : decode cX7_member 10 = .ok (.iconst 0, 1) := by decide +kernel
theorem dX7_member_11 : decode cX7_member 11 = .ok (.sipush 9999, 3) := by decide +kernel
theorem dX7_member_14 : decode cX7_member 14 = .ok (.invokestatic 88, 3) := by decide +kernel
theorem dX7_member_17 : decode cX7_member 17 = .ok (.ifCond .ne 6, 3) := by decide +kernel
theorem dX7_member_20 : decode cX7_member 20 = .ok (.bipush (-2), 2) := by decide +kernel
theorem dX7_member_22 : decode cX7_member 22 = .ok (.ireturn, 1) := by decide +kernel
theorem dX7_member_23 : decode cX7_member 23 = .ok (.aload_n 0, 1) := by decide +kernel
theorem dX7_member_24 : decode cX7_member 24 = .ok (.getfield 17, 3) := by decide +kernel
theorem dX7_member_27 : decode cX7_member 27 = .ok (.getfield 92, 3) := by decide +kernel
theorem dX7_member_30 : decode cX7_member 30 = .ok (.bipush 12, 2) := by decide +kernel
theorem dX7_member_32 : decode cX7_member 32 = .ok (.if_icmp .lt 6, 3) := by decide +kernel
theorem dX7_member_35 : decode cX7_member 35 = .ok (.bipush (-3), 2) := by decide +kernel
theorem dX7_member_37 : decode cX7_member 37 = .ok (.ireturn, 1) := by decide +kernel
theorem dX7_member_38 : decode cX7_member 38 = .ok (.aload_n 0, 1) := by decide +kernel
theorem dX7_member_39 : decode cX7_member 39 = .ok (.getfield 30, 3) := by decide +kernel
theorem dX7_member_42 : decode cX7_member 42 = .ok (.aload_n 0, 1) := by decide +kernel
theorem dX7_member_43 : decode cX7_member 43 = .ok (.getfield 17, 3) := by decide +kernel
theorem dX7_member_46 : decode cX7_member 46 = .ok (.invokevirtual 49, 3) := by decide +kernel
theorem dX7_member_49 : decode cX7_member 49 = .ok (.aload_n 0, 1) := by decide +kernel
theorem dX7_member_50 : decode cX7_member 50 = .ok (.getfield 17, 3) := by decide +kernel
theorem dX7_member_53 : decode cX7_member 53 = .ok (.iload_n 1, 1) := by decide +kernel
theorem dX7_member_54 : decode cX7_member 54 = .ok (.iload_n 2, 1) := by decide +kernel
theorem dX7_member_55 : decode cX7_member 55 = .ok (.invokevirtual 95, 3) := by decide +kernel
theorem dX7_member_58 : decode cX7_member 58 = .ok (.ireturn, 1) := by decide +kernel
set_option maxRecDepth 20000 in
theorem wm_X7_84 : Cond.methodLink RX7 84 yX7_isRole ∈ zB := List.mem_filter.mpr ⟨List.mem_of_getElem? (i := 422) (by decide +kernel), by decide +kernel⟩
theorem k_X7_84 : zCal RX7 84 yX7_isRole cX7_isRole 1 (some .boolean) 1 := ⟨wm_X7_84, wi_X7, wc_X7_isRole, by decide +kernel, by decide +kernel, by decide +kernel⟩
set_option maxRecDepth 20000 in
theorem wf_X7_92 : Cond.fieldLink RX7 92 RX5 "memberCount" "I" ∈ zB := List.mem_filter.mpr ⟨List.mem_of_getElem? (i := 207) (by decide +kernel), by decide +kernel⟩
theorem q_X7_92 : zFld RX7 92 5 4 := ⟨RX5, TX5, 8, rfl, by decide, iX5, wf_X7_92, rfl⟩
set_option maxRecDepth 20000 in
theorem wc_X5_addMember : Cond.code yX5_addMember cX5_addMember 4 (some .int) ∈ zB := List.mem_filter.mpr ⟨List.mem_of_getElem? (i := 428) (by decide +kernel), by decide +kernel⟩
set_option maxRecDepth 20000 in
theorem wm_X7_95 : Cond.methodLink RX7 95 yX5_addMember ∈ zB := List.mem_filter.mpr ⟨List.mem_of_getElem? (i := 425) (by decide +kernel), by decide +kernel⟩
theorem k_X7_95 : zCal RX7 95 yX5_addMember cX5_addMember 4 (some .int) 2 := ⟨wm_X7_95, wi_X5, wc_X5_addMember, by decide +kernel, by decide +kernel, by decide +kernel⟩
set_option maxRecDepth 20000 in
theorem wn_X5_addMember : Cond.instanceMethod yX5_addMember ∈ zB := List.mem_filter.mpr ⟨List.mem_of_getElem? (i := 426) (by decide +kernel), by decide +kernel⟩
set_option maxRecDepth 20000 in
theorem ws_X5_addMember : Cond.selects RX5 yX5_addMember yX5_addMember ∈ zB := List.mem_filter.mpr ⟨List.mem_of_getElem? (i := 427) (by decide +kernel), by decide +kernel⟩
theorem v_X5_addMember : zVir yX5_addMember 5 := ⟨wn_X5_addMember, ws_X5_addMember, TX5, 8, rfl⟩
def rm_X7_member : Room := { frames := 4, cells := 0, slots := 0, locals := 104 }
set_option maxHeartbeats 4000000 in
set_option maxRecDepth 20000 in
theorem t_X7_member {p : Program} {l : Launch} {e : Env} {s : State} {m : MethodId} {args : Array Value} {below : List Frame} {meth : Method} {c : Code} {G : zG} (Z : zF p s m args c meth cX7_member 3 RX7 G) (hr : meth.sig.returnType = (some .int)) {out : Int32 × zHp} {a0 : Nat} {a1 : Int32} {a2 : Int32} {h : zHp} {H : Heap} {locs : List Loc} {ls : Array Slot} (hf : f_X7_member a0 a1 a2 h = some out) (E : zE G s h H locs) (hl : lv_has ls 3 [(0, .ref a0), (1, .int a1), (2, .int a2)]) : W p l e rm_X7_member s m args below meth c H locs 0 0 (MQ below (zQi G out.1 out.2) args s 0 0 (zA G)) (F0 m 0 ls []) := by
  unfold f_X7_member at hf
  refine lv_iload_n Z.x Z.b dX7_member_0 rfl (lv_at hl 1 rfl) ?_
  refine z_Si (As := [.int a1]) Z E hl.1 k_X7_84 wt_X7_isRole hf (fun r h' e => c_X7_isRole l G h h' a1 r e) rfl rfl (Nat.le_of_ble_eq_true rfl) (zRm_of rfl (Nat.zero_le _) (Nat.zero_le _)) dX7_member_1 (fun v1 h2 H locs hf E => ?_)
  refine lv_if_ne (tgt := 9) Z.x Z.b dX7_member_4 (by decide) (fun c => ?_) (fun c => ?_)
  · have hf := zif_ hf c
    refine lv_iload_n Z.x Z.b dX7_member_9 rfl (lv_at hl 2 rfl) ?_
    refine lv_iconst (v := 0) Z.x Z.b dX7_member_10 (by decide) ?_
    refine lv_sipush (v := 9999) Z.x Z.b dX7_member_11 (by decide) ?_
    refine z_Si (As := [.int a2, .int 0, .int 9999]) Z E hl.1 k_X7_88 wt_X7_isWithin hf (fun r h' e => c_X7_isWithin l G h2 h' a2 0 9999 r e) rfl rfl (Nat.le_of_ble_eq_true rfl) (zRm_of rfl (Nat.zero_le _) (Nat.zero_le _)) dX7_member_14 (fun v3 h4 H locs hf E => ?_)
    refine lv_if_ne (tgt := 23) Z.x Z.b dX7_member_17 (by decide) (fun c => ?_) (fun c => ?_)
    · have hf := zif_ hf c
      refine lv_aload_n Z.x Z.b dX7_member_23 rfl (lv_at hl 0 rfl) ?_
      refine z_getR Z E q_X7_17 dX7_member_24 hf (fun v5 hf => ?_)
      refine z_getI Z E q_X7_92 dX7_member_27 hf (fun v6 hf => ?_)
      refine lv_bipush (v := 12) Z.x Z.b dX7_member_30 (by decide) ?_
      refine lv_icmp_lt (tgt := 38) Z.x Z.b dX7_member_32 (by decide) (fun c => ?_) (fun c => ?_)
      · have hf := zit hf c
        refine lv_aload_n Z.x Z.b dX7_member_38 rfl (lv_at hl 0 rfl) ?_
        refine z_getR Z E q_X7_30 dX7_member_39 hf (fun v7 hf => ?_)
        refine lv_aload_n Z.x Z.b dX7_member_42 rfl (lv_at hl 0 rfl) ?_
        refine z_getR Z E q_X7_17 dX7_member_43 hf (fun v8 hf => ?_)
        refine z_Vv (As := [.ref v8]) Z E hl.1 k_X7_49 v_X1_record hf (fun h' e => c_X1_record l G h4 h' v7 v8 e) rfl rfl (Nat.le_of_ble_eq_true rfl) (zRm_of rfl (Nat.zero_le _) (Nat.zero_le _)) dX7_member_46 (fun h9 H locs hf E => ?_)
        refine lv_aload_n Z.x Z.b dX7_member_49 rfl (lv_at hl 0 rfl) ?_
        refine z_getR Z E q_X7_17 dX7_member_50 hf (fun v10 hf => ?_)
        refine lv_iload_n Z.x Z.b dX7_member_53 rfl (lv_at hl 1 rfl) ?_
        refine lv_iload_n Z.x Z.b dX7_member_54 rfl (lv_at hl 2 rfl) ?_
        refine z_Vi (As := [.int a1, .int a2]) Z E hl.1 k_X7_95 v_X5_addMember hf (fun r h' e => c_X5_addMember l G h9 h' v10 a1 a2 r e) rfl rfl (Nat.le_of_ble_eq_true rfl) (zRm_of rfl (Nat.zero_le _) (Nat.zero_le _)) dX7_member_55 (fun v11 h12 H locs hf E => ?_)
        exact z_iret Z E hr dX7_member_58 hf
      · have hf := zif_ hf c
        refine lv_bipush (v := (-3)) Z.x Z.b dX7_member_35 (by decide) ?_
        exact z_iret Z E hr dX7_member_37 hf
    · have hf := zit hf c
      refine lv_bipush (v := (-2)) Z.x Z.b dX7_member_20 (by decide) ?_
      exact z_iret Z E hr dX7_member_22 hf
  · have hf := zit hf c
    refine lv_iconst (v := (-1)) Z.x Z.b dX7_member_7 (by decide) ?_
    exact z_iret Z E hr dX7_member_8 hf
set_option maxHeartbeats 4000000 in
set_option maxRecDepth 20000 in
theorem c_X7_member (l : Launch) (G : zG) (h : zHp) (h' : zHp) (a0 : Nat) (a1 : Int32) (a2 : Int32) (r : Int32) (hf : f_X7_member a0 a1 a2 h = some (r, h')) : zM0 l yX7_member cX7_member 3 (some .int) rm_X7_member G [.ref a0, .int a1, .int a2] h (zQi G r h') := by
  refine Met.ofW (cc := cX7_member) (maxL := 3) (ret := (some .int)) (by decide) rfl ?_
  intro p e s m args below meth c s₁ B hml hv
  obtain ⟨rfl, hW⟩ := hv
  obtain ⟨Z, E, hr⟩ := zEnter (own := RX7) B hml rfl hW
  have hl := lv_entry ([.ref a0, .int a1, .int a2]) (n := 3) (Nat.le_of_ble_eq_true rfl)
  rw [lg_entry_eq]
  generalize (lg_sl ([.ref a0, .int a1, .int a2]) ++ List.replicate (3 - (lg_sl ([.ref a0, .int a1, .int a2])).length) Slot.unset).toArray = ls at hl ⊢
  have hl : lv_has ls 3 [(0, .ref a0), (1, .int a1), (2, .int a2)] := hl
  exact t_X7_member (out := (r, h')) Z hr hf E hl
/-! FerryCrews.certify(III)I -/
theorem dX7_certify_0 : decode cX7_certify 0 = .ok (.aload_n 0, 1) := by decide +kernel
theorem dX7_certify_1 : decode cX7_certify 1 = .ok (.getfield 17, 3) := by decide +kernel
theorem dX7_certify_4 : decode cX7_certify 4 = .ok (.iload_n 1, 1) := by decide +kernel
theorem dX7_certify_5 : decode cX7_certify 5 = .ok (.invokevirtual 99, 3) := by decide +kernel
theorem dX7_certify_8 : decode cX7_certify 8 = .ok (.astore 4, 2) := by decide +kernel
theorem dX7_certify_10 : decode cX7_certify 10 = .ok (.aload 4, 2) := by decide +kernel
theorem dX7_certify_12 : decode cX7_certify 12 = .ok (.ifnull 10, 3) := by decide +kernel
theorem dX7_certify_15 : decode cX7_certify 15 = .ok (.iload_n 2, 1) := by decide +kernel
theorem dX7_certify_16 : decode cX7_certify 16 = .ok (.invokestatic 84, 3) := by decide +kernel
theorem dX7_certify_19 : decode cX7_certify 19 = .ok (.ifCond .ne 5, 3) := by decide +kernel
theorem dX7_certify_22 : decode cX7_certify 22 = .ok (.iconst (-1), 1) := by decide +kernel
theorem dX7_certify_23 : decode cX7_certify 23 = .ok (.ireturn, 1) := by decide +kernel
theorem dX7_certify_24 : decode cX7_certify 24 = .ok (.iload_n 3, 1) := by decide +kernel
theorem dX7_certify_25 : decode cX7_certify 25 = .ok (.iconst 0, 1) := by decide +kernel
theorem dX7_certify_26 : decode cX7_certify 26 = .ok (.sipush 9999, 3) := by decide +kernel
theorem dX7_certify_29 : decode cX7_certify 29 = .ok (.invokestatic 88, 3) := by decide +kernel
theorem dX7_certify_32 : decode cX7_certify 32 = .ok (.ifCond .ne 6, 3) := by decide +kernel
theorem dX7_certify_35 : decode cX7_certify 35 = .ok (.bipush (-2), 2) := by decide +kernel
theorem dX7_certify_37 : decode cX7_certify 37 = .ok (.ireturn, 1) := by decide +kernel
theorem dX7_certify_38 : decode cX7_certify 38 = .ok (.aload_n 0, 1) := by decide +kernel
theorem dX7_certify_39 : decode cX7_certify 39 = .ok (.getfield 17, 3) := by decide +kernel
theorem dX7_certify_42 : decode cX7_certify 42 = .ok (.iload_n 1, 1) := by decide +kernel
theorem dX7_certify_43 : decode cX7_certify 43 = .ok (.iload_n 2, 1) := by decide +kernel
theorem dX7_certify_44 : decode cX7_certify 44 = .ok (.iload_n 3, 1) := by decide +kernel
theorem dX7_certify_45 : decode cX7_certify 45 = .ok (.invokevirtual 103, 3) := by decide +kernel
theorem dX7_certify_48 : decode cX7_certify 48 = .ok (.ifCond .eq 6, 3) := by decide +kernel
theorem dX7_certify_51 : decode cX7_certify 51 = .ok (.bipush (-4), 2) := by decide +kernel
theorem dX7_certify_53 : decode cX7_certify 53 = .ok (.ireturn, 1) := by decide +kernel
theorem dX7_certify_54 : decode cX7_certify 54 = .ok (.aload_n 0, 1) := by decide +kernel
theorem dX7_certify_55 : decode cX7_certify 55 = .ok (.getfield 30, 3) := by decide +kernel
theorem dX7_certify_58 : decode cX7_certify 58 = .ok (.aload_n 0, 1) := by decide +kernel
theorem dX7_certify_59 : decode cX7_certify 59 = .ok (.getfield 17, 3) := by decide +kernel
theorem dX7_certify_62 : decode cX7_certify 62 = .ok (.invokevirtual 49, 3) := by decide +kernel
theorem dX7_certify_65 : decode cX7_certify 65 = .ok (.aload 4, 2) := by decide +kernel
theorem dX7_certify_67 : decode cX7_certify 67 = .ok (.iload_n 2, 1) := by decide +kernel
theorem dX7_certify_68 : decode cX7_certify 68 = .ok (.iload_n 3, 1) := by decide +kernel
theorem dX7_certify_69 : decode cX7_certify 69 = .ok (.invokevirtual 106, 3) := by decide +kernel
theorem dX7_certify_72 : decode cX7_certify 72 = .ok (.ireturn, 1) := by decide +kernel
set_option maxRecDepth 20000 in
theorem wm_X7_99 : Cond.methodLink RX7 99 yX5_memberAt ∈ zB := List.mem_filter.mpr ⟨List.mem_of_getElem? (i := 455) (by decide +kernel), by decide +kernel⟩
theorem k_X7_99 : zCal RX7 99 yX5_memberAt cX5_memberAt 2 (some (.object "FerryCrews$Member")) 1 := ⟨wm_X7_99, wi_X5, wc_X5_memberAt, by decide +kernel, by decide +kernel, by decide +kernel⟩
set_option maxRecDepth 20000 in
theorem wc_X5_needsCertificateAfter : Cond.code yX5_needsCertificateAfter cX5_needsCertificateAfter 8 (some .boolean) ∈ zB := List.mem_filter.mpr ⟨List.mem_of_getElem? (i := 462) (by decide +kernel), by decide +kernel⟩
set_option maxRecDepth 20000 in
theorem wm_X7_103 : Cond.methodLink RX7 103 yX5_needsCertificateAfter ∈ zB := List.mem_filter.mpr ⟨List.mem_of_getElem? (i := 459) (by decide +kernel), by decide +kernel⟩
theorem k_X7_103 : zCal RX7 103 yX5_needsCertificateAfter cX5_needsCertificateAfter 8 (some .boolean) 3 := ⟨wm_X7_103, wi_X5, wc_X5_needsCertificateAfter, by decide +kernel, by decide +kernel, by decide +kernel⟩
set_option maxRecDepth 20000 in
theorem wn_X5_needsCertificateAfter : Cond.instanceMethod yX5_needsCertificateAfter ∈ zB := List.mem_filter.mpr ⟨List.mem_of_getElem? (i := 460) (by decide +kernel), by decide +kernel⟩
set_option maxRecDepth 20000 in
theorem ws_X5_needsCertificateAfter : Cond.selects RX5 yX5_needsCertificateAfter yX5_needsCertificateAfter ∈ zB := List.mem_filter.mpr ⟨List.mem_of_getElem? (i := 461) (by decide +kernel), by decide +kernel⟩
theorem v_X5_needsCertificateAfter : zVir yX5_needsCertificateAfter 5 := ⟨wn_X5_needsCertificateAfter, ws_X5_needsCertificateAfter, TX5, 8, rfl⟩
set_option maxRecDepth 20000 in
theorem wm_X7_106 : Cond.methodLink RX7 106 yX3_replaceCertificate ∈ zB := List.mem_filter.mpr ⟨List.mem_of_getElem? (i := 469) (by decide +kernel), by decide +kernel⟩
theorem k_X7_106 : zCal RX7 106 yX3_replaceCertificate cX3_replaceCertificate 4 (some .int) 2 := ⟨wm_X7_106, wi_X3, wc_X3_replaceCertificate, by decide +kernel, by decide +kernel, by decide +kernel⟩
def rm_X7_certify : Room := { frames := 4, cells := 0, slots := 0, locals := 104 }
set_option maxHeartbeats 4000000 in
set_option maxRecDepth 20000 in
theorem t_X7_certify {p : Program} {l : Launch} {e : Env} {s : State} {m : MethodId} {args : Array Value} {below : List Frame} {meth : Method} {c : Code} {G : zG} (Z : zF p s m args c meth cX7_certify 5 RX7 G) (hr : meth.sig.returnType = (some .int)) {out : Int32 × zHp} {a0 : Nat} {a1 : Int32} {a2 : Int32} {a3 : Int32} {h : zHp} {H : Heap} {locs : List Loc} {ls : Array Slot} (hf : f_X7_certify a0 a1 a2 a3 h = some out) (E : zE G s h H locs) (hl : lv_has ls 5 [(0, .ref a0), (1, .int a1), (2, .int a2), (3, .int a3)]) : W p l e rm_X7_certify s m args below meth c H locs 0 0 (MQ below (zQi G out.1 out.2) args s 0 0 (zA G)) (F0 m 0 ls []) := by
  unfold f_X7_certify at hf
  refine lv_aload_n Z.x Z.b dX7_certify_0 rfl (lv_at hl 0 rfl) ?_
  refine z_getR Z E q_X7_17 dX7_certify_1 hf (fun v1 hf => ?_)
  refine lv_iload_n Z.x Z.b dX7_certify_4 rfl (lv_at hl 1 rfl) ?_
  refine z_Vq (As := [.int a1]) Z E hl.1 k_X7_99 v_X5_memberAt hf (fun r h' e => c_X5_memberAt l G h h' v1 a1 r e) rfl rfl (Nat.le_of_ble_eq_true rfl) (zRm_of rfl (Nat.zero_le _) (Nat.zero_le _)) dX7_certify_5 (fun w2 h3 H locs hf E => ?_)
  refine z_astore (lv' := [(4, va_rf w2), (0, .ref a0), (1, .int a1), (2, .int a2), (3, .int a3)]) Z (x := w2) dX7_certify_8 hl (by decide) (by cases w2 <;> rfl) (fun ls hl => ?_)
  refine z_aload Z (x := w2) dX7_certify_10 (lv_at hl 0 rfl) ?_
  refine z_ifnull (tgt := 22) Z dX7_certify_12 (by decide) hf (fun ex h9_12 => ?_) (fun v4 ex h9_12 => ?_)
  · subst ex
    have hf := h9_12
    refine lv_iconst (v := (-1)) Z.x Z.b dX7_certify_22 (by decide) ?_
    exact z_iret Z E hr dX7_certify_23 hf
  · subst ex
    have hf := h9_12
    refine lv_iload_n Z.x Z.b dX7_certify_15 rfl (lv_at hl 3 rfl) ?_
    refine z_Si (As := [.int a2]) Z E hl.1 k_X7_84 wt_X7_isRole hf (fun r h' e => c_X7_isRole l G h3 h' a2 r e) rfl rfl (Nat.le_of_ble_eq_true rfl) (zRm_of rfl (Nat.zero_le _) (Nat.zero_le _)) dX7_certify_16 (fun v5 h6 H locs hf E => ?_)
    refine lv_if_ne (tgt := 24) Z.x Z.b dX7_certify_19 (by decide) (fun c => ?_) (fun c => ?_)
    · have hf := zif_ hf c
      refine lv_iload_n Z.x Z.b dX7_certify_24 rfl (lv_at hl 4 rfl) ?_
      refine lv_iconst (v := 0) Z.x Z.b dX7_certify_25 (by decide) ?_
      refine lv_sipush (v := 9999) Z.x Z.b dX7_certify_26 (by decide) ?_
      refine z_Si (As := [.int a3, .int 0, .int 9999]) Z E hl.1 k_X7_88 wt_X7_isWithin hf (fun r h' e => c_X7_isWithin l G h6 h' a3 0 9999 r e) rfl rfl (Nat.le_of_ble_eq_true rfl) (zRm_of rfl (Nat.zero_le _) (Nat.zero_le _)) dX7_certify_29 (fun v7 h8 H locs hf E => ?_)
      refine lv_if_ne (tgt := 38) Z.x Z.b dX7_certify_32 (by decide) (fun c => ?_) (fun c => ?_)
      · have hf := zif_ hf c
        refine lv_aload_n Z.x Z.b dX7_certify_38 rfl (lv_at hl 1 rfl) ?_
        refine z_getR Z E q_X7_17 dX7_certify_39 hf (fun v9 hf => ?_)
        refine lv_iload_n Z.x Z.b dX7_certify_42 rfl (lv_at hl 2 rfl) ?_
        refine lv_iload_n Z.x Z.b dX7_certify_43 rfl (lv_at hl 3 rfl) ?_
        refine lv_iload_n Z.x Z.b dX7_certify_44 rfl (lv_at hl 4 rfl) ?_
        refine z_Vi (As := [.int a1, .int a2, .int a3]) Z E hl.1 k_X7_103 v_X5_needsCertificateAfter hf (fun r h' e => c_X5_needsCertificateAfter l G h8 h' v9 a1 a2 a3 r e) rfl rfl (Nat.le_of_ble_eq_true rfl) (zRm_of rfl (Nat.zero_le _) (Nat.zero_le _)) dX7_certify_45 (fun v10 h11 H locs hf E => ?_)
        refine lv_if_eq (tgt := 54) Z.x Z.b dX7_certify_48 (by decide) (fun c => ?_) (fun c => ?_)
        · have hf := zit hf c
          refine lv_aload_n Z.x Z.b dX7_certify_54 rfl (lv_at hl 1 rfl) ?_
          refine z_getR Z E q_X7_30 dX7_certify_55 hf (fun v12 hf => ?_)
          refine lv_aload_n Z.x Z.b dX7_certify_58 rfl (lv_at hl 1 rfl) ?_
          refine z_getR Z E q_X7_17 dX7_certify_59 hf (fun v13 hf => ?_)
          refine z_Vv (As := [.ref v13]) Z E hl.1 k_X7_49 v_X1_record hf (fun h' e => c_X1_record l G h11 h' v12 v13 e) rfl rfl (Nat.le_of_ble_eq_true rfl) (zRm_of rfl (Nat.zero_le _) (Nat.zero_le _)) dX7_certify_62 (fun h14 H locs hf E => ?_)
          refine lv_aload Z.x Z.b dX7_certify_65 (lv_at hl 0 rfl) ?_
          refine lv_iload_n Z.x Z.b dX7_certify_67 rfl (lv_at hl 3 rfl) ?_
          refine lv_iload_n Z.x Z.b dX7_certify_68 rfl (lv_at hl 4 rfl) ?_
          refine z_Vi (As := [.int a2, .int a3]) Z E hl.1 k_X7_106 v_X3_replaceCertificate hf (fun r h' e => c_X3_replaceCertificate l G h14 h' v4 a2 a3 r e) rfl rfl (Nat.le_of_ble_eq_true rfl) (zRm_of rfl (Nat.zero_le _) (Nat.zero_le _)) dX7_certify_69 (fun v15 h16 H locs hf E => ?_)
          exact z_iret Z E hr dX7_certify_72 hf
        · have hf := zif_ hf c
          refine lv_bipush (v := (-4)) Z.x Z.b dX7_certify_51 (by decide) ?_
          exact z_iret Z E hr dX7_certify_53 hf
      · have hf := zit hf c
        refine lv_bipush (v := (-2)) Z.x Z.b dX7_certify_35 (by decide) ?_
        exact z_iret Z E hr dX7_certify_37 hf
    · have hf := zit hf c
      refine lv_iconst (v := (-1)) Z.x Z.b dX7_certify_22 (by decide) ?_
      exact z_iret Z E hr dX7_certify_23 hf
set_option maxHeartbeats 4000000 in
set_option maxRecDepth 20000 in
theorem c_X7_certify (l : Launch) (G : zG) (h : zHp) (h' : zHp) (a0 : Nat) (a1 : Int32) (a2 : Int32) (a3 : Int32) (r : Int32) (hf : f_X7_certify a0 a1 a2 a3 h = some (r, h')) : zM0 l yX7_certify cX7_certify 5 (some .int) rm_X7_certify G [.ref a0, .int a1, .int a2, .int a3] h (zQi G r h') := by
  refine Met.ofW (cc := cX7_certify) (maxL := 5) (ret := (some .int)) (by decide) rfl ?_
  intro p e s m args below meth c s₁ B hml hv
  obtain ⟨rfl, hW⟩ := hv
  obtain ⟨Z, E, hr⟩ := zEnter (own := RX7) B hml rfl hW
  have hl := lv_entry ([.ref a0, .int a1, .int a2, .int a3]) (n := 5) (Nat.le_of_ble_eq_true rfl)
  rw [lg_entry_eq]
  generalize (lg_sl ([.ref a0, .int a1, .int a2, .int a3]) ++ List.replicate (5 - (lg_sl ([.ref a0, .int a1, .int a2, .int a3])).length) Slot.unset).toArray = ls at hl ⊢
  have hl : lv_has ls 5 [(0, .ref a0), (1, .int a1), (2, .int a2), (3, .int a3)] := hl
  exact t_X7_certify (out := (r, h')) Z hr hf E hl
/-! FerryCrews.climb(II)I -/
theorem dX7_climb_0 : decode cX7_climb 0 = .ok (.aload_n 0, 1) := by decide +kernel
theorem dX7_climb_1 : decode cX7_climb 1 = .ok (.getfield 17, 3) := by decide +kernel
theorem dX7_climb_4 : decode cX7_climb 4 = .ok (.iload_n 2, 1) := by decide +kernel
theorem dX7_climb_5 : decode cX7_climb 5 = .ok (.invokevirtual 111, 3) := by decide +kernel
theorem dX7_climb_8 : decode cX7_climb 8 = .ok (.astore_n 3, 1) := by decide +kernel
theorem dX7_climb_9 : decode cX7_climb 9 = .ok (.aload_n 0, 1) := by decide +kernel
theorem dX7_climb_10 : decode cX7_climb 10 = .ok (.getfield 17, 3) := by decide +kernel
theorem dX7_climb_13 : decode cX7_climb 13 = .ok (.iload_n 1, 1) := by decide +kernel
theorem dX7_climb_14 : decode cX7_climb 14 = .ok (.invokevirtual 99, 3) := by decide +kernel
theorem dX7_climb_17 : decode cX7_climb 17 = .ok (.ifnull 7, 3) := by decide +kernel
theorem dX7_climb_20 : decode cX7_climb 20 = .ok (.aload_n 3, 1) := by decide +kernel
theorem dX7_climb_21 : decode cX7_climb 21 = .ok (.ifnonnull 5, 3) := by decide +kernel
theorem dX7_climb_24 : decode cX7_climb 24 = .ok (.iconst (-1), 1) := by decide +kernel
theorem dX7_climb_25 : decode cX7_climb 25 = .ok (.ireturn, 1) := by decide +kernel
theorem dX7_climb_26 : decode cX7_climb 26 = .ok (.aload_n 0, 1) := by decide +kernel
theorem dX7_climb_27 : decode cX7_climb 27 = .ok (.getfield 30, 3) := by decide +kernel
theorem dX7_climb_30 : decode cX7_climb 30 = .ok (.aload_n 0, 1) := by decide +kernel
theorem dX7_climb_31 : decode cX7_climb 31 = .ok (.getfield 17, 3) := by decide +kernel
theorem dX7_climb_34 : decode cX7_climb 34 = .ok (.invokevirtual 49, 3) := by decide +kernel
theorem dX7_climb_37 : decode cX7_climb 37 = .ok (.aload_n 3, 1) := by decide +kernel
theorem dX7_climb_38 : decode cX7_climb 38 = .ok (.iload_n 1, 1) := by decide +kernel
theorem dX7_climb_39 : decode cX7_climb 39 = .ok (.invokevirtual 115, 3) := by decide +kernel
theorem dX7_climb_42 : decode cX7_climb 42 = .ok (.ireturn, 1) := by decide +kernel
set_option maxRecDepth 20000 in
theorem wm_X7_111 : Cond.methodLink RX7 111 yX5_ladderOf ∈ zB := List.mem_filter.mpr ⟨List.mem_of_getElem? (i := 474) (by decide +kernel), by decide +kernel⟩
theorem k_X7_111 : zCal RX7 111 yX5_ladderOf cX5_ladderOf 2 (some (.object "FerryCrews$Ladder")) 1 := ⟨wm_X7_111, wi_X5, wc_X5_ladderOf, by decide +kernel, by decide +kernel, by decide +kernel⟩
set_option maxRecDepth 20000 in
theorem wm_X7_115 : Cond.methodLink RX7 115 yX2_putLast ∈ zB := List.mem_filter.mpr ⟨List.mem_of_getElem? (i := 478) (by decide +kernel), by decide +kernel⟩
theorem k_X7_115 : zCal RX7 115 yX2_putLast cX2_putLast 2 (some .int) 1 := ⟨wm_X7_115, wi_X2, wc_X2_putLast, by decide +kernel, by decide +kernel, by decide +kernel⟩
def rm_X7_climb : Room := { frames := 4, cells := 0, slots := 0, locals := 104 }
set_option maxHeartbeats 4000000 in
set_option maxRecDepth 20000 in
theorem t_X7_climb {p : Program} {l : Launch} {e : Env} {s : State} {m : MethodId} {args : Array Value} {below : List Frame} {meth : Method} {c : Code} {G : zG} (Z : zF p s m args c meth cX7_climb 4 RX7 G) (hr : meth.sig.returnType = (some .int)) {out : Int32 × zHp} {a0 : Nat} {a1 : Int32} {a2 : Int32} {h : zHp} {H : Heap} {locs : List Loc} {ls : Array Slot} (hf : f_X7_climb a0 a1 a2 h = some out) (E : zE G s h H locs) (hl : lv_has ls 4 [(0, .ref a0), (1, .int a1), (2, .int a2)]) : W p l e rm_X7_climb s m args below meth c H locs 0 0 (MQ below (zQi G out.1 out.2) args s 0 0 (zA G)) (F0 m 0 ls []) := by
  unfold f_X7_climb at hf
  refine lv_aload_n Z.x Z.b dX7_climb_0 rfl (lv_at hl 0 rfl) ?_
  refine z_getR Z E q_X7_17 dX7_climb_1 hf (fun v1 hf => ?_)
  refine lv_iload_n Z.x Z.b dX7_climb_4 rfl (lv_at hl 2 rfl) ?_
  refine z_Vq (As := [.int a2]) Z E hl.1 k_X7_111 v_X5_ladderOf hf (fun r h' e => c_X5_ladderOf l G h h' v1 a2 r e) rfl rfl (Nat.le_of_ble_eq_true rfl) (zRm_of rfl (Nat.zero_le _) (Nat.zero_le _)) dX7_climb_5 (fun w2 h3 H locs hf E => ?_)
  refine z_astore_n (lv' := [(3, va_rf w2), (0, .ref a0), (1, .int a1), (2, .int a2)]) Z (x := w2) dX7_climb_8 rfl hl (by decide) (by cases w2 <;> rfl) (fun ls hl => ?_)
  refine lv_aload_n Z.x Z.b dX7_climb_9 rfl (lv_at hl 1 rfl) ?_
  refine z_getR Z E q_X7_17 dX7_climb_10 hf (fun v4 hf => ?_)
  refine lv_iload_n Z.x Z.b dX7_climb_13 rfl (lv_at hl 2 rfl) ?_
  refine z_Vq (As := [.int a1]) Z E hl.1 k_X7_99 v_X5_memberAt hf (fun r h' e => c_X5_memberAt l G h3 h' v4 a1 r e) rfl rfl (Nat.le_of_ble_eq_true rfl) (zRm_of rfl (Nat.zero_le _) (Nat.zero_le _)) dX7_climb_14 (fun w5 h6 H locs hf E => ?_)
  refine z_ifnull (tgt := 24) Z dX7_climb_17 (by decide) hf (fun ex h9_17 => ?_) (fun v7 ex h9_17 => ?_)
  · subst ex
    have hf := h9_17
    refine lv_iconst (v := (-1)) Z.x Z.b dX7_climb_24 (by decide) ?_
    exact z_iret Z E hr dX7_climb_25 hf
  · subst ex
    have hf := h9_17
    refine z_aload_n Z (x := w2) dX7_climb_20 rfl (lv_at hl 0 rfl) ?_
    refine z_ifnonnull (tgt := 26) Z dX7_climb_21 (by decide) hf (fun ex h9_21 => ?_) (fun v8 ex h9_21 => ?_)
    · subst ex
      have hf := h9_21
      refine lv_iconst (v := (-1)) Z.x Z.b dX7_climb_24 (by decide) ?_
      exact z_iret Z E hr dX7_climb_25 hf
    · subst ex
      have hf := h9_21
      refine lv_aload_n Z.x Z.b dX7_climb_26 rfl (lv_at hl 1 rfl) ?_
      refine z_getR Z E q_X7_30 dX7_climb_27 hf (fun v9 hf => ?_)
      refine lv_aload_n Z.x Z.b dX7_climb_30 rfl (lv_at hl 1 rfl) ?_
      refine z_getR Z E q_X7_17 dX7_climb_31 hf (fun v10 hf => ?_)
      refine z_Vv (As := [.ref v10]) Z E hl.1 k_X7_49 v_X1_record hf (fun h' e => c_X1_record l G h6 h' v9 v10 e) rfl rfl (Nat.le_of_ble_eq_true rfl) (zRm_of rfl (Nat.zero_le _) (Nat.zero_le _)) dX7_climb_34 (fun h11 H locs hf E => ?_)
      refine lv_aload_n Z.x Z.b dX7_climb_37 rfl (lv_at hl 0 rfl) ?_
      refine lv_iload_n Z.x Z.b dX7_climb_38 rfl (lv_at hl 2 rfl) ?_
      refine z_Vi (As := [.int a1]) Z E hl.1 k_X7_115 v_X2_putLast hf (fun r h' e => c_X2_putLast l G h11 h' v8 a1 r e) rfl rfl (Nat.le_of_ble_eq_true rfl) (zRm_of rfl (Nat.zero_le _) (Nat.zero_le _)) dX7_climb_39 (fun v12 h13 H locs hf E => ?_)
      exact z_iret Z E hr dX7_climb_42 hf
set_option maxHeartbeats 4000000 in
set_option maxRecDepth 20000 in
theorem c_X7_climb (l : Launch) (G : zG) (h : zHp) (h' : zHp) (a0 : Nat) (a1 : Int32) (a2 : Int32) (r : Int32) (hf : f_X7_climb a0 a1 a2 h = some (r, h')) : zM0 l yX7_climb cX7_climb 4 (some .int) rm_X7_climb G [.ref a0, .int a1, .int a2] h (zQi G r h') := by
  refine Met.ofW (cc := cX7_climb) (maxL := 4) (ret := (some .int)) (by decide) rfl ?_
  intro p e s m args below meth c s₁ B hml hv
  obtain ⟨rfl, hW⟩ := hv
  obtain ⟨Z, E, hr⟩ := zEnter (own := RX7) B hml rfl hW
  have hl := lv_entry ([.ref a0, .int a1, .int a2]) (n := 4) (Nat.le_of_ble_eq_true rfl)
  rw [lg_entry_eq]
  generalize (lg_sl ([.ref a0, .int a1, .int a2]) ++ List.replicate (4 - (lg_sl ([.ref a0, .int a1, .int a2])).length) Slot.unset).toArray = ls at hl ⊢
  have hl : lv_has ls 4 [(0, .ref a0), (1, .int a1), (2, .int a2)] := hl
  exact t_X7_climb (out := (r, h')) Z hr hf E hl
/-! FerryCrews.leave(II)I -/
theorem dX7_leave_0 : decode cX7_leave 0 = .ok (.aload_n 0, 1) := by decide +kernel
theorem dX7_leave_1 : decode cX7_leave 1 = .ok (.getfield 17, 3) := by decide +kernel
theorem dX7_leave_4 : decode cX7_leave 4 = .ok (.iload_n 2, 1) := by decide +kernel
theorem dX7_leave_5 : decode cX7_leave 5 = .ok (.invokevirtual 111, 3) := by decide +kernel
theorem dX7_leave_8 : decode cX7_leave 8 = .ok (.astore_n 3, 1) := by decide +kernel
theorem dX7_leave_9 : decode cX7_leave 9 = .ok (.aload_n 0, 1) := by decide +kernel
theorem dX7_leave_10 : decode cX7_leave 10 = .ok (.getfield 17, 3) := by decide +kernel
theorem dX7_leave_13 : decode cX7_leave 13 = .ok (.iload_n 1, 1) := by decide +kernel
theorem dX7_leave_14 : decode cX7_leave 14 = .ok (.invokevirtual 99, 3) := by decide +kernel
theorem dX7_leave_17 : decode cX7_leave 17 = .ok (.ifnull 7, 3) := by decide +kernel
theorem dX7_leave_20 : decode cX7_leave 20 = .ok (.aload_n 3, 1) := by decide +kernel
theorem dX7_leave_21 : decode cX7_leave 21 = .ok (.ifnonnull 5, 3) := by decide +kernel
theorem dX7_leave_24 : decode cX7_leave 24 = .ok (.iconst (-1), 1) := by decide +kernel
theorem dX7_leave_25 : decode cX7_leave 25 = .ok (.ireturn, 1) := by decide +kernel
theorem dX7_leave_26 : decode cX7_leave 26 = .ok (.aload_n 3, 1) := by decide +kernel
theorem dX7_leave_27 : decode cX7_leave 27 = .ok (.iload_n 1, 1) := by decide +kernel
theorem dX7_leave_28 : decode cX7_leave 28 = .ok (.invokevirtual 121, 3) := by decide +kernel
theorem dX7_leave_31 : decode cX7_leave 31 = .ok (.ifCond .ne 6, 3) := by decide +kernel
theorem dX7_leave_34 : decode cX7_leave 34 = .ok (.bipush (-5), 2) := by decide +kernel
theorem dX7_leave_36 : decode cX7_leave 36 = .ok (.ireturn, 1) := by decide +kernel
theorem dX7_leave_37 : decode cX7_leave 37 = .ok (.aload_n 0, 1) := by decide +kernel
theorem dX7_leave_38 : decode cX7_leave 38 = .ok (.getfield 30, 3) := by decide +kernel
theorem dX7_leave_41 : decode cX7_leave 41 = .ok (.aload_n 0, 1) := by decide +kernel
theorem dX7_leave_42 : decode cX7_leave 42 = .ok (.getfield 17, 3) := by decide +kernel
theorem dX7_leave_45 : decode cX7_leave 45 = .ok (.invokevirtual 49, 3) := by decide +kernel
theorem dX7_leave_48 : decode cX7_leave 48 = .ok (.aload_n 3, 1) := by decide +kernel
theorem dX7_leave_49 : decode cX7_leave 49 = .ok (.iload_n 1, 1) := by decide +kernel
theorem dX7_leave_50 : decode cX7_leave 50 = .ok (.invokevirtual 124, 3) := by decide +kernel
theorem dX7_leave_53 : decode cX7_leave 53 = .ok (.ireturn, 1) := by decide +kernel
set_option maxRecDepth 20000 in
theorem wc_X2_has : Cond.code yX2_has cX2_has 3 (some .boolean) ∈ zB := List.mem_filter.mpr ⟨List.mem_of_getElem? (i := 486) (by decide +kernel), by decide +kernel⟩
set_option maxRecDepth 20000 in
theorem wm_X7_121 : Cond.methodLink RX7 121 yX2_has ∈ zB := List.mem_filter.mpr ⟨List.mem_of_getElem? (i := 483) (by decide +kernel), by decide +kernel⟩
theorem k_X7_121 : zCal RX7 121 yX2_has cX2_has 3 (some .boolean) 1 := ⟨wm_X7_121, wi_X2, wc_X2_has, by decide +kernel, by decide +kernel, by decide +kernel⟩
set_option maxRecDepth 20000 in
theorem wn_X2_has : Cond.instanceMethod yX2_has ∈ zB := List.mem_filter.mpr ⟨List.mem_of_getElem? (i := 484) (by decide +kernel), by decide +kernel⟩
set_option maxRecDepth 20000 in
theorem ws_X2_has : Cond.selects RX2 yX2_has yX2_has ∈ zB := List.mem_filter.mpr ⟨List.mem_of_getElem? (i := 485) (by decide +kernel), by decide +kernel⟩
theorem v_X2_has : zVir yX2_has 2 := ⟨wn_X2_has, ws_X2_has, TX2, 2, rfl⟩
set_option maxRecDepth 20000 in
theorem wm_X7_124 : Cond.methodLink RX7 124 yX2_takeOff ∈ zB := List.mem_filter.mpr ⟨List.mem_of_getElem? (i := 491) (by decide +kernel), by decide +kernel⟩
theorem k_X7_124 : zCal RX7 124 yX2_takeOff cX2_takeOff 4 (some .int) 1 := ⟨wm_X7_124, wi_X2, wc_X2_takeOff, by decide +kernel, by decide +kernel, by decide +kernel⟩
def rm_X7_leave : Room := { frames := 4, cells := 0, slots := 0, locals := 104 }
set_option maxHeartbeats 4000000 in
set_option maxRecDepth 20000 in
theorem t_X7_leave {p : Program} {l : Launch} {e : Env} {s : State} {m : MethodId} {args : Array Value} {below : List Frame} {meth : Method} {c : Code} {G : zG} (Z : zF p s m args c meth cX7_leave 4 RX7 G) (hr : meth.sig.returnType = (some .int)) {out : Int32 × zHp} {a0 : Nat} {a1 : Int32} {a2 : Int32} {h : zHp} {H : Heap} {locs : List Loc} {ls : Array Slot} (hf : f_X7_leave a0 a1 a2 h = some out) (E : zE G s h H locs) (hl : lv_has ls 4 [(0, .ref a0), (1, .int a1), (2, .int a2)]) : W p l e rm_X7_leave s m args below meth c H locs 0 0 (MQ below (zQi G out.1 out.2) args s 0 0 (zA G)) (F0 m 0 ls []) := by
  unfold f_X7_leave at hf
  refine lv_aload_n Z.x Z.b dX7_leave_0 rfl (lv_at hl 0 rfl) ?_
  refine z_getR Z E q_X7_17 dX7_leave_1 hf (fun v1 hf => ?_)
  refine lv_iload_n Z.x Z.b dX7_leave_4 rfl (lv_at hl 2 rfl) ?_
  refine z_Vq (As := [.int a2]) Z E hl.1 k_X7_111 v_X5_ladderOf hf (fun r h' e => c_X5_ladderOf l G h h' v1 a2 r e) rfl rfl (Nat.le_of_ble_eq_true rfl) (zRm_of rfl (Nat.zero_le _) (Nat.zero_le _)) dX7_leave_5 (fun w2 h3 H locs hf E => ?_)
  refine z_astore_n (lv' := [(3, va_rf w2), (0, .ref a0), (1, .int a1), (2, .int a2)]) Z (x := w2) dX7_leave_8 rfl hl (by decide) (by cases w2 <;> rfl) (fun ls hl => ?_)
  refine lv_aload_n Z.x Z.b dX7_leave_9 rfl (lv_at hl 1 rfl) ?_
  refine z_getR Z E q_X7_17 dX7_leave_10 hf (fun v4 hf => ?_)
  refine lv_iload_n Z.x Z.b dX7_leave_13 rfl (lv_at hl 2 rfl) ?_
  refine z_Vq (As := [.int a1]) Z E hl.1 k_X7_99 v_X5_memberAt hf (fun r h' e => c_X5_memberAt l G h3 h' v4 a1 r e) rfl rfl (Nat.le_of_ble_eq_true rfl) (zRm_of rfl (Nat.zero_le _) (Nat.zero_le _)) dX7_leave_14 (fun w5 h6 H locs hf E => ?_)
  refine z_ifnull (tgt := 24) Z dX7_leave_17 (by decide) hf (fun ex h9_17 => ?_) (fun v7 ex h9_17 => ?_)
  · subst ex
    have hf := h9_17
    refine lv_iconst (v := (-1)) Z.x Z.b dX7_leave_24 (by decide) ?_
    exact z_iret Z E hr dX7_leave_25 hf
  · subst ex
    have hf := h9_17
    refine z_aload_n Z (x := w2) dX7_leave_20 rfl (lv_at hl 0 rfl) ?_
    refine z_ifnonnull (tgt := 26) Z dX7_leave_21 (by decide) hf (fun ex h9_21 => ?_) (fun v8 ex h9_21 => ?_)
    · subst ex
      have hf := h9_21
      refine lv_iconst (v := (-1)) Z.x Z.b dX7_leave_24 (by decide) ?_
      exact z_iret Z E hr dX7_leave_25 hf
    · subst ex
      have hf := h9_21
      refine lv_aload_n Z.x Z.b dX7_leave_26 rfl (lv_at hl 0 rfl) ?_
      refine lv_iload_n Z.x Z.b dX7_leave_27 rfl (lv_at hl 2 rfl) ?_
      refine z_Vi (As := [.int a1]) Z E hl.1 k_X7_121 v_X2_has hf (fun r h' e => c_X2_has l G h6 h' v8 a1 r e) rfl rfl (Nat.le_of_ble_eq_true rfl) (zRm_of rfl (Nat.zero_le _) (Nat.zero_le _)) dX7_leave_28 (fun v9 h10 H locs hf E => ?_)
      refine lv_if_ne (tgt := 37) Z.x Z.b dX7_leave_31 (by decide) (fun c => ?_) (fun c => ?_)
      · have hf := zif_ hf c
        refine lv_aload_n Z.x Z.b dX7_leave_37 rfl (lv_at hl 1 rfl) ?_
        refine z_getR Z E q_X7_30 dX7_leave_38 hf (fun v11 hf => ?_)
        refine lv_aload_n Z.x Z.b dX7_leave_41 rfl (lv_at hl 1 rfl) ?_
        refine z_getR Z E q_X7_17 dX7_leave_42 hf (fun v12 hf => ?_)
        refine z_Vv (As := [.ref v12]) Z E hl.1 k_X7_49 v_X1_record hf (fun h' e => c_X1_record l G h10 h' v11 v12 e) rfl rfl (Nat.le_of_ble_eq_true rfl) (zRm_of rfl (Nat.zero_le _) (Nat.zero_le _)) dX7_leave_45 (fun h13 H locs hf E => ?_)
        refine lv_aload_n Z.x Z.b dX7_leave_48 rfl (lv_at hl 0 rfl) ?_
        refine lv_iload_n Z.x Z.b dX7_leave_49 rfl (lv_at hl 2 rfl) ?_
        refine z_Vi (As := [.int a1]) Z E hl.1 k_X7_124 v_X2_takeOff hf (fun r h' e => c_X2_takeOff l G h13 h' v8 a1 r e) rfl rfl (Nat.le_of_ble_eq_true rfl) (zRm_of rfl (Nat.zero_le _) (Nat.zero_le _)) dX7_leave_50 (fun v14 h15 H locs hf E => ?_)
        exact z_iret Z E hr dX7_leave_53 hf
      · have hf := zit hf c
        refine lv_bipush (v := (-5)) Z.x Z.b dX7_leave_34 (by decide) ?_
        exact z_iret Z E hr dX7_leave_36 hf
set_option maxHeartbeats 4000000 in
set_option maxRecDepth 20000 in
theorem c_X7_leave (l : Launch) (G : zG) (h : zHp) (h' : zHp) (a0 : Nat) (a1 : Int32) (a2 : Int32) (r : Int32) (hf : f_X7_leave a0 a1 a2 h = some (r, h')) : zM0 l yX7_leave cX7_leave 4 (some .int) rm_X7_leave G [.ref a0, .int a1, .int a2] h (zQi G r h') := by
  refine Met.ofW (cc := cX7_leave) (maxL := 4) (ret := (some .int)) (by decide) rfl ?_
  intro p e s m args below meth c s₁ B hml hv
  obtain ⟨rfl, hW⟩ := hv
  obtain ⟨Z, E, hr⟩ := zEnter (own := RX7) B hml rfl hW
  have hl := lv_entry ([.ref a0, .int a1, .int a2]) (n := 4) (Nat.le_of_ble_eq_true rfl)
  rw [lg_entry_eq]
  generalize (lg_sl ([.ref a0, .int a1, .int a2]) ++ List.replicate (4 - (lg_sl ([.ref a0, .int a1, .int a2])).length) Slot.unset).toArray = ls at hl ⊢
  have hl : lv_has ls 4 [(0, .ref a0), (1, .int a1), (2, .int a2)] := hl
  exact t_X7_leave (out := (r, h')) Z hr hf E hl
/-! FerryCrews.sick(II)I -/
theorem dX7_sick_0 : decode cX7_sick 0 = .ok (.aload_n 0, 1) := by decide +kernel
theorem dX7_sick_1 : decode cX7_sick 1 = .ok (.getfield 17, 3) := by decide +kernel
theorem dX7_sick_4 : decode cX7_sick 4 = .ok (.iload_n 1, 1) := by decide +kernel
theorem dX7_sick_5 : decode cX7_sick 5 = .ok (.invokevirtual 99, 3) := by decide +kernel
theorem dX7_sick_8 : decode cX7_sick 8 = .ok (.ifnonnull 5, 3) := by decide +kernel
theorem dX7_sick_11 : decode cX7_sick 11 = .ok (.iconst (-1), 1) := by decide +kernel
theorem dX7_sick_12 : decode cX7_sick 12 = .ok (.ireturn, 1) := by decide +kernel
theorem dX7_sick_13 : decode cX7_sick 13 = .ok (.iload_n 2, 1) := by decide +kernel
theorem dX7_sick_14 : decode cX7_sick 14 = .ok (.iconst 1, 1) := by decide +kernel
theorem dX7_sick_15 : decode cX7_sick 15 = .ok (.sipush 400, 3) := by decide +kernel
theorem dX7_sick_18 : decode cX7_sick 18 = .ok (.invokestatic 88, 3) := by decide +kernel
theorem dX7_sick_21 : decode cX7_sick 21 = .ok (.ifCond .ne 6, 3) := by decide +kernel
theorem dX7_sick_24 : decode cX7_sick 24 = .ok (.bipush (-2), 2) := by decide +kernel
theorem dX7_sick_26 : decode cX7_sick 26 = .ok (.ireturn, 1) := by decide +kernel
theorem dX7_sick_27 : decode cX7_sick 27 = .ok (.aload_n 0, 1) := by decide +kernel
theorem dX7_sick_28 : decode cX7_sick 28 = .ok (.getfield 30, 3) := by decide +kernel
theorem dX7_sick_31 : decode cX7_sick 31 = .ok (.aload_n 0, 1) := by decide +kernel
theorem dX7_sick_32 : decode cX7_sick 32 = .ok (.getfield 17, 3) := by decide +kernel
theorem dX7_sick_35 : decode cX7_sick 35 = .ok (.invokevirtual 49, 3) := by decide +kernel
theorem dX7_sick_38 : decode cX7_sick 38 = .ok (.aload_n 0, 1) := by decide +kernel
theorem dX7_sick_39 : decode cX7_sick 39 = .ok (.getfield 17, 3) := by decide +kernel
theorem dX7_sick_42 : decode cX7_sick 42 = .ok (.iload_n 1, 1) := by decide +kernel
theorem dX7_sick_43 : decode cX7_sick 43 = .ok (.iload_n 2, 1) := by decide +kernel
theorem dX7_sick_44 : decode cX7_sick 44 = .ok (.invokevirtual 127, 3) := by decide +kernel
theorem dX7_sick_47 : decode cX7_sick 47 = .ok (.ireturn, 1) := by decide +kernel
set_option maxRecDepth 20000 in
theorem wc_X5_fallSick : Cond.code yX5_fallSick cX5_fallSick 9 (some .int) ∈ zB := List.mem_filter.mpr ⟨List.mem_of_getElem? (i := 499) (by decide +kernel), by decide +kernel⟩
set_option maxRecDepth 20000 in
theorem wm_X7_127 : Cond.methodLink RX7 127 yX5_fallSick ∈ zB := List.mem_filter.mpr ⟨List.mem_of_getElem? (i := 496) (by decide +kernel), by decide +kernel⟩
theorem k_X7_127 : zCal RX7 127 yX5_fallSick cX5_fallSick 9 (some .int) 2 := ⟨wm_X7_127, wi_X5, wc_X5_fallSick, by decide +kernel, by decide +kernel, by decide +kernel⟩
set_option maxRecDepth 20000 in
theorem wn_X5_fallSick : Cond.instanceMethod yX5_fallSick ∈ zB := List.mem_filter.mpr ⟨List.mem_of_getElem? (i := 497) (by decide +kernel), by decide +kernel⟩
set_option maxRecDepth 20000 in
theorem ws_X5_fallSick : Cond.selects RX5 yX5_fallSick yX5_fallSick ∈ zB := List.mem_filter.mpr ⟨List.mem_of_getElem? (i := 498) (by decide +kernel), by decide +kernel⟩
theorem v_X5_fallSick : zVir yX5_fallSick 5 := ⟨wn_X5_fallSick, ws_X5_fallSick, TX5, 8, rfl⟩
def rm_X7_sick : Room := { frames := 7, cells := 0, slots := 0, locals := 167 }
set_option maxHeartbeats 4000000 in
set_option maxRecDepth 20000 in
theorem t_X7_sick {p : Program} {l : Launch} {e : Env} {s : State} {m : MethodId} {args : Array Value} {below : List Frame} {meth : Method} {c : Code} {G : zG} (Z : zF p s m args c meth cX7_sick 3 RX7 G) (hr : meth.sig.returnType = (some .int)) {out : Int32 × zHp} {a0 : Nat} {a1 : Int32} {a2 : Int32} {h : zHp} {H : Heap} {locs : List Loc} {ls : Array Slot} (hf : f_X7_sick a0 a1 a2 h = some out) (E : zE G s h H locs) (hl : lv_has ls 3 [(0, .ref a0), (1, .int a1), (2, .int a2)]) : W p l e rm_X7_sick s m args below meth c H locs 0 0 (MQ below (zQi G out.1 out.2) args s 0 0 (zA G)) (F0 m 0 ls []) := by
  unfold f_X7_sick at hf
  refine lv_aload_n Z.x Z.b dX7_sick_0 rfl (lv_at hl 0 rfl) ?_
  refine z_getR Z E q_X7_17 dX7_sick_1 hf (fun v1 hf => ?_)
  refine lv_iload_n Z.x Z.b dX7_sick_4 rfl (lv_at hl 1 rfl) ?_
  refine z_Vq (As := [.int a1]) Z E hl.1 k_X7_99 v_X5_memberAt hf (fun r h' e => c_X5_memberAt l G h h' v1 a1 r e) rfl rfl (Nat.le_of_ble_eq_true rfl) (zRm_of rfl (Nat.zero_le _) (Nat.zero_le _)) dX7_sick_5 (fun w2 h3 H locs hf E => ?_)
  refine z_ifnonnull (tgt := 13) Z dX7_sick_8 (by decide) hf (fun ex h9_8 => ?_) (fun v4 ex h9_8 => ?_)
  · subst ex
    have hf := h9_8
    refine lv_iconst (v := (-1)) Z.x Z.b dX7_sick_11 (by decide) ?_
    exact z_iret Z E hr dX7_sick_12 hf
  · subst ex
    have hf := h9_8
    refine lv_iload_n Z.x Z.b dX7_sick_13 rfl (lv_at hl 2 rfl) ?_
    refine lv_iconst (v := 1) Z.x Z.b dX7_sick_14 (by decide) ?_
    refine lv_sipush (v := 400) Z.x Z.b dX7_sick_15 (by decide) ?_
    refine z_Si (As := [.int a2, .int 1, .int 400]) Z E hl.1 k_X7_88 wt_X7_isWithin hf (fun r h' e => c_X7_isWithin l G h3 h' a2 1 400 r e) rfl rfl (Nat.le_of_ble_eq_true rfl) (zRm_of rfl (Nat.zero_le _) (Nat.zero_le _)) dX7_sick_18 (fun v5 h6 H locs hf E => ?_)
    refine lv_if_ne (tgt := 27) Z.x Z.b dX7_sick_21 (by decide) (fun c => ?_) (fun c => ?_)
    · have hf := zif_ hf c
      refine lv_aload_n Z.x Z.b dX7_sick_27 rfl (lv_at hl 0 rfl) ?_
      refine z_getR Z E q_X7_30 dX7_sick_28 hf (fun v7 hf => ?_)
      refine lv_aload_n Z.x Z.b dX7_sick_31 rfl (lv_at hl 0 rfl) ?_
      refine z_getR Z E q_X7_17 dX7_sick_32 hf (fun v8 hf => ?_)
      refine z_Vv (As := [.ref v8]) Z E hl.1 k_X7_49 v_X1_record hf (fun h' e => c_X1_record l G h6 h' v7 v8 e) rfl rfl (Nat.le_of_ble_eq_true rfl) (zRm_of rfl (Nat.zero_le _) (Nat.zero_le _)) dX7_sick_35 (fun h9 H locs hf E => ?_)
      refine lv_aload_n Z.x Z.b dX7_sick_38 rfl (lv_at hl 0 rfl) ?_
      refine z_getR Z E q_X7_17 dX7_sick_39 hf (fun v10 hf => ?_)
      refine lv_iload_n Z.x Z.b dX7_sick_42 rfl (lv_at hl 1 rfl) ?_
      refine lv_iload_n Z.x Z.b dX7_sick_43 rfl (lv_at hl 2 rfl) ?_
      refine z_Vi (As := [.int a1, .int a2]) Z E hl.1 k_X7_127 v_X5_fallSick hf (fun r h' e => c_X5_fallSick l G h9 h' v10 a1 a2 r e) rfl rfl (Nat.le_of_ble_eq_true rfl) (zRm_of rfl (Nat.zero_le _) (Nat.zero_le _)) dX7_sick_44 (fun v11 h12 H locs hf E => ?_)
      exact z_iret Z E hr dX7_sick_47 hf
    · have hf := zit hf c
      refine lv_bipush (v := (-2)) Z.x Z.b dX7_sick_24 (by decide) ?_
      exact z_iret Z E hr dX7_sick_26 hf
set_option maxHeartbeats 4000000 in
set_option maxRecDepth 20000 in
theorem c_X7_sick (l : Launch) (G : zG) (h : zHp) (h' : zHp) (a0 : Nat) (a1 : Int32) (a2 : Int32) (r : Int32) (hf : f_X7_sick a0 a1 a2 h = some (r, h')) : zM0 l yX7_sick cX7_sick 3 (some .int) rm_X7_sick G [.ref a0, .int a1, .int a2] h (zQi G r h') := by
  refine Met.ofW (cc := cX7_sick) (maxL := 3) (ret := (some .int)) (by decide) rfl ?_
  intro p e s m args below meth c s₁ B hml hv
  obtain ⟨rfl, hW⟩ := hv
  obtain ⟨Z, E, hr⟩ := zEnter (own := RX7) B hml rfl hW
  have hl := lv_entry ([.ref a0, .int a1, .int a2]) (n := 3) (Nat.le_of_ble_eq_true rfl)
  rw [lg_entry_eq]
  generalize (lg_sl ([.ref a0, .int a1, .int a2]) ++ List.replicate (3 - (lg_sl ([.ref a0, .int a1, .int a2])).length) Slot.unset).toArray = ls at hl ⊢
  have hl : lv_has ls 3 [(0, .ref a0), (1, .int a1), (2, .int a2)] := hl
  exact t_X7_sick (out := (r, h')) Z hr hf E hl
/-! FerryCrews.well(I)I -/
theorem dX7_well_0 : decode cX7_well 0 = .ok (.aload_n 0, 1) := by decide +kernel
theorem dX7_well_1 : decode cX7_well 1 = .ok (.getfield 17, 3) := by decide +kernel
theorem dX7_well_4 : decode cX7_well 4 = .ok (.iload_n 1, 1) := by decide +kernel
theorem dX7_well_5 : decode cX7_well 5 = .ok (.invokevirtual 99, 3) := by decide +kernel
theorem dX7_well_8 : decode cX7_well 8 = .ok (.astore_n 2, 1) := by decide +kernel
theorem dX7_well_9 : decode cX7_well 9 = .ok (.aload_n 2, 1) := by decide +kernel
theorem dX7_well_10 : decode cX7_well 10 = .ok (.ifnonnull 5, 3) := by decide +kernel
theorem dX7_well_13 : decode cX7_well 13 = .ok (.iconst (-1), 1) := by decide +kernel
theorem dX7_well_14 : decode cX7_well 14 = .ok (.ireturn, 1) := by decide +kernel
theorem dX7_well_15 : decode cX7_well 15 = .ok (.aload_n 2, 1) := by decide +kernel
theorem dX7_well_16 : decode cX7_well 16 = .ok (.getfield 130, 3) := by decide +kernel
theorem dX7_well_19 : decode cX7_well 19 = .ok (.aload_n 0, 1) := by decide +kernel
theorem dX7_well_20 : decode cX7_well 20 = .ok (.getfield 17, 3) := by decide +kernel
theorem dX7_well_23 : decode cX7_well 23 = .ok (.getfield 133, 3) := by decide +kernel
theorem dX7_well_26 : decode cX7_well 26 = .ok (.isub, 1) := by decide +kernel
theorem dX7_well_27 : decode cX7_well 27 = .ok (.istore_n 3, 1) := by decide +kernel
theorem dX7_well_28 : decode cX7_well 28 = .ok (.iload_n 3, 1) := by decide +kernel
theorem dX7_well_29 : decode cX7_well 29 = .ok (.ifCond .gt 6, 3) := by decide +kernel
theorem dX7_well_32 : decode cX7_well 32 = .ok (.bipush (-5), 2) := by decide +kernel
theorem dX7_well_34 : decode cX7_well 34 = .ok (.ireturn, 1) := by decide +kernel
theorem dX7_well_35 : decode cX7_well 35 = .ok (.aload_n 0, 1) := by decide +kernel
theorem dX7_well_36 : decode cX7_well 36 = .ok (.getfield 30, 3) := by decide +kernel
theorem dX7_well_39 : decode cX7_well 39 = .ok (.aload_n 0, 1) := by decide +kernel
theorem dX7_well_40 : decode cX7_well 40 = .ok (.getfield 17, 3) := by decide +kernel
theorem dX7_well_43 : decode cX7_well 43 = .ok (.invokevirtual 49, 3) := by decide +kernel
theorem dX7_well_46 : decode cX7_well 46 = .ok (.aload_n 2, 1) := by decide +kernel
theorem dX7_well_47 : decode cX7_well 47 = .ok (.iconst 0, 1) := by decide +kernel
theorem dX7_well_48 : decode cX7_well 48 = .ok (.putfield 130, 3) := by decide +kernel
theorem dX7_well_51 : decode cX7_well 51 = .ok (.iload_n 3, 1) := by decide +kernel
theorem dX7_well_52 : decode cX7_well 52 = .ok (.ireturn, 1) := by decide +kernel
set_option maxRecDepth 20000 in
theorem wf_X7_130 : Cond.fieldLink RX7 130 RX3 "sickUntil" "I" ∈ zB := List.mem_filter.mpr ⟨List.mem_of_getElem? (i := 174) (by decide +kernel), by decide +kernel⟩
theorem q_X7_130 : zFld RX7 130 3 1 := ⟨RX3, TX3, 3, rfl, by decide, iX3, wf_X7_130, rfl⟩
set_option maxRecDepth 20000 in
theorem wf_X7_133 : Cond.fieldLink RX7 133 RX5 "now" "I" ∈ zB := List.mem_filter.mpr ⟨List.mem_of_getElem? (i := 203) (by decide +kernel), by decide +kernel⟩
theorem q_X7_133 : zFld RX7 133 5 2 := ⟨RX5, TX5, 8, rfl, by decide, iX5, wf_X7_133, rfl⟩
theorem p_X7_130 : zPut RX7 130 3 1 false .int := ⟨RX3, TX3, 3, tyX3, rfl, by decide, iX3, wf_X7_130, rfl, tyX3_ok, nmX3, rfl, by decide +kernel, fun q => by cases q⟩
def rm_X7_well : Room := { frames := 4, cells := 0, slots := 0, locals := 104 }
set_option maxHeartbeats 4000000 in
set_option maxRecDepth 20000 in
theorem t_X7_well {p : Program} {l : Launch} {e : Env} {s : State} {m : MethodId} {args : Array Value} {below : List Frame} {meth : Method} {c : Code} {G : zG} (Z : zF p s m args c meth cX7_well 4 RX7 G) (hr : meth.sig.returnType = (some .int)) {out : Int32 × zHp} {a0 : Nat} {a1 : Int32} {h : zHp} {H : Heap} {locs : List Loc} {ls : Array Slot} (hf : f_X7_well a0 a1 h = some out) (E : zE G s h H locs) (hl : lv_has ls 4 [(0, .ref a0), (1, .int a1)]) : W p l e rm_X7_well s m args below meth c H locs 0 0 (MQ below (zQi G out.1 out.2) args s 0 0 (zA G)) (F0 m 0 ls []) := by
  unfold f_X7_well at hf
  refine lv_aload_n Z.x Z.b dX7_well_0 rfl (lv_at hl 0 rfl) ?_
  refine z_getR Z E q_X7_17 dX7_well_1 hf (fun v1 hf => ?_)
  refine lv_iload_n Z.x Z.b dX7_well_4 rfl (lv_at hl 1 rfl) ?_
  refine z_Vq (As := [.int a1]) Z E hl.1 k_X7_99 v_X5_memberAt hf (fun r h' e => c_X5_memberAt l G h h' v1 a1 r e) rfl rfl (Nat.le_of_ble_eq_true rfl) (zRm_of rfl (Nat.zero_le _) (Nat.zero_le _)) dX7_well_5 (fun w2 h3 H locs hf E => ?_)
  refine z_astore_n (lv' := [(2, va_rf w2), (0, .ref a0), (1, .int a1)]) Z (x := w2) dX7_well_8 rfl hl (by decide) (by cases w2 <;> rfl) (fun ls hl => ?_)
  refine z_aload_n Z (x := w2) dX7_well_9 rfl (lv_at hl 0 rfl) ?_
  refine z_ifnonnull (tgt := 15) Z dX7_well_10 (by decide) hf (fun ex h9_10 => ?_) (fun v4 ex h9_10 => ?_)
  · subst ex
    have hf := h9_10
    refine lv_iconst (v := (-1)) Z.x Z.b dX7_well_13 (by decide) ?_
    exact z_iret Z E hr dX7_well_14 hf
  · subst ex
    have hf := h9_10
    refine lv_aload_n Z.x Z.b dX7_well_15 rfl (lv_at hl 0 rfl) ?_
    refine z_getI Z E q_X7_130 dX7_well_16 hf (fun v5 hf => ?_)
    refine lv_aload_n Z.x Z.b dX7_well_19 rfl (lv_at hl 1 rfl) ?_
    refine z_getR Z E q_X7_17 dX7_well_20 hf (fun v6 hf => ?_)
    refine z_getI Z E q_X7_133 dX7_well_23 hf (fun v7 hf => ?_)
    refine lv_isub Z.x Z.b dX7_well_26 ?_
    refine lv_istore_n (lv' := [(3, .int (v5 - v7)), (2, .ref v4), (0, .ref a0), (1, .int a1)]) Z.x Z.b dX7_well_27 rfl hl (by decide) rfl (fun ls hl => ?_)
    refine lv_iload_n Z.x Z.b dX7_well_28 rfl (lv_at hl 0 rfl) ?_
    refine lv_if_gt (tgt := 35) Z.x Z.b dX7_well_29 (by decide) (fun c => ?_) (fun c => ?_)
    · have hf := zit hf c
      refine lv_aload_n Z.x Z.b dX7_well_35 rfl (lv_at hl 2 rfl) ?_
      refine z_getR Z E q_X7_30 dX7_well_36 hf (fun v8 hf => ?_)
      refine lv_aload_n Z.x Z.b dX7_well_39 rfl (lv_at hl 2 rfl) ?_
      refine z_getR Z E q_X7_17 dX7_well_40 hf (fun v9 hf => ?_)
      refine z_Vv (As := [.ref v9]) Z E hl.1 k_X7_49 v_X1_record hf (fun h' e => c_X1_record l G h3 h' v8 v9 e) rfl rfl (Nat.le_of_ble_eq_true rfl) (zRm_of rfl (Nat.zero_le _) (Nat.zero_le _)) dX7_well_43 (fun h10 H locs hf E => ?_)
      refine lv_aload_n Z.x Z.b dX7_well_46 rfl (lv_at hl 1 rfl) ?_
      refine lv_iconst (v := 0) Z.x Z.b dX7_well_47 (by decide) ?_
      refine z_put Z E p_X7_130 rfl rfl dX7_well_48 hf (fun h11 H locs hf E => ?_)
      refine lv_iload_n Z.x Z.b dX7_well_51 rfl (lv_at hl 0 rfl) ?_
      exact z_iret Z E hr dX7_well_52 hf
    · have hf := zif_ hf c
      refine lv_bipush (v := (-5)) Z.x Z.b dX7_well_32 (by decide) ?_
      exact z_iret Z E hr dX7_well_34 hf
set_option maxHeartbeats 4000000 in
set_option maxRecDepth 20000 in
theorem c_X7_well (l : Launch) (G : zG) (h : zHp) (h' : zHp) (a0 : Nat) (a1 : Int32) (r : Int32) (hf : f_X7_well a0 a1 h = some (r, h')) : zM0 l yX7_well cX7_well 4 (some .int) rm_X7_well G [.ref a0, .int a1] h (zQi G r h') := by
  refine Met.ofW (cc := cX7_well) (maxL := 4) (ret := (some .int)) (by decide) rfl ?_
  intro p e s m args below meth c s₁ B hml hv
  obtain ⟨rfl, hW⟩ := hv
  obtain ⟨Z, E, hr⟩ := zEnter (own := RX7) B hml rfl hW
  have hl := lv_entry ([.ref a0, .int a1]) (n := 4) (Nat.le_of_ble_eq_true rfl)
  rw [lg_entry_eq]
  generalize (lg_sl ([.ref a0, .int a1]) ++ List.replicate (4 - (lg_sl ([.ref a0, .int a1])).length) Slot.unset).toArray = ls at hl ⊢
  have hl : lv_has ls 4 [(0, .ref a0), (1, .int a1)] := hl
  exact t_X7_well (out := (r, h')) Z hr hf E hl
/-! FerryCrews.give(III)I -/
theorem dX7_give_0 : decode cX7_give 0 = .ok (.aload_n 0, 1) := by decide +kernel
theorem dX7_give_1 : decode cX7_give 1 = .ok (.getfield 17, 3) := by decide +kernel
theorem dX7_give_4 : decode cX7_give 4 = .ok (.iload_n 2, 1) := by decide +kernel
theorem dX7_give_5 : decode cX7_give 5 = .ok (.invokevirtual 71, 3) := by decide +kernel
theorem dX7_give_8 : decode cX7_give 8 = .ok (.astore 4, 2) := by decide +kernel
theorem dX7_give_10 : decode cX7_give 10 = .ok (.aload_n 0, 1) := by decide +kernel
theorem dX7_give_11 : decode cX7_give 11 = .ok (.getfield 17, 3) := by decide +kernel
theorem dX7_give_14 : decode cX7_give 14 = .ok (.iload_n 1, 1) := by decide +kernel
theorem dX7_give_15 : decode cX7_give 15 = .ok (.invokevirtual 99, 3) := by decide +kernel
theorem dX7_give_18 : decode cX7_give 18 = .ok (.ifnull 15, 3) := by decide +kernel
theorem dX7_give_21 : decode cX7_give 21 = .ok (.aload 4, 2) := by decide +kernel
theorem dX7_give_23 : decode cX7_give 23 = .ok (.ifnull 10, 3) := by decide +kernel
theorem dX7_give_26 : decode cX7_give 26 = .ok (.iload_n 3, 1) := by decide +kernel
theorem dX7_give_27 : decode cX7_give 27 = .ok (.invokestatic 84, 3) := by decide +kernel
theorem dX7_give_30 : decode cX7_give 30 = .ok (.ifCond .ne 5, 3) := by decide +kernel
theorem dX7_give_33 : decode cX7_give 33 = .ok (.iconst (-1), 1) := by decide +kernel
theorem dX7_give_34 : decode cX7_give 34 = .ok (.ireturn, 1) := by decide +kernel
theorem dX7_give_35 : decode cX7_give 35 = .ok (.aload_n 0, 1) := by decide +kernel
theorem dX7_give_36 : decode cX7_give 36 = .ok (.getfield 17, 3) := by decide +kernel
theorem dX7_give_39 : decode cX7_give 39 = .ok (.iload_n 1, 1) := by decide +kernel
theorem dX7_give_40 : decode cX7_give 40 = .ok (.aload 4, 2) := by decide +kernel
theorem dX7_give_42 : decode cX7_give 42 = .ok (.iload_n 3, 1) := by decide +kernel
theorem dX7_give_43 : decode cX7_give 43 = .ok (.invokevirtual 136, 3) := by decide +kernel
theorem dX7_give_46 : decode cX7_give 46 = .ok (.istore 5, 2) := by decide +kernel
theorem dX7_give_48 : decode cX7_give 48 = .ok (.iload 5, 2) := by decide +kernel
theorem dX7_give_50 : decode cX7_give 50 = .ok (.ifCond .eq 6, 3) := by decide +kernel
theorem dX7_give_53 : decode cX7_give 53 = .ok (.iload 5, 2) := by decide +kernel
theorem dX7_give_55 : decode cX7_give 55 = .ok (.ireturn, 1) := by decide +kernel
theorem dX7_give_56 : decode cX7_give 56 = .ok (.aload_n 0, 1) := by decide +kernel
theorem dX7_give_57 : decode cX7_give 57 = .ok (.getfield 30, 3) := by decide +kernel
theorem dX7_give_60 : decode cX7_give 60 = .ok (.aload_n 0, 1) := by decide +kernel
theorem dX7_give_61 : decode cX7_give 61 = .ok (.getfield 17, 3) := by decide +kernel
theorem dX7_give_64 : decode cX7_give 64 = .ok (.invokevirtual 49, 3) := by decide +kernel
theorem dX7_give_67 : decode cX7_give 67 = .ok (.aload 4, 2) := by decide +kernel
theorem dX7_give_69 : decode cX7_give 69 = .ok (.iload_n 1, 1) := by decide +kernel
theorem dX7_give_70 : decode cX7_give 70 = .ok (.iload_n 3, 1) := by decide +kernel
theorem dX7_give_71 : decode cX7_give 71 = .ok (.invokevirtual 140, 3) := by decide +kernel
theorem dX7_give_74 : decode cX7_give 74 = .ok (.iconst 0, 1) := by decide +kernel
theorem dX7_give_75 : decode cX7_give 75 = .ok (.ireturn, 1) := by decide +kernel
set_option maxRecDepth 20000 in
theorem wm_X7_136 : Cond.methodLink RX7 136 yX5_reasonAgainst ∈ zB := List.mem_filter.mpr ⟨List.mem_of_getElem? (i := 582) (by decide +kernel), by decide +kernel⟩
theorem k_X7_136 : zCal RX7 136 yX5_reasonAgainst cX5_reasonAgainst 6 (some .int) 3 := ⟨wm_X7_136, wi_X5, wc_X5_reasonAgainst, by decide +kernel, by decide +kernel, by decide +kernel⟩
set_option maxRecDepth 20000 in
theorem wm_X7_140 : Cond.methodLink RX7 140 yX4_seat ∈ zB := List.mem_filter.mpr ⟨List.mem_of_getElem? (i := 583) (by decide +kernel), by decide +kernel⟩
theorem k_X7_140 : zCal RX7 140 yX4_seat cX4_seat 3 none 2 := ⟨wm_X7_140, wi_X4, wc_X4_seat, by decide +kernel, by decide +kernel, by decide +kernel⟩
def rm_X7_give : Room := { frames := 5, cells := 0, slots := 0, locals := 113 }
set_option maxHeartbeats 4000000 in
set_option maxRecDepth 20000 in
theorem t_X7_give {p : Program} {l : Launch} {e : Env} {s : State} {m : MethodId} {args : Array Value} {below : List Frame} {meth : Method} {c : Code} {G : zG} (Z : zF p s m args c meth cX7_give 6 RX7 G) (hr : meth.sig.returnType = (some .int)) {out : Int32 × zHp} {a0 : Nat} {a1 : Int32} {a2 : Int32} {a3 : Int32} {h : zHp} {H : Heap} {locs : List Loc} {ls : Array Slot} (hf : f_X7_give a0 a1 a2 a3 h = some out) (E : zE G s h H locs) (hl : lv_has ls 6 [(0, .ref a0), (1, .int a1), (2, .int a2), (3, .int a3)]) : W p l e rm_X7_give s m args below meth c H locs 0 0 (MQ below (zQi G out.1 out.2) args s 0 0 (zA G)) (F0 m 0 ls []) := by
  unfold f_X7_give at hf
  refine lv_aload_n Z.x Z.b dX7_give_0 rfl (lv_at hl 0 rfl) ?_
  refine z_getR Z E q_X7_17 dX7_give_1 hf (fun v1 hf => ?_)
  refine lv_iload_n Z.x Z.b dX7_give_4 rfl (lv_at hl 2 rfl) ?_
  refine z_Vq (As := [.int a2]) Z E hl.1 k_X7_71 v_X5_sailingAt hf (fun r h' e => c_X5_sailingAt l G h h' v1 a2 r e) rfl rfl (Nat.le_of_ble_eq_true rfl) (zRm_of rfl (Nat.zero_le _) (Nat.zero_le _)) dX7_give_5 (fun w2 h3 H locs hf E => ?_)
  refine z_astore (lv' := [(4, va_rf w2), (0, .ref a0), (1, .int a1), (2, .int a2), (3, .int a3)]) Z (x := w2) dX7_give_8 hl (by decide) (by cases w2 <;> rfl) (fun ls hl => ?_)
  refine lv_aload_n Z.x Z.b dX7_give_10 rfl (lv_at hl 1 rfl) ?_
  refine z_getR Z E q_X7_17 dX7_give_11 hf (fun v4 hf => ?_)
  refine lv_iload_n Z.x Z.b dX7_give_14 rfl (lv_at hl 2 rfl) ?_
  refine z_Vq (As := [.int a1]) Z E hl.1 k_X7_99 v_X5_memberAt hf (fun r h' e => c_X5_memberAt l G h3 h' v4 a1 r e) rfl rfl (Nat.le_of_ble_eq_true rfl) (zRm_of rfl (Nat.zero_le _) (Nat.zero_le _)) dX7_give_15 (fun w5 h6 H locs hf E => ?_)
  refine z_ifnull (tgt := 33) Z dX7_give_18 (by decide) hf (fun ex h9_18 => ?_) (fun v7 ex h9_18 => ?_)
  · subst ex
    have hf := h9_18
    refine lv_iconst (v := (-1)) Z.x Z.b dX7_give_33 (by decide) ?_
    exact z_iret Z E hr dX7_give_34 hf
  · subst ex
    have hf := h9_18
    refine z_aload Z (x := w2) dX7_give_21 (lv_at hl 0 rfl) ?_
    refine z_ifnull (tgt := 33) Z dX7_give_23 (by decide) hf (fun ex h9_23 => ?_) (fun v8 ex h9_23 => ?_)
    · subst ex
      have hf := h9_23
      refine lv_iconst (v := (-1)) Z.x Z.b dX7_give_33 (by decide) ?_
      exact z_iret Z E hr dX7_give_34 hf
    · subst ex
      have hf := h9_23
      refine lv_iload_n Z.x Z.b dX7_give_26 rfl (lv_at hl 4 rfl) ?_
      refine z_Si (As := [.int a3]) Z E hl.1 k_X7_84 wt_X7_isRole hf (fun r h' e => c_X7_isRole l G h6 h' a3 r e) rfl rfl (Nat.le_of_ble_eq_true rfl) (zRm_of rfl (Nat.zero_le _) (Nat.zero_le _)) dX7_give_27 (fun v9 h10 H locs hf E => ?_)
      refine lv_if_ne (tgt := 35) Z.x Z.b dX7_give_30 (by decide) (fun c => ?_) (fun c => ?_)
      · have hf := zif_ hf c
        refine lv_aload_n Z.x Z.b dX7_give_35 rfl (lv_at hl 1 rfl) ?_
        refine z_getR Z E q_X7_17 dX7_give_36 hf (fun v11 hf => ?_)
        refine lv_iload_n Z.x Z.b dX7_give_39 rfl (lv_at hl 2 rfl) ?_
        refine lv_aload Z.x Z.b dX7_give_40 (lv_at hl 0 rfl) ?_
        refine lv_iload_n Z.x Z.b dX7_give_42 rfl (lv_at hl 4 rfl) ?_
        refine z_Vi (As := [.int a1, .ref v8, .int a3]) Z E hl.1 k_X7_136 v_X5_reasonAgainst hf (fun r h' e => c_X5_reasonAgainst l G h10 h' v11 a1 v8 a3 r e) rfl rfl (Nat.le_of_ble_eq_true rfl) (zRm_of rfl (Nat.zero_le _) (Nat.zero_le _)) dX7_give_43 (fun v12 h13 H locs hf E => ?_)
        refine lv_istore (lv' := [(5, .int v12), (4, .ref v8), (0, .ref a0), (1, .int a1), (2, .int a2), (3, .int a3)]) Z.x Z.b dX7_give_46 hl (by decide) rfl (fun ls hl => ?_)
        refine lv_iload Z.x Z.b dX7_give_48 (lv_at hl 0 rfl) ?_
        refine lv_if_eq (tgt := 56) Z.x Z.b dX7_give_50 (by decide) (fun c => ?_) (fun c => ?_)
        · have hf := zit hf c
          refine lv_aload_n Z.x Z.b dX7_give_56 rfl (lv_at hl 2 rfl) ?_
          refine z_getR Z E q_X7_30 dX7_give_57 hf (fun v14 hf => ?_)
          refine lv_aload_n Z.x Z.b dX7_give_60 rfl (lv_at hl 2 rfl) ?_
          refine z_getR Z E q_X7_17 dX7_give_61 hf (fun v15 hf => ?_)
          refine z_Vv (As := [.ref v15]) Z E hl.1 k_X7_49 v_X1_record hf (fun h' e => c_X1_record l G h13 h' v14 v15 e) rfl rfl (Nat.le_of_ble_eq_true rfl) (zRm_of rfl (Nat.zero_le _) (Nat.zero_le _)) dX7_give_64 (fun h16 H locs hf E => ?_)
          refine lv_aload Z.x Z.b dX7_give_67 (lv_at hl 1 rfl) ?_
          refine lv_iload_n Z.x Z.b dX7_give_69 rfl (lv_at hl 3 rfl) ?_
          refine lv_iload_n Z.x Z.b dX7_give_70 rfl (lv_at hl 5 rfl) ?_
          refine z_Vv (As := [.int a1, .int a3]) Z E hl.1 k_X7_140 v_X4_seat hf (fun h' e => c_X4_seat l G h16 h' v8 a1 a3 e) rfl rfl (Nat.le_of_ble_eq_true rfl) (zRm_of rfl (Nat.zero_le _) (Nat.zero_le _)) dX7_give_71 (fun h17 H locs hf E => ?_)
          refine lv_iconst (v := 0) Z.x Z.b dX7_give_74 (by decide) ?_
          exact z_iret Z E hr dX7_give_75 hf
        · have hf := zif_ hf c
          refine lv_iload Z.x Z.b dX7_give_53 (lv_at hl 0 rfl) ?_
          exact z_iret Z E hr dX7_give_55 hf
      · have hf := zit hf c
        refine lv_iconst (v := (-1)) Z.x Z.b dX7_give_33 (by decide) ?_
        exact z_iret Z E hr dX7_give_34 hf
set_option maxHeartbeats 4000000 in
set_option maxRecDepth 20000 in
theorem c_X7_give (l : Launch) (G : zG) (h : zHp) (h' : zHp) (a0 : Nat) (a1 : Int32) (a2 : Int32) (a3 : Int32) (r : Int32) (hf : f_X7_give a0 a1 a2 a3 h = some (r, h')) : zM0 l yX7_give cX7_give 6 (some .int) rm_X7_give G [.ref a0, .int a1, .int a2, .int a3] h (zQi G r h') := by
  refine Met.ofW (cc := cX7_give) (maxL := 6) (ret := (some .int)) (by decide) rfl ?_
  intro p e s m args below meth c s₁ B hml hv
  obtain ⟨rfl, hW⟩ := hv
  obtain ⟨Z, E, hr⟩ := zEnter (own := RX7) B hml rfl hW
  have hl := lv_entry ([.ref a0, .int a1, .int a2, .int a3]) (n := 6) (Nat.le_of_ble_eq_true rfl)
  rw [lg_entry_eq]
  generalize (lg_sl ([.ref a0, .int a1, .int a2, .int a3]) ++ List.replicate (6 - (lg_sl ([.ref a0, .int a1, .int a2, .int a3])).length) Slot.unset).toArray = ls at hl ⊢
  have hl : lv_has ls 6 [(0, .ref a0), (1, .int a1), (2, .int a2), (3, .int a3)] := hl
  exact t_X7_give (out := (r, h')) Z hr hf E hl
/-! FerryCrews.giveUp(II)I -/
theorem dX7_giveUp_0 : decode cX7_giveUp 0 = .ok (.aload_n 0, 1) := by decide +kernel
theorem dX7_giveUp_1 : decode cX7_giveUp 1 = .ok (.getfield 17, 3) := by decide +kernel
theorem dX7_giveUp_4 : decode cX7_giveUp 4 = .ok (.iload_n 2, 1) := by decide +kernel
theorem dX7_giveUp_5 : decode cX7_giveUp 5 = .ok (.invokevirtual 71, 3) := by decide +kernel
theorem dX7_giveUp_8 : decode cX7_giveUp 8 = .ok (.astore_n 3, 1) := by decide +kernel
theorem dX7_giveUp_9 : decode cX7_giveUp 9 = .ok (.aload_n 0, 1) := by decide +kernel
theorem dX7_giveUp_10 : decode cX7_giveUp 10 = .ok (.getfield 17, 3) := by decide +kernel
theorem dX7_giveUp_13 : decode cX7_giveUp 13 = .ok (.iload_n 1, 1) := by decide +kernel
theorem dX7_giveUp_14 : decode cX7_giveUp 14 = .ok (.invokevirtual 99, 3) := by decide +kernel
theorem dX7_giveUp_17 : decode cX7_giveUp 17 = .ok (.ifnull 7, 3) := by decide +kernel
theorem dX7_giveUp_20 : decode cX7_giveUp 20 = .ok (.aload_n 3, 1) := by decide +kernel
theorem dX7_giveUp_21 : decode cX7_giveUp 21 = .ok (.ifnonnull 5, 3) := by decide +kernel
theorem dX7_giveUp_24 : decode cX7_giveUp 24 = .ok (.iconst (-1), 1) := by decide +kernel
theorem dX7_giveUp_25 : decode cX7_giveUp 25 = .ok (.ireturn, 1) := by decide +kernel
theorem dX7_giveUp_26 : decode cX7_giveUp 26 = .ok (.aload_n 3, 1) := by decide +kernel
theorem dX7_giveUp_27 : decode cX7_giveUp 27 = .ok (.invokevirtual 75, 3) := by decide +kernel
theorem dX7_giveUp_30 : decode cX7_giveUp 30 = .ok (.ifCond .ne 6, 3) := by decide +kernel
theorem dX7_giveUp_33 : decode cX7_giveUp 33 = .ok (.bipush (-4), 2) := by decide +kernel
theorem dX7_giveUp_35 : decode cX7_giveUp 35 = .ok (.ireturn, 1) := by decide +kernel
theorem dX7_giveUp_36 : decode cX7_giveUp 36 = .ok (.aload_n 3, 1) := by decide +kernel
theorem dX7_giveUp_37 : decode cX7_giveUp 37 = .ok (.iload_n 1, 1) := by decide +kernel
theorem dX7_giveUp_38 : decode cX7_giveUp 38 = .ok (.invokevirtual 144, 3) := by decide +kernel
theorem dX7_giveUp_41 : decode cX7_giveUp 41 = .ok (.ifCond .ne 6, 3) := by decide +kernel
theorem dX7_giveUp_44 : decode cX7_giveUp 44 = .ok (.bipush (-5), 2) := by decide +kernel
theorem dX7_giveUp_46 : decode cX7_giveUp 46 = .ok (.ireturn, 1) := by decide +kernel
theorem dX7_giveUp_47 : decode cX7_giveUp 47 = .ok (.aload_n 0, 1) := by decide +kernel
theorem dX7_giveUp_48 : decode cX7_giveUp 48 = .ok (.getfield 30, 3) := by decide +kernel
theorem dX7_giveUp_51 : decode cX7_giveUp 51 = .ok (.aload_n 0, 1) := by decide +kernel
theorem dX7_giveUp_52 : decode cX7_giveUp 52 = .ok (.getfield 17, 3) := by decide +kernel
theorem dX7_giveUp_55 : decode cX7_giveUp 55 = .ok (.invokevirtual 49, 3) := by decide +kernel
theorem dX7_giveUp_58 : decode cX7_giveUp 58 = .ok (.aload_n 3, 1) := by decide +kernel
theorem dX7_giveUp_59 : decode cX7_giveUp 59 = .ok (.iload_n 1, 1) := by decide +kernel
theorem dX7_giveUp_60 : decode cX7_giveUp 60 = .ok (.invokevirtual 147, 3) := by decide +kernel
theorem dX7_giveUp_63 : decode cX7_giveUp 63 = .ok (.ireturn, 1) := by decide +kernel
set_option maxRecDepth 20000 in
theorem wm_X7_144 : Cond.methodLink RX7 144 yX4_seats ∈ zB := List.mem_filter.mpr ⟨List.mem_of_getElem? (i := 588) (by decide +kernel), by decide +kernel⟩
theorem k_X7_144 : zCal RX7 144 yX4_seats cX4_seats 2 (some .boolean) 1 := ⟨wm_X7_144, wi_X4, wc_X4_seats, by decide +kernel, by decide +kernel, by decide +kernel⟩
set_option maxRecDepth 20000 in
theorem wm_X7_147 : Cond.methodLink RX7 147 yX4_unseat ∈ zB := List.mem_filter.mpr ⟨List.mem_of_getElem? (i := 589) (by decide +kernel), by decide +kernel⟩
theorem k_X7_147 : zCal RX7 147 yX4_unseat cX4_unseat 3 (some .int) 1 := ⟨wm_X7_147, wi_X4, wc_X4_unseat, by decide +kernel, by decide +kernel, by decide +kernel⟩
def rm_X7_giveUp : Room := { frames := 4, cells := 0, slots := 0, locals := 104 }
set_option maxHeartbeats 4000000 in
set_option maxRecDepth 20000 in
theorem t_X7_giveUp {p : Program} {l : Launch} {e : Env} {s : State} {m : MethodId} {args : Array Value} {below : List Frame} {meth : Method} {c : Code} {G : zG} (Z : zF p s m args c meth cX7_giveUp 4 RX7 G) (hr : meth.sig.returnType = (some .int)) {out : Int32 × zHp} {a0 : Nat} {a1 : Int32} {a2 : Int32} {h : zHp} {H : Heap} {locs : List Loc} {ls : Array Slot} (hf : f_X7_giveUp a0 a1 a2 h = some out) (E : zE G s h H locs) (hl : lv_has ls 4 [(0, .ref a0), (1, .int a1), (2, .int a2)]) : W p l e rm_X7_giveUp s m args below meth c H locs 0 0 (MQ below (zQi G out.1 out.2) args s 0 0 (zA G)) (F0 m 0 ls []) := by
  unfold f_X7_giveUp at hf
  refine lv_aload_n Z.x Z.b dX7_giveUp_0 rfl (lv_at hl 0 rfl) ?_
  refine z_getR Z E q_X7_17 dX7_giveUp_1 hf (fun v1 hf => ?_)
  refine lv_iload_n Z.x Z.b dX7_giveUp_4 rfl (lv_at hl 2 rfl) ?_
  refine z_Vq (As := [.int a2]) Z E hl.1 k_X7_71 v_X5_sailingAt hf (fun r h' e => c_X5_sailingAt l G h h' v1 a2 r e) rfl rfl (Nat.le_of_ble_eq_true rfl) (zRm_of rfl (Nat.zero_le _) (Nat.zero_le _)) dX7_giveUp_5 (fun w2 h3 H locs hf E => ?_)
  refine z_astore_n (lv' := [(3, va_rf w2), (0, .ref a0), (1, .int a1), (2, .int a2)]) Z (x := w2) dX7_giveUp_8 rfl hl (by decide) (by cases w2 <;> rfl) (fun ls hl => ?_)
  refine lv_aload_n Z.x Z.b dX7_giveUp_9 rfl (lv_at hl 1 rfl) ?_
  refine z_getR Z E q_X7_17 dX7_giveUp_10 hf (fun v4 hf => ?_)
  refine lv_iload_n Z.x Z.b dX7_giveUp_13 rfl (lv_at hl 2 rfl) ?_
  refine z_Vq (As := [.int a1]) Z E hl.1 k_X7_99 v_X5_memberAt hf (fun r h' e => c_X5_memberAt l G h3 h' v4 a1 r e) rfl rfl (Nat.le_of_ble_eq_true rfl) (zRm_of rfl (Nat.zero_le _) (Nat.zero_le _)) dX7_giveUp_14 (fun w5 h6 H locs hf E => ?_)
  refine z_ifnull (tgt := 24) Z dX7_giveUp_17 (by decide) hf (fun ex h9_17 => ?_) (fun v7 ex h9_17 => ?_)
  · subst ex
    have hf := h9_17
    refine lv_iconst (v := (-1)) Z.x Z.b dX7_giveUp_24 (by decide) ?_
    exact z_iret Z E hr dX7_giveUp_25 hf
  · subst ex
    have hf := h9_17
    refine z_aload_n Z (x := w2) dX7_giveUp_20 rfl (lv_at hl 0 rfl) ?_
    refine z_ifnonnull (tgt := 26) Z dX7_giveUp_21 (by decide) hf (fun ex h9_21 => ?_) (fun v8 ex h9_21 => ?_)
    · subst ex
      have hf := h9_21
      refine lv_iconst (v := (-1)) Z.x Z.b dX7_giveUp_24 (by decide) ?_
      exact z_iret Z E hr dX7_giveUp_25 hf
    · subst ex
      have hf := h9_21
      refine lv_aload_n Z.x Z.b dX7_giveUp_26 rfl (lv_at hl 0 rfl) ?_
      refine z_Vi (As := []) Z E hl.1 k_X7_75 v_X4_isOpen hf (fun r h' e => c_X4_isOpen l G h6 h' v8 r e) rfl rfl (Nat.le_of_ble_eq_true rfl) (zRm_of rfl (Nat.zero_le _) (Nat.zero_le _)) dX7_giveUp_27 (fun v9 h10 H locs hf E => ?_)
      refine lv_if_ne (tgt := 36) Z.x Z.b dX7_giveUp_30 (by decide) (fun c => ?_) (fun c => ?_)
      · have hf := zif_ hf c
        refine lv_aload_n Z.x Z.b dX7_giveUp_36 rfl (lv_at hl 0 rfl) ?_
        refine lv_iload_n Z.x Z.b dX7_giveUp_37 rfl (lv_at hl 2 rfl) ?_
        refine z_Vi (As := [.int a1]) Z E hl.1 k_X7_144 v_X4_seats hf (fun r h' e => c_X4_seats l G h10 h' v8 a1 r e) rfl rfl (Nat.le_of_ble_eq_true rfl) (zRm_of rfl (Nat.zero_le _) (Nat.zero_le _)) dX7_giveUp_38 (fun v11 h12 H locs hf E => ?_)
        refine lv_if_ne (tgt := 47) Z.x Z.b dX7_giveUp_41 (by decide) (fun c => ?_) (fun c => ?_)
        · have hf := zif_ hf c
          refine lv_aload_n Z.x Z.b dX7_giveUp_47 rfl (lv_at hl 1 rfl) ?_
          refine z_getR Z E q_X7_30 dX7_giveUp_48 hf (fun v13 hf => ?_)
          refine lv_aload_n Z.x Z.b dX7_giveUp_51 rfl (lv_at hl 1 rfl) ?_
          refine z_getR Z E q_X7_17 dX7_giveUp_52 hf (fun v14 hf => ?_)
          refine z_Vv (As := [.ref v14]) Z E hl.1 k_X7_49 v_X1_record hf (fun h' e => c_X1_record l G h12 h' v13 v14 e) rfl rfl (Nat.le_of_ble_eq_true rfl) (zRm_of rfl (Nat.zero_le _) (Nat.zero_le _)) dX7_giveUp_55 (fun h15 H locs hf E => ?_)
          refine lv_aload_n Z.x Z.b dX7_giveUp_58 rfl (lv_at hl 0 rfl) ?_
          refine lv_iload_n Z.x Z.b dX7_giveUp_59 rfl (lv_at hl 2 rfl) ?_
          refine z_Vi (As := [.int a1]) Z E hl.1 k_X7_147 v_X4_unseat hf (fun r h' e => c_X4_unseat l G h15 h' v8 a1 r e) rfl rfl (Nat.le_of_ble_eq_true rfl) (zRm_of rfl (Nat.zero_le _) (Nat.zero_le _)) dX7_giveUp_60 (fun v16 h17 H locs hf E => ?_)
          exact z_iret Z E hr dX7_giveUp_63 hf
        · have hf := zit hf c
          refine lv_bipush (v := (-5)) Z.x Z.b dX7_giveUp_44 (by decide) ?_
          exact z_iret Z E hr dX7_giveUp_46 hf
      · have hf := zit hf c
        refine lv_bipush (v := (-4)) Z.x Z.b dX7_giveUp_33 (by decide) ?_
        exact z_iret Z E hr dX7_giveUp_35 hf
set_option maxHeartbeats 4000000 in
set_option maxRecDepth 20000 in
theorem c_X7_giveUp (l : Launch) (G : zG) (h : zHp) (h' : zHp) (a0 : Nat) (a1 : Int32) (a2 : Int32) (r : Int32) (hf : f_X7_giveUp a0 a1 a2 h = some (r, h')) : zM0 l yX7_giveUp cX7_giveUp 4 (some .int) rm_X7_giveUp G [.ref a0, .int a1, .int a2] h (zQi G r h') := by
  refine Met.ofW (cc := cX7_giveUp) (maxL := 4) (ret := (some .int)) (by decide) rfl ?_
  intro p e s m args below meth c s₁ B hml hv
  obtain ⟨rfl, hW⟩ := hv
  obtain ⟨Z, E, hr⟩ := zEnter (own := RX7) B hml rfl hW
  have hl := lv_entry ([.ref a0, .int a1, .int a2]) (n := 4) (Nat.le_of_ble_eq_true rfl)
  rw [lg_entry_eq]
  generalize (lg_sl ([.ref a0, .int a1, .int a2]) ++ List.replicate (4 - (lg_sl ([.ref a0, .int a1, .int a2])).length) Slot.unset).toArray = ls at hl ⊢
  have hl : lv_has ls 4 [(0, .ref a0), (1, .int a1), (2, .int a2)] := hl
  exact t_X7_giveUp (out := (r, h')) Z hr hf E hl
/-! FerryCrews.fill(I)I -/
theorem dX7_fill_0 : decode cX7_fill 0 = .ok (.aload_n 0, 1) := by decide +kernel
theorem dX7_fill_1 : decode cX7_fill 1 = .ok (.getfield 17, 3) := by decide +kernel
theorem dX7_fill_4 : decode cX7_fill 4 = .ok (.iload_n 1, 1) := by decide +kernel
theorem dX7_fill_5 : decode cX7_fill 5 = .ok (.invokevirtual 71, 3) := by decide +kernel
theorem dX7_fill_8 : decode cX7_fill 8 = .ok (.astore_n 2, 1) := by decide +kernel
theorem dX7_fill_9 : decode cX7_fill 9 = .ok (.aload_n 2, 1) := by decide +kernel
theorem dX7_fill_10 : decode cX7_fill 10 = .ok (.ifnonnull 5, 3) := by decide +kernel
theorem dX7_fill_13 : decode cX7_fill 13 = .ok (.iconst (-1), 1) := by decide +kernel
theorem dX7_fill_14 : decode cX7_fill 14 = .ok (.ireturn, 1) := by decide +kernel
theorem dX7_fill_15 : decode cX7_fill 15 = .ok (.aload_n 2, 1) := by decide +kernel
theorem dX7_fill_16 : decode cX7_fill 16 = .ok (.invokevirtual 75, 3) := by decide +kernel
theorem dX7_fill_19 : decode cX7_fill 19 = .ok (.ifCond .ne 6, 3) := by decide +kernel
theorem dX7_fill_22 : decode cX7_fill 22 = .ok (.bipush (-4), 2) := by decide +kernel
theorem dX7_fill_24 : decode cX7_fill 24 = .ok (.ireturn, 1) := by decide +kernel
theorem dX7_fill_25 : decode cX7_fill 25 = .ok (.aload_n 2, 1) := by decide +kernel
theorem dX7_fill_26 : decode cX7_fill 26 = .ok (.invokevirtual 150, 3) := by decide +kernel
theorem dX7_fill_29 : decode cX7_fill 29 = .ok (.ifCond .ne 6, 3) := by decide +kernel
theorem dX7_fill_32 : decode cX7_fill 32 = .ok (.bipush (-5), 2) := by decide +kernel
theorem dX7_fill_34 : decode cX7_fill 34 = .ok (.ireturn, 1) := by decide +kernel
theorem dX7_fill_35 : decode cX7_fill 35 = .ok (.aload_n 0, 1) := by decide +kernel
theorem dX7_fill_36 : decode cX7_fill 36 = .ok (.getfield 30, 3) := by decide +kernel
theorem dX7_fill_39 : decode cX7_fill 39 = .ok (.aload_n 0, 1) := by decide +kernel
theorem dX7_fill_40 : decode cX7_fill 40 = .ok (.getfield 17, 3) := by decide +kernel
theorem dX7_fill_43 : decode cX7_fill 43 = .ok (.invokevirtual 49, 3) := by decide +kernel
theorem dX7_fill_46 : decode cX7_fill 46 = .ok (.aload_n 0, 1) := by decide +kernel
theorem dX7_fill_47 : decode cX7_fill 47 = .ok (.getfield 17, 3) := by decide +kernel
theorem dX7_fill_50 : decode cX7_fill 50 = .ok (.aload_n 2, 1) := by decide +kernel
theorem dX7_fill_51 : decode cX7_fill 51 = .ok (.invokevirtual 153, 3) := by decide +kernel
theorem dX7_fill_54 : decode cX7_fill 54 = .ok (.ireturn, 1) := by decide +kernel
set_option maxRecDepth 20000 in
theorem wm_X7_150 : Cond.methodLink RX7 150 yX4_freePlaces ∈ zB := List.mem_filter.mpr ⟨List.mem_of_getElem? (i := 594) (by decide +kernel), by decide +kernel⟩
theorem k_X7_150 : zCal RX7 150 yX4_freePlaces cX4_freePlaces 1 (some .int) 0 := ⟨wm_X7_150, wi_X4, wc_X4_freePlaces, by decide +kernel, by decide +kernel, by decide +kernel⟩
set_option maxRecDepth 20000 in
theorem wc_X5_coverAllPlaces : Cond.code yX5_coverAllPlaces cX5_coverAllPlaces 4 (some .int) ∈ zB := List.mem_filter.mpr ⟨List.mem_of_getElem? (i := 605) (by decide +kernel), by decide +kernel⟩
set_option maxRecDepth 20000 in
theorem wm_X7_153 : Cond.methodLink RX7 153 yX5_coverAllPlaces ∈ zB := List.mem_filter.mpr ⟨List.mem_of_getElem? (i := 602) (by decide +kernel), by decide +kernel⟩
theorem k_X7_153 : zCal RX7 153 yX5_coverAllPlaces cX5_coverAllPlaces 4 (some .int) 1 := ⟨wm_X7_153, wi_X5, wc_X5_coverAllPlaces, by decide +kernel, by decide +kernel, by decide +kernel⟩
set_option maxRecDepth 20000 in
theorem wn_X5_coverAllPlaces : Cond.instanceMethod yX5_coverAllPlaces ∈ zB := List.mem_filter.mpr ⟨List.mem_of_getElem? (i := 603) (by decide +kernel), by decide +kernel⟩
set_option maxRecDepth 20000 in
theorem ws_X5_coverAllPlaces : Cond.selects RX5 yX5_coverAllPlaces yX5_coverAllPlaces ∈ zB := List.mem_filter.mpr ⟨List.mem_of_getElem? (i := 604) (by decide +kernel), by decide +kernel⟩
theorem v_X5_coverAllPlaces : zVir yX5_coverAllPlaces 5 := ⟨wn_X5_coverAllPlaces, ws_X5_coverAllPlaces, TX5, 8, rfl⟩
def rm_X7_fill : Room := { frames := 7, cells := 0, slots := 0, locals := 162 }
set_option maxHeartbeats 4000000 in
set_option maxRecDepth 20000 in
theorem t_X7_fill {p : Program} {l : Launch} {e : Env} {s : State} {m : MethodId} {args : Array Value} {below : List Frame} {meth : Method} {c : Code} {G : zG} (Z : zF p s m args c meth cX7_fill 3 RX7 G) (hr : meth.sig.returnType = (some .int)) {out : Int32 × zHp} {a0 : Nat} {a1 : Int32} {h : zHp} {H : Heap} {locs : List Loc} {ls : Array Slot} (hf : f_X7_fill a0 a1 h = some out) (E : zE G s h H locs) (hl : lv_has ls 3 [(0, .ref a0), (1, .int a1)]) : W p l e rm_X7_fill s m args below meth c H locs 0 0 (MQ below (zQi G out.1 out.2) args s 0 0 (zA G)) (F0 m 0 ls []) := by
  unfold f_X7_fill at hf
  refine lv_aload_n Z.x Z.b dX7_fill_0 rfl (lv_at hl 0 rfl) ?_
  refine z_getR Z E q_X7_17 dX7_fill_1 hf (fun v1 hf => ?_)
  refine lv_iload_n Z.x Z.b dX7_fill_4 rfl (lv_at hl 1 rfl) ?_
  refine z_Vq (As := [.int a1]) Z E hl.1 k_X7_71 v_X5_sailingAt hf (fun r h' e => c_X5_sailingAt l G h h' v1 a1 r e) rfl rfl (Nat.le_of_ble_eq_true rfl) (zRm_of rfl (Nat.zero_le _) (Nat.zero_le _)) dX7_fill_5 (fun w2 h3 H locs hf E => ?_)
  refine z_astore_n (lv' := [(2, va_rf w2), (0, .ref a0), (1, .int a1)]) Z (x := w2) dX7_fill_8 rfl hl (by decide) (by cases w2 <;> rfl) (fun ls hl => ?_)
  refine z_aload_n Z (x := w2) dX7_fill_9 rfl (lv_at hl 0 rfl) ?_
  refine z_ifnonnull (tgt := 15) Z dX7_fill_10 (by decide) hf (fun ex h9_10 => ?_) (fun v4 ex h9_10 => ?_)
  · subst ex
    have hf := h9_10
    refine lv_iconst (v := (-1)) Z.x Z.b dX7_fill_13 (by decide) ?_
    exact z_iret Z E hr dX7_fill_14 hf
  · subst ex
    have hf := h9_10
    refine lv_aload_n Z.x Z.b dX7_fill_15 rfl (lv_at hl 0 rfl) ?_
    refine z_Vi (As := []) Z E hl.1 k_X7_75 v_X4_isOpen hf (fun r h' e => c_X4_isOpen l G h3 h' v4 r e) rfl rfl (Nat.le_of_ble_eq_true rfl) (zRm_of rfl (Nat.zero_le _) (Nat.zero_le _)) dX7_fill_16 (fun v5 h6 H locs hf E => ?_)
    refine lv_if_ne (tgt := 25) Z.x Z.b dX7_fill_19 (by decide) (fun c => ?_) (fun c => ?_)
    · have hf := zif_ hf c
      refine lv_aload_n Z.x Z.b dX7_fill_25 rfl (lv_at hl 0 rfl) ?_
      refine z_Vi (As := []) Z E hl.1 k_X7_150 v_X4_freePlaces hf (fun r h' e => c_X4_freePlaces l G h6 h' v4 r e) rfl rfl (Nat.le_of_ble_eq_true rfl) (zRm_of rfl (Nat.zero_le _) (Nat.zero_le _)) dX7_fill_26 (fun v7 h8 H locs hf E => ?_)
      refine lv_if_ne (tgt := 35) Z.x Z.b dX7_fill_29 (by decide) (fun c => ?_) (fun c => ?_)
      · have hf := zif_ hf c
        refine lv_aload_n Z.x Z.b dX7_fill_35 rfl (lv_at hl 1 rfl) ?_
        refine z_getR Z E q_X7_30 dX7_fill_36 hf (fun v9 hf => ?_)
        refine lv_aload_n Z.x Z.b dX7_fill_39 rfl (lv_at hl 1 rfl) ?_
        refine z_getR Z E q_X7_17 dX7_fill_40 hf (fun v10 hf => ?_)
        refine z_Vv (As := [.ref v10]) Z E hl.1 k_X7_49 v_X1_record hf (fun h' e => c_X1_record l G h8 h' v9 v10 e) rfl rfl (Nat.le_of_ble_eq_true rfl) (zRm_of rfl (Nat.zero_le _) (Nat.zero_le _)) dX7_fill_43 (fun h11 H locs hf E => ?_)
        refine lv_aload_n Z.x Z.b dX7_fill_46 rfl (lv_at hl 1 rfl) ?_
        refine z_getR Z E q_X7_17 dX7_fill_47 hf (fun v12 hf => ?_)
        refine lv_aload_n Z.x Z.b dX7_fill_50 rfl (lv_at hl 0 rfl) ?_
        refine z_Vi (As := [.ref v4]) Z E hl.1 k_X7_153 v_X5_coverAllPlaces hf (fun r h' e => c_X5_coverAllPlaces l G h11 h' v12 v4 r e) rfl rfl (Nat.le_of_ble_eq_true rfl) (zRm_of rfl (Nat.zero_le _) (Nat.zero_le _)) dX7_fill_51 (fun v13 h14 H locs hf E => ?_)
        exact z_iret Z E hr dX7_fill_54 hf
      · have hf := zit hf c
        refine lv_bipush (v := (-5)) Z.x Z.b dX7_fill_32 (by decide) ?_
        exact z_iret Z E hr dX7_fill_34 hf
    · have hf := zit hf c
      refine lv_bipush (v := (-4)) Z.x Z.b dX7_fill_22 (by decide) ?_
      exact z_iret Z E hr dX7_fill_24 hf
set_option maxHeartbeats 4000000 in
set_option maxRecDepth 20000 in
theorem c_X7_fill (l : Launch) (G : zG) (h : zHp) (h' : zHp) (a0 : Nat) (a1 : Int32) (r : Int32) (hf : f_X7_fill a0 a1 h = some (r, h')) : zM0 l yX7_fill cX7_fill 3 (some .int) rm_X7_fill G [.ref a0, .int a1] h (zQi G r h') := by
  refine Met.ofW (cc := cX7_fill) (maxL := 3) (ret := (some .int)) (by decide) rfl ?_
  intro p e s m args below meth c s₁ B hml hv
  obtain ⟨rfl, hW⟩ := hv
  obtain ⟨Z, E, hr⟩ := zEnter (own := RX7) B hml rfl hW
  have hl := lv_entry ([.ref a0, .int a1]) (n := 3) (Nat.le_of_ble_eq_true rfl)
  rw [lg_entry_eq]
  generalize (lg_sl ([.ref a0, .int a1]) ++ List.replicate (3 - (lg_sl ([.ref a0, .int a1])).length) Slot.unset).toArray = ls at hl ⊢
  have hl : lv_has ls 3 [(0, .ref a0), (1, .int a1)] := hl
  exact t_X7_fill (out := (r, h')) Z hr hf E hl
