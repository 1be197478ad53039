/-! FerryCrews.<init>()V -/
theorem dX7_init_0 : decode cX7_init 0 = .ok (.aload_n 0, 1) := by decide +kernel
theorem dX7_init_1 : decode cX7_init 1 = .ok (.invokespecial 3, 3) := by decide +kernel
theorem dX7_init_4 : decode cX7_init 4 = .ok (.new 9, 3) := by decide +kernel
theorem dX7_init_7 : decode cX7_init 7 = .ok (.dup, 1) := by decide +kernel
theorem dX7_init_8 : decode cX7_init 8 = .ok (.invokespecial 11, 3) := by decide +kernel
theorem dX7_init_11 : decode cX7_init 11 = .ok (.astore_n 1, 1) := by decide +kernel
theorem dX7_init_12 : decode cX7_init 12 = .ok (.aload_n 0, 1) := by decide +kernel
theorem dX7_init_13 : decode cX7_init 13 = .ok (.new 12, 3) := by decide +kernel
theorem dX7_init_16 : decode cX7_init 16 = .ok (.dup, 1) := by decide +kernel
theorem dX7_init_17 : decode cX7_init 17 = .ok (.aload_n 1, 1) := by decide +kernel
theorem dX7_init_18 : decode cX7_init 18 = .ok (.invokespecial 14, 3) := by decide +kernel
theorem dX7_init_21 : decode cX7_init 21 = .ok (.putfield 17, 3) := by decide +kernel
theorem dX7_init_24 : decode cX7_init 24 = .ok (.aload_n 0, 1) := by decide +kernel
theorem dX7_init_25 : decode cX7_init 25 = .ok (.new 12, 3) := by decide +kernel
theorem dX7_init_28 : decode cX7_init 28 = .ok (.dup, 1) := by decide +kernel
theorem dX7_init_29 : decode cX7_init 29 = .ok (.aload_n 1, 1) := by decide +kernel
theorem dX7_init_30 : decode cX7_init 30 = .ok (.invokespecial 14, 3) := by decide +kernel
theorem dX7_init_33 : decode cX7_init 33 = .ok (.putfield 21, 3) := by decide +kernel
theorem dX7_init_36 : decode cX7_init 36 = .ok (.aload_n 0, 1) := by decide +kernel
theorem dX7_init_37 : decode cX7_init 37 = .ok (.new 12, 3) := by decide +kernel
theorem dX7_init_40 : decode cX7_init 40 = .ok (.dup, 1) := by decide +kernel
theorem dX7_init_41 : decode cX7_init 41 = .ok (.aload_n 1, 1) := by decide +kernel
theorem dX7_init_42 : decode cX7_init 42 = .ok (.invokespecial 14, 3) := by decide +kernel
theorem dX7_init_45 : decode cX7_init 45 = .ok (.putfield 24, 3) := by decide +kernel
theorem dX7_init_48 : decode cX7_init 48 = .ok (.aload_n 0, 1) := by decide +kernel
theorem dX7_init_49 : decode cX7_init 49 = .ok (.new 27, 3) := by decide +kernel
theorem dX7_init_52 : decode cX7_init 52 = .ok (.dup, 1) := by decide +kernel
theorem dX7_init_53 : decode cX7_init 53 = .ok (.aload_n 1, 1) := by decide +kernel
theorem dX7_init_54 : decode cX7_init 54 = .ok (.invokespecial 29, 3) := by decide +kernel
theorem dX7_init_57 : decode cX7_init 57 = .ok (.putfield 30, 3) := by decide +kernel
theorem dX7_init_60 : decode cX7_init 60 = .ok (.aload_n 0, 1) := by decide +kernel
theorem dX7_init_61 : decode cX7_init 61 = .ok (.new 34, 3) := by decide +kernel
theorem dX7_init_64 : decode cX7_init 64 = .ok (.dup, 1) := by decide +kernel
theorem dX7_init_65 : decode cX7_init 65 = .ok (.invokespecial 36, 3) := by decide +kernel
theorem dX7_init_68 : decode cX7_init 68 = .ok (.putfield 37, 3) := by decide +kernel
theorem dX7_init_71 : decode cX7_init 71 = .ok (.aload_n 0, 1) := by decide +kernel
theorem dX7_init_72 : decode cX7_init 72 = .ok (.iconst 0, 1) := by decide +kernel
theorem dX7_init_73 : decode cX7_init 73 = .ok (.putfield 41, 3) := by decide +kernel
theorem dX7_init_76 : decode cX7_init 76 = .ok (.return_, 1) := by decide +kernel
set_option maxRecDepth 20000 in
theorem wo_X7_3 : Cond.methodLink RX7 3 objectInit ∈ zB := List.mem_filter.mpr ⟨List.mem_of_getElem? (i := 22) (by decide +kernel), by decide +kernel⟩
set_option maxRecDepth 20000 in
theorem wk_X7_9 : Cond.classLink RX7 9 RX0 ∈ zB := List.mem_filter.mpr ⟨List.mem_of_getElem? (i := 25) (by decide +kernel), by decide +kernel⟩
set_option maxRecDepth 20000 in
theorem wa_X0 : Cond.instantiable RX0 4 ∈ zB := List.mem_filter.mpr ⟨List.mem_of_getElem? (i := 26) (by decide +kernel), by decide +kernel⟩
set_option maxRecDepth 20000 in
theorem wc_X0_init : Cond.code yX0_init cX0_init 1 none ∈ zB := List.mem_filter.mpr ⟨List.mem_of_getElem? (i := 29) (by decide +kernel), by decide +kernel⟩
set_option maxRecDepth 20000 in
theorem k_X7_11 : zCalN RX7 11 yX0_init "FerryCrews" cX0_init 1 none 0 := ⟨List.mem_of_getElem? (i := 27) (by decide +kernel), wi_X0, wc_X0_init, by decide +kernel, by decide +kernel, by decide +kernel⟩
set_option maxRecDepth 20000 in
theorem wn_X0_init : Cond.instanceMethod yX0_init ∈ zB := List.mem_filter.mpr ⟨List.mem_of_getElem? (i := 28) (by decide +kernel), by decide +kernel⟩
set_option maxRecDepth 20000 in
theorem wk_X7_12 : Cond.classLink RX7 12 RX5 ∈ zB := List.mem_filter.mpr ⟨List.mem_of_getElem? (i := 48) (by decide +kernel), by decide +kernel⟩
set_option maxRecDepth 20000 in
theorem wm_X7_14 : Cond.methodLink RX7 14 yX5_init ∈ zB := List.mem_filter.mpr ⟨List.mem_of_getElem? (i := 50) (by decide +kernel), by decide +kernel⟩
theorem k_X7_14 : zCal RX7 14 yX5_init cX5_init 3 none 1 := ⟨wm_X7_14, wi_X5, wc_X5_init, by decide +kernel, by decide +kernel, by decide +kernel⟩
set_option maxRecDepth 20000 in
theorem wf_X7_17 : Cond.fieldLink RX7 17 RX7 "state" "LFerryCrews$State;" ∈ zB := List.mem_filter.mpr ⟨List.mem_of_getElem? (i := 220) (by decide +kernel), by decide +kernel⟩
theorem p_X7_17 : zPut RX7 17 7 0 true (.object "FerryCrews$State") := ⟨RX7, TX7, 6, tyX7, rfl, by decide, iX7, wf_X7_17, rfl, tyX7_ok, nmX7, rfl, by decide +kernel, fun _ => rfl⟩
set_option maxRecDepth 20000 in
theorem wf_X7_21 : Cond.fieldLink RX7 21 RX7 "snapshot" "LFerryCrews$State;" ∈ zB := List.mem_filter.mpr ⟨List.mem_of_getElem? (i := 221) (by decide +kernel), by decide +kernel⟩
theorem p_X7_21 : zPut RX7 21 7 1 true (.object "FerryCrews$State") := ⟨RX7, TX7, 6, tyX7, rfl, by decide, iX7, wf_X7_21, rfl, tyX7_ok, nmX7, rfl, by decide +kernel, fun _ => rfl⟩
set_option maxRecDepth 20000 in
theorem wf_X7_24 : Cond.fieldLink RX7 24 RX7 "trial" "LFerryCrews$State;" ∈ zB := List.mem_filter.mpr ⟨List.mem_of_getElem? (i := 222) (by decide +kernel), by decide +kernel⟩
theorem p_X7_24 : zPut RX7 24 7 2 true (.object "FerryCrews$State") := ⟨RX7, TX7, 6, tyX7, rfl, by decide, iX7, wf_X7_24, rfl, tyX7_ok, nmX7, rfl, by decide +kernel, fun _ => rfl⟩
set_option maxRecDepth 20000 in
theorem wk_X7_27 : Cond.classLink RX7 27 RX1 ∈ zB := List.mem_filter.mpr ⟨List.mem_of_getElem? (i := 173) (by decide +kernel), by decide +kernel⟩
set_option maxRecDepth 20000 in
theorem wa_X1 : Cond.instantiable RX1 2 ∈ zB := List.mem_filter.mpr ⟨List.mem_of_getElem? (i := 174) (by decide +kernel), by decide +kernel⟩
set_option maxRecDepth 20000 in
theorem wc_X1_init : Cond.code yX1_init cX1_init 3 none ∈ zB := List.mem_filter.mpr ⟨List.mem_of_getElem? (i := 177) (by decide +kernel), by decide +kernel⟩
set_option maxRecDepth 20000 in
theorem wm_X7_29 : Cond.methodLink RX7 29 yX1_init ∈ zB := List.mem_filter.mpr ⟨List.mem_of_getElem? (i := 175) (by decide +kernel), by decide +kernel⟩
theorem k_X7_29 : zCal RX7 29 yX1_init cX1_init 3 none 1 := ⟨wm_X7_29, wi_X1, wc_X1_init, by decide +kernel, by decide +kernel, by decide +kernel⟩
set_option maxRecDepth 20000 in
theorem wn_X1_init : Cond.instanceMethod yX1_init ∈ zB := List.mem_filter.mpr ⟨List.mem_of_getElem? (i := 176) (by decide +kernel), by decide +kernel⟩
set_option maxRecDepth 20000 in
theorem wf_X7_30 : Cond.fieldLink RX7 30 RX7 "history" "LFerryCrews$History;" ∈ zB := List.mem_filter.mpr ⟨List.mem_of_getElem? (i := 223) (by decide +kernel), by decide +kernel⟩
theorem p_X7_30 : zPut RX7 30 7 3 true (.object "FerryCrews$History") := ⟨RX7, TX7, 6, tyX7, rfl, by decide, iX7, wf_X7_30, rfl, tyX7_ok, nmX7, rfl, by decide +kernel, fun _ => rfl⟩
set_option maxRecDepth 20000 in
theorem wk_X7_34 : Cond.classLink RX7 34 RX6 ∈ zB := List.mem_filter.mpr ⟨List.mem_of_getElem? (i := 190) (by decide +kernel), by decide +kernel⟩
set_option maxRecDepth 20000 in
theorem wa_X6 : Cond.instantiable RX6 8 ∈ zB := List.mem_filter.mpr ⟨List.mem_of_getElem? (i := 191) (by decide +kernel), by decide +kernel⟩
set_option maxRecDepth 20000 in
theorem wi_X6 : Cond.initialized RX6 ∈ zB := List.mem_filter.mpr ⟨List.mem_of_getElem? (i := 14) (by decide +kernel), by decide +kernel⟩
set_option maxRecDepth 20000 in
theorem wc_X6_init : Cond.code yX6_init cX6_init 1 none ∈ zB := List.mem_filter.mpr ⟨List.mem_of_getElem? (i := 194) (by decide +kernel), by decide +kernel⟩
set_option maxRecDepth 20000 in
theorem k_X7_36 : zCalN RX7 36 yX6_init "FerryCrews" cX6_init 1 none 0 := ⟨List.mem_of_getElem? (i := 192) (by decide +kernel), wi_X6, wc_X6_init, by decide +kernel, by decide +kernel, by decide +kernel⟩
set_option maxRecDepth 20000 in
theorem wn_X6_init : Cond.instanceMethod yX6_init ∈ zB := List.mem_filter.mpr ⟨List.mem_of_getElem? (i := 193) (by decide +kernel), by decide +kernel⟩
set_option maxRecDepth 20000 in
theorem wf_X7_37 : Cond.fieldLink RX7 37 RX7 "text" "LFerryCrews$Text;" ∈ zB := List.mem_filter.mpr ⟨List.mem_of_getElem? (i := 224) (by decide +kernel), by decide +kernel⟩
theorem p_X7_37 : zPut RX7 37 7 4 true (.object "FerryCrews$Text") := ⟨RX7, TX7, 6, tyX7, rfl, by decide, iX7, wf_X7_37, rfl, tyX7_ok, nmX7, rfl, by decide +kernel, fun _ => rfl⟩
set_option maxRecDepth 20000 in
theorem wf_X7_41 : Cond.fieldLink RX7 41 RX7 "hasSnapshot" "Z" ∈ zB := List.mem_filter.mpr ⟨List.mem_of_getElem? (i := 225) (by decide +kernel), by decide +kernel⟩
theorem p_X7_41 : zPut RX7 41 7 5 false .boolean := ⟨RX7, TX7, 6, tyX7, rfl, by decide, iX7, wf_X7_41, rfl, tyX7_ok, nmX7, rfl, by decide +kernel, fun _ => rfl⟩
def rm_X7_init : Room := { frames := 4, cells := 1277, slots := 11189, locals := 85 }
set_option maxHeartbeats 4000000 in
set_option maxRecDepth 20000 in
theorem t_X7_init {p : Program} {l : Launch} {e : Env} {s : State} {m : MethodId} {args : Array Value} {below : List Frame} {meth : Method} {c : Code} {G : zG} (Z : zF p s m args c meth cX7_init 2 RX7 G) (hr : meth.sig.returnType = none) (hin : meth.name = "<init>") {out : zHp} {a0 : Nat} {h : zHp} {H : Heap} {locs : List Loc} {ls : Array Slot} {cells slots : Nat} (hf : f_X7_init a0 h = some out) (E : zE G s h H locs) (hl : lv_has ls 2 [(0, .ref a0)]) (hc : cells + 1277 ≤ 1277) (hs : slots + 11189 ≤ 11189) : W p l e rm_X7_init s m args below meth c H locs cells slots (MQ below (zQv G out) args s 1277 11189 (zA G)) (F0 m 0 ls []) := by
  unfold f_X7_init at hf
  refine lv_aload_n Z.x Z.b dX7_init_0 rfl (lv_at hl 0 rfl) ?_
  refine z_obj Z E hl.1 wo_X7_3 wo_inst wo_code dX7_init_1 (by decide) (by decide) ?_
  refine z_new (ci := 0) (C := RX0) (T := TX0) (N := 4) (ty := tyX0) (fs := [.null, .int 0, .int 0, .int 0]) Z E rfl iX0 tyX0_ok wk_X7_9 wa_X0 wi_X0 (fun j hj => by rcases (show j = 0 ∨ j = 1 ∨ j = 2 ∨ j = 3 by omega) with rfl | rfl | rfl | rfl <;> rfl) (show _ ≤ 1277 by omega) (show _ ≤ 11189 by omega) dX7_init_4 hf (fun q1 h2 H hf E => ?_)
  refine lv_dup Z.x Z.b dX7_init_7 rfl ?_
  refine z_IN (As := []) (mc := 1) (ms := 1168) Z E hl.1 k_X7_11 wn_X0_init rfl hf (fun h' e => c_X0_init l G h2 h' q1 e) rfl rfl (Nat.le_of_ble_eq_true rfl) ⟨⟨by decide, by decide⟩, ⟨rfl, rfl⟩, (show _ ≤ 1277 by omega), (show _ ≤ 11189 by omega)⟩ dX7_init_8 (fun h3 H locs hf E => ?_)
  refine lv_astore_n (lv' := [(1, .ref q1), (0, .ref a0)]) Z.x Z.b dX7_init_11 rfl hl (by decide) rfl (fun ls hl => ?_)
  refine lv_aload_n Z.x Z.b dX7_init_12 rfl (lv_at hl 1 rfl) ?_
  refine z_new (ci := 5) (C := RX5) (T := TX5) (N := 8) (ty := tyX5) (fs := [.null, .null, .int 0, .int 0, .int 0, .null, .null, .null]) Z E rfl iX5 tyX5_ok wk_X7_12 wa_X5 wi_X5 (fun j hj => by rcases (show j = 0 ∨ j = 1 ∨ j = 2 ∨ j = 3 ∨ j = 4 ∨ j = 5 ∨ j = 6 ∨ j = 7 by omega) with rfl | rfl | rfl | rfl | rfl | rfl | rfl | rfl <;> rfl) (show _ ≤ 1277 by omega) (show _ ≤ 11189 by omega) dX7_init_13 hf (fun q4 h5 H hf E => ?_)
  refine lv_dup Z.x Z.b dX7_init_16 rfl ?_
  refine lv_aload_n Z.x Z.b dX7_init_17 rfl (lv_at hl 0 rfl) ?_
  refine z_I (As := [.ref q1]) (mc := 180) (ms := 1409) Z E hl.1 k_X7_14 wn_X5_init rfl hf (fun h' e => c_X5_init l G h5 h' q4 q1 e) rfl rfl (Nat.le_of_ble_eq_true rfl) ⟨⟨by decide, by decide⟩, ⟨rfl, rfl⟩, (show _ ≤ 1277 by omega), (show _ ≤ 11189 by omega)⟩ dX7_init_18 (fun h6 H locs hf E => ?_)
  refine z_putF Z E hin p_X7_17 rfl rfl dX7_init_21 hf (fun h7 H locs hf E => ?_)
  refine lv_aload_n Z.x Z.b dX7_init_24 rfl (lv_at hl 1 rfl) ?_
  refine z_new (ci := 5) (C := RX5) (T := TX5) (N := 8) (ty := tyX5) (fs := [.null, .null, .int 0, .int 0, .int 0, .null, .null, .null]) Z E rfl iX5 tyX5_ok wk_X7_12 wa_X5 wi_X5 (fun j hj => by rcases (show j = 0 ∨ j = 1 ∨ j = 2 ∨ j = 3 ∨ j = 4 ∨ j = 5 ∨ j = 6 ∨ j = 7 by omega) with rfl | rfl | rfl | rfl | rfl | rfl | rfl | rfl <;> rfl) (show _ ≤ 1277 by omega) (show _ ≤ 11189 by omega) dX7_init_25 hf (fun q8 h9 H hf E => ?_)
  refine lv_dup Z.x Z.b dX7_init_28 rfl ?_
  refine lv_aload_n Z.x Z.b dX7_init_29 rfl (lv_at hl 0 rfl) ?_
  refine z_I (As := [.ref q1]) (mc := 180) (ms := 1409) Z E hl.1 k_X7_14 wn_X5_init rfl hf (fun h' e => c_X5_init l G h9 h' q8 q1 e) rfl rfl (Nat.le_of_ble_eq_true rfl) ⟨⟨by decide, by decide⟩, ⟨rfl, rfl⟩, (show _ ≤ 1277 by omega), (show _ ≤ 11189 by omega)⟩ dX7_init_30 (fun h10 H locs hf E => ?_)
  refine z_putF Z E hin p_X7_21 rfl rfl dX7_init_33 hf (fun h11 H locs hf E => ?_)
  refine lv_aload_n Z.x Z.b dX7_init_36 rfl (lv_at hl 1 rfl) ?_
  refine z_new (ci := 5) (C := RX5) (T := TX5) (N := 8) (ty := tyX5) (fs := [.null, .null, .int 0, .int 0, .int 0, .null, .null, .null]) Z E rfl iX5 tyX5_ok wk_X7_12 wa_X5 wi_X5 (fun j hj => by rcases (show j = 0 ∨ j = 1 ∨ j = 2 ∨ j = 3 ∨ j = 4 ∨ j = 5 ∨ j = 6 ∨ j = 7 by omega) with rfl | rfl | rfl | rfl | rfl | rfl | rfl | rfl <;> rfl) (show _ ≤ 1277 by omega) (show _ ≤ 11189 by omega) dX7_init_37 hf (fun q12 h13 H hf E => ?_)
  refine lv_dup Z.x Z.b dX7_init_40 rfl ?_
  refine lv_aload_n Z.x Z.b dX7_init_41 rfl (lv_at hl 0 rfl) ?_
  refine z_I (As := [.ref q1]) (mc := 180) (ms := 1409) Z E hl.1 k_X7_14 wn_X5_init rfl hf (fun h' e => c_X5_init l G h13 h' q12 q1 e) rfl rfl (Nat.le_of_ble_eq_true rfl) ⟨⟨by decide, by decide⟩, ⟨rfl, rfl⟩, (show _ ≤ 1277 by omega), (show _ ≤ 11189 by omega)⟩ dX7_init_42 (fun h14 H locs hf E => ?_)
  refine z_putF Z E hin p_X7_24 rfl rfl dX7_init_45 hf (fun h15 H locs hf E => ?_)
  refine lv_aload_n Z.x Z.b dX7_init_48 rfl (lv_at hl 1 rfl) ?_
  refine z_new (ci := 1) (C := RX1) (T := TX1) (N := 2) (ty := tyX1) (fs := [.null, .int 0]) Z E rfl iX1 tyX1_ok wk_X7_27 wa_X1 wi_X1 (fun j hj => by rcases (show j = 0 ∨ j = 1 by omega) with rfl | rfl <;> rfl) (show _ ≤ 1277 by omega) (show _ ≤ 11189 by omega) dX7_init_49 hf (fun q16 h17 H hf E => ?_)
  refine lv_dup Z.x Z.b dX7_init_52 rfl ?_
  refine lv_aload_n Z.x Z.b dX7_init_53 rfl (lv_at hl 0 rfl) ?_
  refine z_I (As := [.ref q1]) (mc := 725) (ms := 5672) Z E hl.1 k_X7_29 wn_X1_init rfl hf (fun h' e => c_X1_init l G h17 h' q16 q1 e) rfl rfl (Nat.le_of_ble_eq_true rfl) ⟨⟨by decide, by decide⟩, ⟨rfl, rfl⟩, (show _ ≤ 1277 by omega), (show _ ≤ 11189 by omega)⟩ dX7_init_54 (fun h18 H locs hf E => ?_)
  refine z_putF Z E hin p_X7_30 rfl rfl dX7_init_57 hf (fun h19 H locs hf E => ?_)
  refine lv_aload_n Z.x Z.b dX7_init_60 rfl (lv_at hl 1 rfl) ?_
  refine z_new (ci := 6) (C := RX6) (T := TX6) (N := 8) (ty := tyX6) (fs := [.null, .int 0, .int 0, .int 0, .null, .null, .null, .null]) Z E rfl iX6 tyX6_ok wk_X7_34 wa_X6 wi_X6 (fun j hj => by rcases (show j = 0 ∨ j = 1 ∨ j = 2 ∨ j = 3 ∨ j = 4 ∨ j = 5 ∨ j = 6 ∨ j = 7 by omega) with rfl | rfl | rfl | rfl | rfl | rfl | rfl | rfl <;> rfl) (show _ ≤ 1277 by omega) (show _ ≤ 11189 by omega) dX7_init_61 hf (fun q20 h21 H hf E => ?_)
  refine lv_dup Z.x Z.b dX7_init_64 rfl ?_
  refine z_IN (As := []) (mc := 5) (ms := 84) Z E hl.1 k_X7_36 wn_X6_init rfl hf (fun h' e => c_X6_init l G h21 h' q20 e) rfl rfl (Nat.le_of_ble_eq_true rfl) ⟨⟨by decide, by decide⟩, ⟨rfl, rfl⟩, (show _ ≤ 1277 by omega), (show _ ≤ 11189 by omega)⟩ dX7_init_65 (fun h22 H locs hf E => ?_)
  refine z_putF Z E hin p_X7_37 rfl rfl dX7_init_68 hf (fun h23 H locs hf E => ?_)
  refine lv_aload_n Z.x Z.b dX7_init_71 rfl (lv_at hl 1 rfl) ?_
  refine lv_iconst (v := 0) Z.x Z.b dX7_init_72 (by decide) ?_
  refine z_put Z E p_X7_41 rfl rfl dX7_init_73 hf (fun h24 H locs hf E => ?_)
  refine W.widen (k := 1277) (n := 11189) (by omega) (by omega) ?_
  exact z_vret Z E hr dX7_init_76 hf
set_option maxHeartbeats 4000000 in
set_option maxRecDepth 20000 in
theorem c_X7_init (l : Launch) (G : zG) (h : zHp) (h' : zHp) (a0 : Nat) (hf : f_X7_init a0 h = some h') : zMn l yX7_init cX7_init 2 rm_X7_init 1277 11189 G [.ref a0] h h' := by
  refine Met.ofW (cc := cX7_init) (maxL := 2) (ret := none) (by decide) rfl ?_
  intro p e s m args below meth c s₁ B hml hv
  obtain ⟨rfl, hW⟩ := hv
  obtain ⟨Z, E, hr⟩ := zEnter (own := RX7) B hml rfl hW
  have hin : meth.name = "<init>" := (name_of_methodNamed B.named B.method).1
  have hl := lv_entry ([.ref a0]) (n := 2) (Nat.le_of_ble_eq_true rfl)
  rw [lg_entry_eq]
  generalize (lg_sl ([.ref a0]) ++ List.replicate (2 - (lg_sl ([.ref a0])).length) Slot.unset).toArray = ls at hl ⊢
  have hl : lv_has ls 2 [(0, .ref a0)] := hl
  exact t_X7_init (out := h') Z hr hin hf E hl (by decide) (by decide)
/-! FerryCrews.sailing(IIII)I -/
theorem dX7_sailing_0 : decode cX7_sailing 0 = .ok (.aload_n 0, 1) := by decide +kernel
theorem dX7_sailing_1 : decode cX7_sailing 1 = .ok (.getfield 17, 3) := by decide +kernel
theorem dX7_sailing_4 : decode cX7_sailing 4 = .ok (.iload_n 1, 1) := by decide +kernel
theorem dX7_sailing_5 : decode cX7_sailing 5 = .ok (.iload_n 2, 1) := by decide +kernel
theorem dX7_sailing_6 : decode cX7_sailing 6 = .ok (.iload_n 3, 1) := by decide +kernel
theorem dX7_sailing_7 : decode cX7_sailing 7 = .ok (.iload 4, 2) := by decide +kernel
theorem dX7_sailing_9 : decode cX7_sailing 9 = .ok (.invokevirtual 45, 3) := by decide +kernel
theorem dX7_sailing_12 : decode cX7_sailing 12 = .ok (.istore 5, 2) := by decide +kernel
theorem dX7_sailing_14 : decode cX7_sailing 14 = .ok (.iload 5, 2) := by decide +kernel
theorem dX7_sailing_16 : decode cX7_sailing 16 = .ok (.ifCond .ge 6, 3) := by decide +kernel
theorem dX7_sailing_19 : decode cX7_sailing 19 = .ok (.iload 5, 2) := by decide +kernel
theorem dX7_sailing_21 : decode cX7_sailing 21 = .ok (.ireturn, 1) := by decide +kernel
theorem dX7_sailing_22 : decode cX7_sailing 22 = .ok (.aload_n 0, 1) := by decide +kernel
theorem dX7_sailing_23 : decode cX7_sailing 23 = .ok (.getfield 30, 3) := by decide +kernel
theorem dX7_sailing_26 : decode cX7_sailing 26 = .ok (.aload_n 0, 1) := by decide +kernel
theorem dX7_sailing_27 : decode cX7_sailing 27 = .ok (.getfield 17, 3) := by decide +kernel
theorem dX7_sailing_30 : decode cX7_sailing 30 = .ok (.invokevirtual 49, 3) := by decide +kernel
theorem dX7_sailing_33 : decode cX7_sailing 33 = .ok (.aload_n 0, 1) := by decide +kernel
theorem dX7_sailing_34 : decode cX7_sailing 34 = .ok (.getfield 17, 3) := by decide +kernel
theorem dX7_sailing_37 : decode cX7_sailing 37 = .ok (.iload_n 1, 1) := by decide +kernel
theorem dX7_sailing_38 : decode cX7_sailing 38 = .ok (.iload_n 2, 1) := by decide +kernel
theorem dX7_sailing_39 : decode cX7_sailing 39 = .ok (.iload_n 3, 1) := by decide +kernel
theorem dX7_sailing_40 : decode cX7_sailing 40 = .ok (.iload 4, 2) := by decide +kernel
theorem dX7_sailing_42 : decode cX7_sailing 42 = .ok (.invokevirtual 53, 3) := by decide +kernel
theorem dX7_sailing_45 : decode cX7_sailing 45 = .ok (.ireturn, 1) := by decide +kernel
theorem q_X7_17 : zFld RX7 17 7 0 := ⟨RX7, TX7, 6, rfl, by decide, iX7, wf_X7_17, rfl⟩
set_option maxRecDepth 20000 in
theorem wc_X5_refusalOf : Cond.code yX5_refusalOf cX5_refusalOf 9 (some .int) ∈ zB := List.mem_filter.mpr ⟨List.mem_of_getElem? (i := 510) (by decide +kernel), by decide +kernel⟩
set_option maxRecDepth 20000 in
theorem wm_X7_45 : Cond.methodLink RX7 45 yX5_refusalOf ∈ zB := List.mem_filter.mpr ⟨List.mem_of_getElem? (i := 507) (by decide +kernel), by decide +kernel⟩
theorem k_X7_45 : zCal RX7 45 yX5_refusalOf cX5_refusalOf 9 (some .int) 4 := ⟨wm_X7_45, wi_X5, wc_X5_refusalOf, by decide +kernel, by decide +kernel, by decide +kernel⟩
set_option maxRecDepth 20000 in
theorem wn_X5_refusalOf : Cond.instanceMethod yX5_refusalOf ∈ zB := List.mem_filter.mpr ⟨List.mem_of_getElem? (i := 508) (by decide +kernel), by decide +kernel⟩
set_option maxRecDepth 20000 in
theorem ws_X5_refusalOf : Cond.selects RX5 yX5_refusalOf yX5_refusalOf ∈ zB := List.mem_filter.mpr ⟨List.mem_of_getElem? (i := 509) (by decide +kernel), by decide +kernel⟩
theorem v_X5_refusalOf : zVir yX5_refusalOf 5 := ⟨wn_X5_refusalOf, ws_X5_refusalOf, TX5, 8, rfl⟩
theorem q_X7_30 : zFld RX7 30 7 3 := ⟨RX7, TX7, 6, rfl, by decide, iX7, wf_X7_30, rfl⟩
set_option maxRecDepth 20000 in
theorem wc_X1_record : Cond.code yX1_record cX1_record 2 none ∈ zB := List.mem_filter.mpr ⟨List.mem_of_getElem? (i := 522) (by decide +kernel), by decide +kernel⟩
set_option maxRecDepth 20000 in
theorem wm_X7_49 : Cond.methodLink RX7 49 yX1_record ∈ zB := List.mem_filter.mpr ⟨List.mem_of_getElem? (i := 519) (by decide +kernel), by decide +kernel⟩
theorem k_X7_49 : zCal RX7 49 yX1_record cX1_record 2 none 1 := ⟨wm_X7_49, wi_X1, wc_X1_record, by decide +kernel, by decide +kernel, by decide +kernel⟩
set_option maxRecDepth 20000 in
theorem wn_X1_record : Cond.instanceMethod yX1_record ∈ zB := List.mem_filter.mpr ⟨List.mem_of_getElem? (i := 520) (by decide +kernel), by decide +kernel⟩
set_option maxRecDepth 20000 in
theorem ws_X1_record : Cond.selects RX1 yX1_record yX1_record ∈ zB := List.mem_filter.mpr ⟨List.mem_of_getElem? (i := 521) (by decide +kernel), by decide +kernel⟩
theorem v_X1_record : zVir yX1_record 1 := ⟨wn_X1_record, ws_X1_record, TX1, 2, rfl⟩
set_option maxRecDepth 20000 in
theorem wc_X5_addSailing : Cond.code yX5_addSailing cX5_addSailing 8 (some .int) ∈ zB := List.mem_filter.mpr ⟨List.mem_of_getElem? (i := 531) (by decide +kernel), by decide +kernel⟩
set_option maxRecDepth 20000 in
theorem wm_X7_53 : Cond.methodLink RX7 53 yX5_addSailing ∈ zB := List.mem_filter.mpr ⟨List.mem_of_getElem? (i := 528) (by decide +kernel), by decide +kernel⟩
theorem k_X7_53 : zCal RX7 53 yX5_addSailing cX5_addSailing 8 (some .int) 4 := ⟨wm_X7_53, wi_X5, wc_X5_addSailing, by decide +kernel, by decide +kernel, by decide +kernel⟩
set_option maxRecDepth 20000 in
theorem wn_X5_addSailing : Cond.instanceMethod yX5_addSailing ∈ zB := List.mem_filter.mpr ⟨List.mem_of_getElem? (i := 529) (by decide +kernel), by decide +kernel⟩
set_option maxRecDepth 20000 in
theorem ws_X5_addSailing : Cond.selects RX5 yX5_addSailing yX5_addSailing ∈ zB := List.mem_filter.mpr ⟨List.mem_of_getElem? (i := 530) (by decide +kernel), by decide +kernel⟩
theorem v_X5_addSailing : zVir yX5_addSailing 5 := ⟨wn_X5_addSailing, ws_X5_addSailing, TX5, 8, rfl⟩
def rm_X7_sailing : Room := { frames := 4, cells := 0, slots := 0, locals := 104 }
set_option maxHeartbeats 4000000 in
set_option maxRecDepth 20000 in
theorem t_X7_sailing {p : Program} {l : Launch} {e : Env} {s : State} {m : MethodId} {args : Array Value} {below : List Frame} {meth : Method} {c : Code} {G : zG} (Z : zF p s m args c meth cX7_sailing 6 RX7 G) (hr : meth.sig.returnType = (some .int)) {out : Int32 × zHp} {a0 : Nat} {a1 : Int32} {a2 : Int32} {a3 : Int32} {a4 : Int32} {h : zHp} {H : Heap} {locs : List Loc} {ls : Array Slot} (hf : f_X7_sailing a0 a1 a2 a3 a4 h = some out) (E : zE G s h H locs) (hl : lv_has ls 6 [(0, .ref a0), (1, .int a1), (2, .int a2), (3, .int a3), (4, .int a4)]) : W p l e rm_X7_sailing s m args below meth c H locs 0 0 (MQ below (zQi G out.1 out.2) args s 0 0 (zA G)) (F0 m 0 ls []) := by
  unfold f_X7_sailing at hf
  refine lv_aload_n Z.x Z.b dX7_sailing_0 rfl (lv_at hl 0 rfl) ?_
  refine z_getR Z E q_X7_17 dX7_sailing_1 hf (fun v1 hf => ?_)
  refine lv_iload_n Z.x Z.b dX7_sailing_4 rfl (lv_at hl 1 rfl) ?_
  refine lv_iload_n Z.x Z.b dX7_sailing_5 rfl (lv_at hl 2 rfl) ?_
  refine lv_iload_n Z.x Z.b dX7_sailing_6 rfl (lv_at hl 3 rfl) ?_
  refine lv_iload Z.x Z.b dX7_sailing_7 (lv_at hl 4 rfl) ?_
  refine z_Vi (As := [.int a1, .int a2, .int a3, .int a4]) Z E hl.1 k_X7_45 v_X5_refusalOf hf (fun r h' e => c_X5_refusalOf l G h h' v1 a1 a2 a3 a4 r e) rfl rfl (Nat.le_of_ble_eq_true rfl) (zRm_of rfl (Nat.zero_le _) (Nat.zero_le _)) dX7_sailing_9 (fun v2 h3 H locs hf E => ?_)
  refine lv_istore (lv' := [(5, .int v2), (0, .ref a0), (1, .int a1), (2, .int a2), (3, .int a3), (4, .int a4)]) Z.x Z.b dX7_sailing_12 hl (by decide) rfl (fun ls hl => ?_)
  refine lv_iload Z.x Z.b dX7_sailing_14 (lv_at hl 0 rfl) ?_
  refine lv_if_ge (tgt := 22) Z.x Z.b dX7_sailing_16 (by decide) (fun c => ?_) (fun c => ?_)
  · have hf := zit hf c
    refine lv_aload_n Z.x Z.b dX7_sailing_22 rfl (lv_at hl 1 rfl) ?_
    refine z_getR Z E q_X7_30 dX7_sailing_23 hf (fun v4 hf => ?_)
    refine lv_aload_n Z.x Z.b dX7_sailing_26 rfl (lv_at hl 1 rfl) ?_
    refine z_getR Z E q_X7_17 dX7_sailing_27 hf (fun v5 hf => ?_)
    refine z_Vv (As := [.ref v5]) Z E hl.1 k_X7_49 v_X1_record hf (fun h' e => c_X1_record l G h3 h' v4 v5 e) rfl rfl (Nat.le_of_ble_eq_true rfl) (zRm_of rfl (Nat.zero_le _) (Nat.zero_le _)) dX7_sailing_30 (fun h6 H locs hf E => ?_)
    refine lv_aload_n Z.x Z.b dX7_sailing_33 rfl (lv_at hl 1 rfl) ?_
    refine z_getR Z E q_X7_17 dX7_sailing_34 hf (fun v7 hf => ?_)
    refine lv_iload_n Z.x Z.b dX7_sailing_37 rfl (lv_at hl 2 rfl) ?_
    refine lv_iload_n Z.x Z.b dX7_sailing_38 rfl (lv_at hl 3 rfl) ?_
    refine lv_iload_n Z.x Z.b dX7_sailing_39 rfl (lv_at hl 4 rfl) ?_
    refine lv_iload Z.x Z.b dX7_sailing_40 (lv_at hl 5 rfl) ?_
    refine z_Vi (As := [.int a1, .int a2, .int a3, .int a4]) Z E hl.1 k_X7_53 v_X5_addSailing hf (fun r h' e => c_X5_addSailing l G h6 h' v7 a1 a2 a3 a4 r e) rfl rfl (Nat.le_of_ble_eq_true rfl) (zRm_of rfl (Nat.zero_le _) (Nat.zero_le _)) dX7_sailing_42 (fun v8 h9 H locs hf E => ?_)
    exact z_iret Z E hr dX7_sailing_45 hf
  · have hf := zif_ hf c
    refine lv_iload Z.x Z.b dX7_sailing_19 (lv_at hl 0 rfl) ?_
    exact z_iret Z E hr dX7_sailing_21 hf
set_option maxHeartbeats 4000000 in
set_option maxRecDepth 20000 in
theorem c_X7_sailing (l : Launch) (G : zG) (h : zHp) (h' : zHp) (a0 : Nat) (a1 : Int32) (a2 : Int32) (a3 : Int32) (a4 : Int32) (r : Int32) (hf : f_X7_sailing a0 a1 a2 a3 a4 h = some (r, h')) : zM0 l yX7_sailing cX7_sailing 6 (some .int) rm_X7_sailing G [.ref a0, .int a1, .int a2, .int a3, .int a4] h (zQi G r h') := by
  refine Met.ofW (cc := cX7_sailing) (maxL := 6) (ret := (some .int)) (by decide) rfl ?_
  intro p e s m args below meth c s₁ B hml hv
  obtain ⟨rfl, hW⟩ := hv
  obtain ⟨Z, E, hr⟩ := zEnter (own := RX7) B hml rfl hW
  have hl := lv_entry ([.ref a0, .int a1, .int a2, .int a3, .int a4]) (n := 6) (Nat.le_of_ble_eq_true rfl)
  rw [lg_entry_eq]
  generalize (lg_sl ([.ref a0, .int a1, .int a2, .int a3, .int a4]) ++ List.replicate (6 - (lg_sl ([.ref a0, .int a1, .int a2, .int a3, .int a4])).length) Slot.unset).toArray = ls at hl ⊢
  have hl : lv_has ls 6 [(0, .ref a0), (1, .int a1), (2, .int a2), (3, .int a3), (4, .int a4)] := hl
  exact t_X7_sailing (out := (r, h')) Z hr hf E hl
/-! FerryCrews.cancel(I)I -/
theorem dX7_cancel_0 : decode cX7_cancel 0 = .ok (.aload_n 0, 1) := by decide +kernel
theorem dX7_cancel_1 : decode cX7_cancel 1 = .ok (.getfield 17, 3) := by decide +kernel
theorem dX7_cancel_4 : decode cX7_cancel 4 = .ok (.iload_n 1, 1) := by decide +kernel
theorem dX7_cancel_5 : decode cX7_cancel 5 = .ok (.invokevirtual 71, 3) := by decide +kernel
theorem dX7_cancel_8 : decode cX7_cancel 8 = .ok (.astore_n 2, 1) := by decide +kernel
theorem dX7_cancel_9 : decode cX7_cancel 9 = .ok (.aload_n 2, 1) := by decide +kernel
theorem dX7_cancel_10 : decode cX7_cancel 10 = .ok (.ifnonnull 5, 3) := by decide +kernel
theorem dX7_cancel_13 : decode cX7_cancel 13 = .ok (.iconst (-1), 1) := by decide +kernel
theorem dX7_cancel_14 : decode cX7_cancel 14 = .ok (.ireturn, 1) := by decide +kernel
theorem dX7_cancel_15 : decode cX7_cancel 15 = .ok (.aload_n 2, 1) := by decide +kernel
theorem dX7_cancel_16 : decode cX7_cancel 16 = .ok (.invokevirtual 75, 3) := by decide +kernel
theorem dX7_cancel_19 : decode cX7_cancel 19 = .ok (.ifCond .ne 6, 3) := by decide +kernel
theorem dX7_cancel_22 : decode cX7_cancel 22 = .ok (.bipush (-4), 2) := by decide +kernel
theorem dX7_cancel_24 : decode cX7_cancel 24 = .ok (.ireturn, 1) := by decide +kernel
theorem dX7_cancel_25 : decode cX7_cancel 25 = .ok (.aload_n 0, 1) := by decide +kernel
theorem dX7_cancel_26 : decode cX7_cancel 26 = .ok (.getfield 30, 3) := by decide +kernel
theorem dX7_cancel_29 : decode cX7_cancel 29 = .ok (.aload_n 0, 1) := by decide +kernel
theorem dX7_cancel_30 : decode cX7_cancel 30 = .ok (.getfield 17, 3) := by decide +kernel
theorem dX7_cancel_33 : decode cX7_cancel 33 = .ok (.invokevirtual 49, 3) := by decide +kernel
theorem dX7_cancel_36 : decode cX7_cancel 36 = .ok (.aload_n 2, 1) := by decide +kernel
theorem dX7_cancel_37 : decode cX7_cancel 37 = .ok (.invokevirtual 81, 3) := by decide +kernel
theorem dX7_cancel_40 : decode cX7_cancel 40 = .ok (.ireturn, 1) := by decide +kernel
set_option maxRecDepth 20000 in
theorem wc_X5_sailingAt : Cond.code yX5_sailingAt cX5_sailingAt 6 (some (.object "FerryCrews$Sailing")) ∈ zB := List.mem_filter.mpr ⟨List.mem_of_getElem? (i := 392) (by decide +kernel), by decide +kernel⟩
set_option maxRecDepth 20000 in
theorem wm_X7_71 : Cond.methodLink RX7 71 yX5_sailingAt ∈ zB := List.mem_filter.mpr ⟨List.mem_of_getElem? (i := 389) (by decide +kernel), by decide +kernel⟩
theorem k_X7_71 : zCal RX7 71 yX5_sailingAt cX5_sailingAt 6 (some (.object "FerryCrews$Sailing")) 1 := ⟨wm_X7_71, wi_X5, wc_X5_sailingAt, by decide +kernel, by decide +kernel, by decide +kernel⟩
set_option maxRecDepth 20000 in
theorem wn_X5_sailingAt : Cond.instanceMethod yX5_sailingAt ∈ zB := List.mem_filter.mpr ⟨List.mem_of_getElem? (i := 390) (by decide +kernel), by decide +kernel⟩
set_option maxRecDepth 20000 in
theorem ws_X5_sailingAt : Cond.selects RX5 yX5_sailingAt yX5_sailingAt ∈ zB := List.mem_filter.mpr ⟨List.mem_of_getElem? (i := 391) (by decide +kernel), by decide +kernel⟩
theorem v_X5_sailingAt : zVir yX5_sailingAt 5 := ⟨wn_X5_sailingAt, ws_X5_sailingAt, TX5, 8, rfl⟩
set_option maxRecDepth 20000 in
theorem wm_X7_75 : Cond.methodLink RX7 75 yX4_isOpen ∈ zB := List.mem_filter.mpr ⟨List.mem_of_getElem? (i := 585) (by decide +kernel), by decide +kernel⟩
theorem k_X7_75 : zCal RX7 75 yX4_isOpen cX4_isOpen 1 (some .boolean) 0 := ⟨wm_X7_75, wi_X4, wc_X4_isOpen, by decide +kernel, by decide +kernel, by decide +kernel⟩
set_option maxRecDepth 20000 in
theorem wm_X7_81 : Cond.methodLink RX7 81 yX4_callOff ∈ zB := List.mem_filter.mpr ⟨List.mem_of_getElem? (i := 586) (by decide +kernel), by decide +kernel⟩
theorem k_X7_81 : zCal RX7 81 yX4_callOff cX4_callOff 2 (some .int) 0 := ⟨wm_X7_81, wi_X4, wc_X4_callOff, by decide +kernel, by decide +kernel, by decide +kernel⟩
def rm_X7_cancel : Room := { frames := 4, cells := 0, slots := 0, locals := 104 }
set_option maxHeartbeats 4000000 in
set_option maxRecDepth 20000 in
theorem t_X7_cancel {p : Program} {l : Launch} {e : Env} {s : State} {m : MethodId} {args : Array Value} {below : List Frame} {meth : Method} {c : Code} {G : zG} (Z : zF p s m args c meth cX7_cancel 3 RX7 G) (hr : meth.sig.returnType = (some .int)) {out : Int32 × zHp} {a0 : Nat} {a1 : Int32} {h : zHp} {H : Heap} {locs : List Loc} {ls : Array Slot} (hf : f_X7_cancel a0 a1 h = some out) (E : zE G s h H locs) (hl : lv_has ls 3 [(0, .ref a0), (1, .int a1)]) : W p l e rm_X7_cancel s m args below meth c H locs 0 0 (MQ below (zQi G out.1 out.2) args s 0 0 (zA G)) (F0 m 0 ls []) := by
  unfold f_X7_cancel at hf
  refine lv_aload_n Z.x Z.b dX7_cancel_0 rfl (lv_at hl 0 rfl) ?_
  refine z_getR Z E q_X7_17 dX7_cancel_1 hf (fun v1 hf => ?_)
  refine lv_iload_n Z.x Z.b dX7_cancel_4 rfl (lv_at hl 1 rfl) ?_
  refine z_Vq (As := [.int a1]) Z E hl.1 k_X7_71 v_X5_sailingAt hf (fun r h' e => c_X5_sailingAt l G h h' v1 a1 r e) rfl rfl (Nat.le_of_ble_eq_true rfl) (zRm_of rfl (Nat.zero_le _) (Nat.zero_le _)) dX7_cancel_5 (fun w2 h3 H locs hf E => ?_)
  refine z_astore_n (lv' := [(2, va_rf w2), (0, .ref a0), (1, .int a1)]) Z (x := w2) dX7_cancel_8 rfl hl (by decide) (by cases w2 <;> rfl) (fun ls hl => ?_)
  refine z_aload_n Z (x := w2) dX7_cancel_9 rfl (lv_at hl 0 rfl) ?_
  refine z_ifnonnull (tgt := 15) Z dX7_cancel_10 (by decide) hf (fun ex h9_10 => ?_) (fun v4 ex h9_10 => ?_)
  · subst ex
    have hf := h9_10
    refine lv_iconst (v := (-1)) Z.x Z.b dX7_cancel_13 (by decide) ?_
    exact z_iret Z E hr dX7_cancel_14 hf
  · subst ex
    have hf := h9_10
    refine lv_aload_n Z.x Z.b dX7_cancel_15 rfl (lv_at hl 0 rfl) ?_
    refine z_Vi (As := []) Z E hl.1 k_X7_75 v_X4_isOpen hf (fun r h' e => c_X4_isOpen l G h3 h' v4 r e) rfl rfl (Nat.le_of_ble_eq_true rfl) (zRm_of rfl (Nat.zero_le _) (Nat.zero_le _)) dX7_cancel_16 (fun v5 h6 H locs hf E => ?_)
    refine lv_if_ne (tgt := 25) Z.x Z.b dX7_cancel_19 (by decide) (fun c => ?_) (fun c => ?_)
    · have hf := zif_ hf c
      refine lv_aload_n Z.x Z.b dX7_cancel_25 rfl (lv_at hl 1 rfl) ?_
      refine z_getR Z E q_X7_30 dX7_cancel_26 hf (fun v7 hf => ?_)
      refine lv_aload_n Z.x Z.b dX7_cancel_29 rfl (lv_at hl 1 rfl) ?_
      refine z_getR Z E q_X7_17 dX7_cancel_30 hf (fun v8 hf => ?_)
      refine z_Vv (As := [.ref v8]) Z E hl.1 k_X7_49 v_X1_record hf (fun h' e => c_X1_record l G h6 h' v7 v8 e) rfl rfl (Nat.le_of_ble_eq_true rfl) (zRm_of rfl (Nat.zero_le _) (Nat.zero_le _)) dX7_cancel_33 (fun h9 H locs hf E => ?_)
      refine lv_aload_n Z.x Z.b dX7_cancel_36 rfl (lv_at hl 0 rfl) ?_
      refine z_Vi (As := []) Z E hl.1 k_X7_81 v_X4_callOff hf (fun r h' e => c_X4_callOff l G h9 h' v4 r e) rfl rfl (Nat.le_of_ble_eq_true rfl) (zRm_of rfl (Nat.zero_le _) (Nat.zero_le _)) dX7_cancel_37 (fun v10 h11 H locs hf E => ?_)
      exact z_iret Z E hr dX7_cancel_40 hf
    · have hf := zit hf c
      refine lv_bipush (v := (-4)) Z.x Z.b dX7_cancel_22 (by decide) ?_
      exact z_iret Z E hr dX7_cancel_24 hf
set_option maxHeartbeats 4000000 in
set_option maxRecDepth 20000 in
theorem c_X7_cancel (l : Launch) (G : zG) (h : zHp) (h' : zHp) (a0 : Nat) (a1 : Int32) (r : Int32) (hf : f_X7_cancel a0 a1 h = some (r, h')) : zM0 l yX7_cancel cX7_cancel 3 (some .int) rm_X7_cancel G [.ref a0, .int a1] h (zQi G r h') := by
  refine Met.ofW (cc := cX7_cancel) (maxL := 3) (ret := (some .int)) (by decide) rfl ?_
  intro p e s m args below meth c s₁ B hml hv
  obtain ⟨rfl, hW⟩ := hv
  obtain ⟨Z, E, hr⟩ := zEnter (own := RX7) B hml rfl hW
  have hl := lv_entry ([.ref a0, .int a1]) (n := 3) (Nat.le_of_ble_eq_true rfl)
  rw [lg_entry_eq]
  generalize (lg_sl ([.ref a0, .int a1]) ++ List.replicate (3 - (lg_sl ([.ref a0, .int a1])).length) Slot.unset).toArray = ls at hl ⊢
  have hl : lv_has ls 3 [(0, .ref a0), (1, .int a1)] := hl
  exact t_X7_cancel (out := (r, h')) Z hr hf E hl
/-! FerryCrews.member(II)I -/
theorem dX7_member_0 : decode cX7_member 0 = .ok (.iload_n 1, 1) := by decide +kernel
theorem dX7_member_1 : decode cX7_member 1 = .ok (.invokestatic 84, 3) := by decide +kernel
theorem dX7_member_4 : decode cX7_member 4 = .ok (.ifCond .ne 5, 3) := by decide +kernel
theorem dX7_member_7 : decode cX7_member 7 = .ok (.iconst (-1), 1) := by decide +kernel
theorem dX7_member_8 : decode cX7_member 8 = .ok (.ireturn, 1) := by decide +kernel
theorem dX7_member_9 : decode cX7_member 9 = .ok (.iload_n 2, 1) := by decide +kernel
theorem dX7_member_10 : decode cX7_member 10 = .ok (.iconst 0, 1) := by decide +kernel
theorem dX7_member_11 : decode cX7_member 11 = .ok (.sipush 9999, 3) := by decide +kernel
theorem dX7_member_14 : decode cX7_member 14 = .ok (.invokestatic 88, 3) := by decide +kernel
theorem dX7_member_17 : decode cX7_member 17 = .ok (.ifCond .ne 6, 3) := by decide +kernel
theorem dX7_member_20 : decode cX7_member 20 = .ok (.bipush (-2), 2) := by decide +kernel
theorem dX7_member_22 : decode cX7_member 22 = .ok (.ireturn, 1) := by decide +kernel
theorem dX7_member_23 : decode cX7_member 23 = .ok (.aload_n 0, 1) := by decide +kernel
theorem dX7_member_24 : decode cX7_member 24 = .ok (.getfield 17, 3) := by decide +kernel
theorem dX7_member_27 : decode cX7_member 27 = .ok (.getfield 92, 3) := by decide +kernel
theorem dX7_member_30 : decode cX7_member 30 = .ok (.bipush 12, 2) := by decide +kernel
theorem dX7_member_32 : decode cX7_member 32 = .ok (.if_icmp .lt 6, 3) := by decide +kernel
theorem dX7_member_35 : decode cX7_member 35 = .ok (.bipush (-3), 2) := by decide +kernel
theorem dX7_member_37 : decode cX7_member 37 = .ok (.ireturn, 1) := by decide +kernel
theorem dX7_member_38 : decode cX7_member 38 = .ok (.aload_n 0, 1) := by decide +kernel
theorem dX7_member_39 : decode cX7_member 39 = .ok (.getfield 30, 3) := by decide +kernel
theorem dX7_member_42 : decode cX7_member 42 = .ok (.aload_n 0, 1) := by decide +kernel
theorem dX7_member_43 : decode cX7_member 43 = .ok (.getfield 17, 3) := by decide +kernel
theorem dX7_member_46 : decode cX7_member 46 = .ok (.invokevirtual 49, 3) := by decide +kernel
theorem dX7_member_49 : decode cX7_member 49 = .ok (.aload_n 0, 1) := by decide +kernel
theorem dX7_member_50 : decode cX7_member 50 = .ok (.getfield 17, 3) := by decide +kernel
theorem dX7_member_53 : decode cX7_member 53 = .ok (.iload_n 1, 1) := by decide +kernel
theorem dX7_member_54 : decode cX7_member 54 = .ok (.iload_n 2, 1) := by decide +kernel
theorem dX7_member_55 : decode cX7_member 55 = .ok (.invokevirtual 95, 3) := by decide +kernel
theorem dX7_member_58 : decode cX7_member 58 = .ok (.ireturn, 1) := by decide +kernel
set_option maxRecDepth 20000 in
theorem wm_X7_84 : Cond.methodLink RX7 84 yX7_isRole ∈ zB := List.mem_filter.mpr ⟨List.mem_of_getElem? (i := 397) (by decide +kernel), by decide +kernel⟩
theorem k_X7_84 : zCal RX7 84 yX7_isRole cX7_isRole 1 (some .boolean) 1 := ⟨wm_X7_84, wi_X7, wc_X7_isRole, by decide +kernel, by decide +kernel, by decide +kernel⟩
set_option maxRecDepth 20000 in
theorem wf_X7_92 : Cond.fieldLink RX7 92 RX5 "memberCount" "I" ∈ zB := List.mem_filter.mpr ⟨List.mem_of_getElem? (i := 152) (by decide +kernel), by decide +kernel⟩
theorem q_X7_92 : zFld RX7 92 5 4 := ⟨RX5, TX5, 8, rfl, by decide, iX5, wf_X7_92, rfl⟩
set_option maxRecDepth 20000 in
theorem wc_X5_addMember : Cond.code yX5_addMember cX5_addMember 4 (some .int) ∈ zB := List.mem_filter.mpr ⟨List.mem_of_getElem? (i := 543) (by decide +kernel), by decide +kernel⟩
set_option maxRecDepth 20000 in
theorem wm_X7_95 : Cond.methodLink RX7 95 yX5_addMember ∈ zB := List.mem_filter.mpr ⟨List.mem_of_getElem? (i := 540) (by decide +kernel), by decide +kernel⟩
theorem k_X7_95 : zCal RX7 95 yX5_addMember cX5_addMember 4 (some .int) 2 := ⟨wm_X7_95, wi_X5, wc_X5_addMember, by decide +kernel, by decide +kernel, by decide +kernel⟩
set_option maxRecDepth 20000 in
theorem wn_X5_addMember : Cond.instanceMethod yX5_addMember ∈ zB := List.mem_filter.mpr ⟨List.mem_of_getElem? (i := 541) (by decide +kernel), by decide +kernel⟩
set_option maxRecDepth 20000 in
theorem ws_X5_addMember : Cond.selects RX5 yX5_addMember yX5_addMember ∈ zB := List.mem_filter.mpr ⟨List.mem_of_getElem? (i := 542) (by decide +kernel), by decide +kernel⟩
theorem v_X5_addMember : zVir yX5_addMember 5 := ⟨wn_X5_addMember, ws_X5_addMember, TX5, 8, rfl⟩
def rm_X7_member : Room := { frames := 4, cells := 0, slots := 0, locals := 104 }
set_option maxHeartbeats 4000000 in
set_option maxRecDepth 20000 in
theorem t_X7_member {p : Program} {l : Launch} {e : Env} {s : State} {m : MethodId} {args : Array Value} {below : List Frame} {meth : Method} {c : Code} {G : zG} (Z : zF p s m args c meth cX7_member 3 RX7 G) (hr : meth.sig.returnType = (some .int)) {out : Int32 × zHp} {a0 : Nat} {a1 : Int32} {a2 : Int32} {h : zHp} {H : Heap} {locs : List Loc} {ls : Array Slot} (hf : f_X7_member a0 a1 a2 h = some out) (E : zE G s h H locs) (hl : lv_has ls 3 [(0, .ref a0), (1, .int a1), (2, .int a2)]) : W p l e rm_X7_member s m args below meth c H locs 0 0 (MQ below (zQi G out.1 out.2) args s 0 0 (zA G)) (F0 m 0 ls []) := by
  unfold f_X7_member at hf
  refine lv_iload_n Z.x Z.b dX7_member_0 rfl (lv_at hl 1 rfl) ?_
  refine z_Si (As := [.int a1]) Z E hl.1 k_X7_84 wt_X7_isRole hf (fun r h' e => c_X7_isRole l G h h' a1 r e) rfl rfl (Nat.le_of_ble_eq_true rfl) (zRm_of rfl (Nat.zero_le _) (Nat.zero_le _)) dX7_member_1 (fun v1 h2 H locs hf E => ?_)
  refine lv_if_ne (tgt := 9) Z.x Z.b dX7_member_4 (by decide) (fun c => ?_) (fun c => ?_)
  · have hf := zif_ hf c
    refine lv_iload_n Z.x Z.b dX7_member_9 rfl (lv_at hl 2 rfl) ?_
    refine lv_iconst (v := 0) Z.x Z.b dX7_member_10 (by decide) ?_
    refine lv_sipush (v := 9999) Z.x Z.b dX7_member_11 (by decide) ?_
    refine z_Si (As := [.int a2, .int 0, .int 9999]) Z E hl.1 k_X7_88 wt_X7_isWithin hf (fun r h' e => c_X7_isWithin l G h2 h' a2 0 9999 r e) rfl rfl (Nat.le_of_ble_eq_true rfl) (zRm_of rfl (Nat.zero_le _) (Nat.zero_le _)) dX7_member_14 (fun v3 h4 H locs hf E => ?_)
    refine lv_if_ne (tgt := 23) Z.x Z.b dX7_member_17 (by decide) (fun c => ?_) (fun c => ?_)
    · have hf := zif_ hf c
      refine lv_aload_n Z.x Z.b dX7_member_23 rfl (lv_at hl 0 rfl) ?_
      refine z_getR Z E q_X7_17 dX7_member_24 hf (fun v5 hf => ?_)
      refine z_getI Z E q_X7_92 dX7_member_27 hf (fun v6 hf => ?_)
      refine lv_bipush (v := 12) Z.x Z.b dX7_member_30 (by decide) ?_
      refine lv_icmp_lt (tgt := 38) Z.x Z.b dX7_member_32 (by decide) (fun c => ?_) (fun c => ?_)
      · have hf := zit hf c
        refine lv_aload_n Z.x Z.b dX7_member_38 rfl (lv_at hl 0 rfl) ?_
        refine z_getR Z E q_X7_30 dX7_member_39 hf (fun v7 hf => ?_)
        refine lv_aload_n Z.x Z.b dX7_member_42 rfl (lv_at hl 0 rfl) ?_
        refine z_getR Z E q_X7_17 dX7_member_43 hf (fun v8 hf => ?_)
        refine z_Vv (As := [.ref v8]) Z E hl.1 k_X7_49 v_X1_record hf (fun h' e => c_X1_record l G h4 h' v7 v8 e) rfl rfl (Nat.le_of_ble_eq_true rfl) (zRm_of rfl (Nat.zero_le _) (Nat.zero_le _)) dX7_member_46 (fun h9 H locs hf E => ?_)
        refine lv_aload_n Z.x Z.b dX7_member_49 rfl (lv_at hl 0 rfl) ?_
        refine z_getR Z E q_X7_17 dX7_member_50 hf (fun v10 hf => ?_)
        refine lv_iload_n Z.x Z.b dX7_member_53 rfl (lv_at hl 1 rfl) ?_
        refine lv_iload_n Z.x Z.b dX7_member_54 rfl (lv_at hl 2 rfl) ?_
        refine z_Vi (As := [.int a1, .int a2]) Z E hl.1 k_X7_95 v_X5_addMember hf (fun r h' e => c_X5_addMember l G h9 h' v10 a1 a2 r e) rfl rfl (Nat.le_of_ble_eq_true rfl) (zRm_of rfl (Nat.zero_le _) (Nat.zero_le _)) dX7_member_55 (fun v11 h12 H locs hf E => ?_)
        exact z_iret Z E hr dX7_member_58 hf
      · have hf := zif_ hf c
        refine lv_bipush (v := (-3)) Z.x Z.b dX7_member_35 (by decide) ?_
        exact z_iret Z E hr dX7_member_37 hf
    · have hf := zit hf c
      refine lv_bipush (v := (-2)) Z.x Z.b dX7_member_20 (by decide) ?_
      exact z_iret Z E hr dX7_member_22 hf
  · have hf := zit hf c
    refine lv_iconst (v := (-1)) Z.x Z.b dX7_member_7 (by decide) ?_
    exact z_iret Z E hr dX7_member_8 hf
set_option maxHeartbeats 4000000 in
set_option maxRecDepth 20000 in
theorem c_X7_member (l : Launch) (G : zG) (h : zHp) (h' : zHp) (a0 : Nat) (a1 : Int32) (a2 : Int32) (r : Int32) (hf : f_X7_member a0 a1 a2 h = some (r, h')) : zM0 l yX7_member cX7_member 3 (some .int) rm_X7_member G [.ref a0, .int a1, .int a2] h (zQi G r h') := by
  refine Met.ofW (cc := cX7_member) (maxL := 3) (ret := (some .int)) (by decide) rfl ?_
  intro p e s m args below meth c s₁ B hml hv
  obtain ⟨rfl, hW⟩ := hv
  obtain ⟨Z, E, hr⟩ := zEnter (own := RX7) B hml rfl hW
  have hl := lv_entry ([.ref a0, .int a1, .int a2]) (n := 3) (Nat.le_of_ble_eq_true rfl)
  rw [lg_entry_eq]
  generalize (lg_sl ([.ref a0, .int a1, .int a2]) ++ List.replicate (3 - (lg_sl ([.ref a0, .int a1, .int a2])).length) Slot.unset).toArray = ls at hl ⊢
  have hl : lv_has ls 3 [(0, .ref a0), (1, .int a1), (2, .int a2)] := hl
  exact t_X7_member (out := (r, h')) Z hr hf E hl
/-! FerryCrews.certify(III)I -/
theorem dX7_certify_0 : decode cX7_certify 0 = .ok (.aload_n 0, 1) := by decide +kernel
theorem dX7_certify_1 : decode cX7_certify 1 = .ok (.getfield 17, 3) := by decide +kernel
theorem dX7_certify_4 : decode cX7_certify 4 = .ok (.iload_n 1, 1) := by decide +kernel
theorem dX7_certify_5 : decode cX7_certify 5 = .ok (.invokevirtual 99, 3) := by decide +kernel
theorem dX7_certify_8 : decode cX7_certify 8 = .ok (.astore 4, 2) := by decide +kernel
theorem dX7_certify_10 : decode cX7_certify 10 = .ok (.aload 4, 2) := by decide +kernel
theorem dX7_certify_12 : decode cX7_certify 12 = .ok (.ifnull 10, 3) := by decide +kernel
theorem dX7_certify_15 : decode cX7_certify 15 = .ok (.iload_n 2, 1) := by decide +kernel
theorem dX7_certify_16 : decode cX7_certify 16 = .ok (.invokestatic 84, 3) := by decide +kernel
theorem dX7_certify_19 : decode cX7_certify 19 = .ok (.ifCond .ne 5, 3) := by decide +kernel
theorem dX7_certify_22 : decode cX7_certify 22 = .ok (.iconst (-1), 1) := by decide +kernel
theorem dX7_certify_23 : decode cX7_certify 23 = .ok (.ireturn, 1) := by decide +kernel
theorem dX7_certify_24 : decode cX7_certify 24 = .ok (.iload_n 3, 1) := by decide +kernel
theorem dX7_certify_25 : decode cX7_certify 25 = .ok (.iconst 0, 1) := by decide +kernel
theorem dX7_certify_26 : decode cX7_certify 26 = .ok (.sipush 9999, 3) := by decide +kernel
theorem dX7_certify_29 : decode cX7_certify 29 = .ok (.invokestatic 88, 3) := by decide +kernel
theorem dX7_certify_32 : decode cX7_certify 32 = .ok (.ifCond .ne 6, 3) := by decide +kernel
theorem dX7_certify_35 : decode cX7_certify 35 = .ok (.bipush (-2), 2) := by decide +kernel
theorem dX7_certify_37 : decode cX7_certify 37 = .ok (.ireturn, 1) := by decide +kernel
theorem dX7_certify_38 : decode cX7_certify 38 = .ok (.aload_n 0, 1) := by decide +kernel
theorem dX7_certify_39 : decode cX7_certify 39 = .ok (.getfield 17, 3) := by decide +kernel
theorem dX7_certify_42 : decode cX7_certify 42 = .ok (.iload_n 1, 1) := by decide +kernel
theorem dX7_certify_43 : decode cX7_certify 43 = .ok (.iload_n 2, 1) := by decide +kernel
theorem dX7_certify_44 : decode cX7_certify 44 = .ok (.iload_n 3, 1) := by decide +kernel
theorem dX7_certify_45 : decode cX7_certify 45 = .ok (.invokevirtual 103, 3) := by decide +kernel
theorem dX7_certify_48 : decode cX7_certify 48 = .ok (.ifCond .eq 6, 3) := by decide +kernel
theorem dX7_certify_51 : decode cX7_certify 51 = .ok (.bipush (-4), 2) := by decide +kernel
theorem dX7_certify_53 : decode cX7_certify 53 = .ok (.ireturn, 1) := by decide +kernel
theorem dX7_certify_54 : decode cX7_certify 54 = .ok (.aload_n 0, 1) := by decide +kernel
theorem dX7_certify_55 : decode cX7_certify 55 = .ok (.getfield 30, 3) := by decide +kernel
theorem dX7_certify_58 : decode cX7_certify 58 = .ok (.aload_n 0, 1) := by decide +kernel
theorem dX7_certify_59 : decode cX7_certify 59 = .ok (.getfield 17, 3) := by decide +kernel
theorem dX7_certify_62 : decode cX7_certify 62 = .ok (.invokevirtual 49, 3) := by decide +kernel
theorem dX7_certify_65 : decode cX7_certify 65 = .ok (.aload 4, 2) := by decide +kernel
theorem dX7_certify_67 : decode cX7_certify 67 = .ok (.iload_n 2, 1) := by decide +kernel
theorem dX7_certify_68 : decode cX7_certify 68 = .ok (.iload_n 3, 1) := by decide +kernel
theorem dX7_certify_69 : decode cX7_certify 69 = .ok (.invokevirtual 106, 3) := by decide +kernel
theorem dX7_certify_72 : decode cX7_certify 72 = .ok (.ireturn, 1) := by decide +kernel
set_option maxRecDepth 20000 in
theorem wm_X7_99 : Cond.methodLink RX7 99 yX5_memberAt ∈ zB := List.mem_filter.mpr ⟨List.mem_of_getElem? (i := 288) (by decide +kernel), by decide +kernel⟩
theorem k_X7_99 : zCal RX7 99 yX5_memberAt cX5_memberAt 2 (some (.object "FerryCrews$Member")) 1 := ⟨wm_X7_99, wi_X5, wc_X5_memberAt, by decide +kernel, by decide +kernel, by decide +kernel⟩
set_option maxRecDepth 20000 in
theorem wc_X5_needsCertificateAfter : Cond.code yX5_needsCertificateAfter cX5_needsCertificateAfter 8 (some .boolean) ∈ zB := List.mem_filter.mpr ⟨List.mem_of_getElem? (i := 636) (by decide +kernel), by decide +kernel⟩
set_option maxRecDepth 20000 in
theorem wm_X7_103 : Cond.methodLink RX7 103 yX5_needsCertificateAfter ∈ zB := List.mem_filter.mpr ⟨List.mem_of_getElem? (i := 633) (by decide +kernel), by decide +kernel⟩
theorem k_X7_103 : zCal RX7 103 yX5_needsCertificateAfter cX5_needsCertificateAfter 8 (some .boolean) 3 := ⟨wm_X7_103, wi_X5, wc_X5_needsCertificateAfter, by decide +kernel, by decide +kernel, by decide +kernel⟩
set_option maxRecDepth 20000 in
theorem wn_X5_needsCertificateAfter : Cond.instanceMethod yX5_needsCertificateAfter ∈ zB := List.mem_filter.mpr ⟨List.mem_of_getElem? (i := 634) (by decide +kernel), by decide +kernel⟩
set_option maxRecDepth 20000 in
theorem ws_X5_needsCertificateAfter : Cond.selects RX5 yX5_needsCertificateAfter yX5_needsCertificateAfter ∈ zB := List.mem_filter.mpr ⟨List.mem_of_getElem? (i := 635) (by decide +kernel), by decide +kernel⟩
theorem v_X5_needsCertificateAfter : zVir yX5_needsCertificateAfter 5 := ⟨wn_X5_needsCertificateAfter, ws_X5_needsCertificateAfter, TX5, 8, rfl⟩
set_option maxRecDepth 20000 in
theorem wm_X7_106 : Cond.methodLink RX7 106 yX3_replaceCertificate ∈ zB := List.mem_filter.mpr ⟨List.mem_of_getElem? (i := 638) (by decide +kernel), by decide +kernel⟩
theorem k_X7_106 : zCal RX7 106 yX3_replaceCertificate cX3_replaceCertificate 4 (some .int) 2 := ⟨wm_X7_106, wi_X3, wc_X3_replaceCertificate, by decide +kernel, by decide +kernel, by decide +kernel⟩
def rm_X7_certify : Room := { frames := 4, cells := 0, slots := 0, locals := 104 }
set_option maxHeartbeats 4000000 in
set_option maxRecDepth 20000 in
theorem t_X7_certify {p : Program} {l : Launch} {e : Env} {s : State} {m : MethodId} {args : Array Value} {below : List Frame} {meth : Method} {c : Code} {G : zG} (Z : zF p s m args c meth cX7_certify 5 RX7 G) (hr : meth.sig.returnType = (some .int)) {out : Int32 × zHp} {a0 : Nat} {a1 : Int32} {a2 : Int32} {a3 : Int32} {h : zHp} {H : Heap} {locs : List Loc} {ls : Array Slot} (hf : f_X7_certify a0 a1 a2 a3 h = some out) (E : zE G s h H locs) (hl : lv_has ls 5 [(0, .ref a0), (1, .int a1), (2, .int a2), (3, .int a3)]) : W p l e rm_X7_certify s m args below meth c H locs 0 0 (MQ below (zQi G out.1 out.2) args s 0 0 (zA G)) (F0 m 0 ls []) := by
  unfold f_X7_certify at hf
  refine lv_aload_n Z.x Z.b dX7_certify_0 rfl (lv_at hl 0 rfl) ?_
  refine z_getR Z E q_X7_17 dX7_certify_1 hf (fun v1 hf => ?_)
  refine lv_iload_n Z.x Z.b dX7_certify_4 rfl (lv_at hl 1 rfl) ?_
  refine z_Vq (As := [.int a1]) Z E hl.1 k_X7_99 v_X5_memberAt hf (fun r h' e => c_X5_memberAt l G h h' v1 a1 r e) rfl rfl (Nat.le_of_ble_eq_true rfl) (zRm_of rfl (Nat.zero_le _) (Nat.zero_le _)) dX7_certify_5 (fun w2 h3 H locs hf E => ?_)
  refine z_astore (lv' := [(4, va_rf w2), (0, .ref a0), (1, .int a1), (2, .int a2), (3, .int a3)]) Z (x := w2) dX7_certify_8 hl (by decide) (by cases w2 <;> rfl) (fun ls hl => ?_)
  refine z_aload Z (x := w2) dX7_certify_10 (lv_at hl 0 rfl) ?_
  refine z_ifnull (tgt := 22) Z dX7_certify_12 (by decide) hf (fun ex h9_12 => ?_) (fun v4 ex h9_12 => ?_)
  · subst ex
    have hf := h9_12
    refine lv_iconst (v := (-1)) Z.x Z.b dX7_certify_22 (by decide) ?_
    exact z_iret Z E hr dX7_certify_23 hf
  · subst ex
    have hf := h9_12
    refine lv_iload_n Z.x Z.b dX7_certify_15 rfl (lv_at hl 3 rfl) ?_
    refine z_Si (As := [.int a2]) Z E hl.1 k_X7_84 wt_X7_isRole hf (fun r h' e => c_X7_isRole l G h3 h' a2 r e) rfl rfl (Nat.le_of_ble_eq_true rfl) (zRm_of rfl (Nat.zero_le _) (Nat.zero_le _)) dX7_certify_16 (fun v5 h6 H locs hf E => ?_)
    refine lv_if_ne (tgt := 24) Z.x Z.b dX7_certify_19 (by decide) (fun c => ?_) (fun c => ?_)
    · have hf := zif_ hf c
      refine lv_iload_n Z.x Z.b dX7_certify_24 rfl (lv_at hl 4 rfl) ?_
      refine lv_iconst (v := 0) Z.x Z.b dX7_certify_25 (by decide) ?_
      refine lv_sipush (v := 9999) Z.x Z.b dX7_certify_26 (by decide) ?_
      refine z_Si (As := [.int a3, .int 0, .int 9999]) Z E hl.1 k_X7_88 wt_X7_isWithin hf (fun r h' e => c_X7_isWithin l G h6 h' a3 0 9999 r e) rfl rfl (Nat.le_of_ble_eq_true rfl) (zRm_of rfl (Nat.zero_le _) (Nat.zero_le _)) dX7_certify_29 (fun v7 h8 H locs hf E => ?_)
      refine lv_if_ne (tgt := 38) Z.x Z.b dX7_certify_32 (by decide) (fun c => ?_) (fun c => ?_)
      · have hf := zif_ hf c
        refine lv_aload_n Z.x Z.b dX7_certify_38 rfl (lv_at hl 1 rfl) ?_
        refine z_getR Z E q_X7_17 dX7_certify_39 hf (fun v9 hf => ?_)
        refine lv_iload_n Z.x Z.b dX7_certify_42 rfl (lv_at hl 2 rfl) ?_
        refine lv_iload_n Z.x Z.b dX7_certify_43 rfl (lv_at hl 3 rfl) ?_
        refine lv_iload_n Z.x Z.b dX7_certify_44 rfl (lv_at hl 4 rfl) ?_
        refine z_Vi (As := [.int a1, .int a2, .int a3]) Z E hl.1 k_X7_103 v_X5_needsCertificateAfter hf (fun r h' e => c_X5_needsCertificateAfter l G h8 h' v9 a1 a2 a3 r e) rfl rfl (Nat.le_of_ble_eq_true rfl) (zRm_of rfl (Nat.zero_le _) (Nat.zero_le _)) dX7_certify_45 (fun v10 h11 H locs hf E => ?_)
        refine lv_if_eq (tgt := 54) Z.x Z.b dX7_certify_48 (by decide) (fun c => ?_) (fun c => ?_)
        · have hf := zit hf c
          refine lv_aload_n Z.x Z.b dX7_certify_54 rfl (lv_at hl 1 rfl) ?_
          refine z_getR Z E q_X7_30 dX7_certify_55 hf (fun v12 hf => ?_)
          refine lv_aload_n Z.x Z.b dX7_certify_58 rfl (lv_at hl 1 rfl) ?_
          refine z_getR Z E q_X7_17 dX7_certify_59 hf (fun v13 hf => ?_)
          refine z_Vv (As := [.ref v13]) Z E hl.1 k_X7_49 v_X1_record hf (fun h' e => c_X1_record l G h11 h' v12 v13 e) rfl rfl (Nat.le_of_ble_eq_true rfl) (zRm_of rfl (Nat.zero_le _) (Nat.zero_le _)) dX7_certify_62 (fun h14 H locs hf E => ?_)
          refine lv_aload Z.x Z.b dX7_certify_65 (lv_at hl 0 rfl) ?_
          refine lv_iload_n Z.x Z.b dX7_certify_67 rfl (lv_at hl 3 rfl) ?_
          refine lv_iload_n Z.x Z.b dX7_certify_68 rfl (lv_at hl 4 rfl) ?_
          refine z_Vi (As := [.int a2, .int a3]) Z E hl.1 k_X7_106 v_X3_replaceCertificate hf (fun r h' e => c_X3_replaceCertificate l G h14 h' v4 a2 a3 r e) rfl rfl (Nat.le_of_ble_eq_true rfl) (zRm_of rfl (Nat.zero_le _) (Nat.zero_le _)) dX7_certify_69 (fun v15 h16 H locs hf E => ?_)
          exact z_iret Z E hr dX7_certify_72 hf
        · have hf := zif_ hf c
          refine lv_bipush (v := (-4)) Z.x Z.b dX7_certify_51 (by decide) ?_
          exact z_iret Z E hr dX7_certify_53 hf
      · have hf := zit hf c
        refine lv_bipush (v := (-2)) Z.x Z.b dX7_certify_35 (by decide) ?_
        exact z_iret Z E hr dX7_certify_37 hf
    · have hf := zit hf c
      refine lv_iconst (v := (-1)) Z.x Z.b dX7_certify_22 (by decide) ?_
      exact z_iret Z E hr dX7_certify_23 hf
set_option maxHeartbeats 4000000 in
set_option maxRecDepth 20000 in
theorem c_X7_certify (l : Launch) (G : zG) (h : zHp) (h' : zHp) (a0 : Nat) (a1 : Int32) (a2 : Int32) (a3 : Int32) (r : Int32) (hf : f_X7_certify a0 a1 a2 a3 h = some (r, h')) : zM0 l yX7_certify cX7_certify 5 (some .int) rm_X7_certify G [.ref a0, .int a1, .int a2, .int a3] h (zQi G r h') := by
  refine Met.ofW (cc := cX7_certify) (maxL := 5) (ret := (some .int)) (by decide) rfl ?_
  intro p e s m args below meth c s₁ B hml hv
  obtain ⟨rfl, hW⟩ := hv
  obtain ⟨Z, E, hr⟩ := zEnter (own := RX7) B hml rfl hW
  have hl := lv_entry ([.ref a0, .int a1, .int a2, .int a3]) (n := 5) (Nat.le_of_ble_eq_true rfl)
  rw [lg_entry_eq]
  generalize (lg_sl ([.ref a0, .int a1, .int a2, .int a3]) ++ List.replicate (5 - (lg_sl ([.ref a0, .int a1, .int a2, .int a3])).length) Slot.unset).toArray = ls at hl ⊢
  have hl : lv_has ls 5 [(0, .ref a0), (1, .int a1), (2, .int a2), (3, .int a3)] := hl
  exact t_X7_certify (out := (r, h')) Z hr hf E hl
/-! FerryCrews.climb(II)I -/
theorem dX7_climb_0 : decode cX7_climb 0 = .ok (.aload_n 0, 1) := by decide +kernel
theorem dX7_climb_1 : decode cX7_climb 1 = .ok (.getfield 17, 3) := by decide +kernel
theorem dX7_climb_4 : decode cX7_climb 4 = .ok (.iload_n 2, 1) := by decide +kernel
theorem dX7_climb_5 : decode cX7_climb 5 = .ok (.invokevirtual 111, 3) := by decide +kernel
theorem dX7_climb_8 : decode cX7_climb 8 = .ok (.astore_n 3, 1) := by decide +kernel
theorem dX7_climb_9 : decode cX7_climb 9 = .ok (.aload_n 0, 1) := by decide +kernel
theorem dX7_climb_10 : decode cX7_climb 10 = .ok (.getfield 17, 3) := by decide +kernel
theorem dX7_climb_13 : decode cX7_climb 13 = .ok (.iload_n 1, 1) := by decide +kernel
theorem dX7_climb_14 : decode cX7_climb 14 = .ok (.invokevirtual 99, 3) := by decide +kernel
theorem dX7_climb_17 : decode cX7_climb 17 = .ok (.ifnull 7, 3) := by decide +kernel
theorem dX7_climb_20 : decode cX7_climb 20 = .ok (.aload_n 3, 1) := by decide +kernel
theorem dX7_climb_21 : decode cX7_climb 21 = .ok (.ifnonnull 5, 3) := by decide +kernel
theorem dX7_climb_24 : decode cX7_climb 24 = .ok (.iconst (-1), 1) := by decide +kernel
theorem dX7_climb_25 : decode cX7_climb 25 = .ok (.ireturn, 1) := by decide +kernel
theorem dX7_climb_26 : decode cX7_climb 26 = .ok (.aload_n 0, 1) := by decide +kernel
theorem dX7_climb_27 : decode cX7_climb 27 = .ok (.getfield 30, 3) := by decide +kernel
theorem dX7_climb_30 : decode cX7_climb 30 = .ok (.aload_n 0, 1) := by decide +kernel
theorem dX7_climb_31 : decode cX7_climb 31 = .ok (.getfield 17, 3) := by decide +kernel
theorem dX7_climb_34 : decode cX7_climb 34 = .ok (.invokevirtual 49, 3) := by decide +kernel
theorem dX7_climb_37 : decode cX7_climb 37 = .ok (.aload_n 3, 1) := by decide +kernel
theorem dX7_climb_38 : decode cX7_climb 38 = .ok (.iload_n 1, 1) := by decide +kernel
theorem dX7_climb_39 : decode cX7_climb 39 = .ok (.invokevirtual 115, 3) := by decide +kernel
theorem dX7_climb_42 : decode cX7_climb 42 = .ok (.ireturn, 1) := by decide +kernel
set_option maxRecDepth 20000 in
theorem wm_X7_111 : Cond.methodLink RX7 111 yX5_ladderOf ∈ zB := List.mem_filter.mpr ⟨List.mem_of_getElem? (i := 273) (by decide +kernel), by decide +kernel⟩
theorem k_X7_111 : zCal RX7 111 yX5_ladderOf cX5_ladderOf 2 (some (.object "FerryCrews$Ladder")) 1 := ⟨wm_X7_111, wi_X5, wc_X5_ladderOf, by decide +kernel, by decide +kernel, by decide +kernel⟩
set_option maxRecDepth 20000 in
theorem wm_X7_115 : Cond.methodLink RX7 115 yX2_putLast ∈ zB := List.mem_filter.mpr ⟨List.mem_of_getElem? (i := 570) (by decide +kernel), by decide +kernel⟩
theorem k_X7_115 : zCal RX7 115 yX2_putLast cX2_putLast 2 (some .int) 1 := ⟨wm_X7_115, wi_X2, wc_X2_putLast, by decide +kernel, by decide +kernel, by decide +kernel⟩
def rm_X7_climb : Room := { frames := 4, cells := 0, slots := 0, locals := 104 }
set_option maxHeartbeats 4000000 in
set_option maxRecDepth 20000 in
theorem t_X7_climb {p : Program} {l : Launch} {e : Env} {s : State} {m : MethodId} {args : Array Value} {below : List Frame} {meth : Method} {c : Code} {G : zG} (Z : zF p s m args c meth cX7_climb 4 RX7 G) (hr : meth.sig.returnType = (some .int)) {out : Int32 × zHp} {a0 : Nat} {a1 : Int32} {a2 : Int32} {h : zHp} {H : Heap} {locs : List Loc} {ls : Array Slot} (hf : f_X7_climb a0 a1 a2 h = some out) (E : zE G s h H locs) (hl : lv_has ls 4 [(0, .ref a0), (1, .int a1), (2, .int a2)]) : W p l e rm_X7_climb s m args below meth c H locs 0 0 (MQ below (zQi G out.1 out.2) args s 0 0 (zA G)) (F0 m 0 ls []) := by
  unfold f_X7_climb at hf
  refine lv_aload_n Z.x Z.b dX7_climb_0 rfl (lv_at hl 0 rfl) ?_
  refine z_getR Z E q_X7_17 dX7_climb_1 hf (fun v1 hf => ?_)
  refine lv_iload_n Z.x Z.b dX7_climb_4 rfl (lv_at hl 2 rfl) ?_
  refine z_Vq (As := [.int a2]) Z E hl.1 k_X7_111 v_X5_ladderOf hf (fun r h' e => c_X5_ladderOf l G h h' v1 a2 r e) rfl rfl (Nat.le_of_ble_eq_true rfl) (zRm_of rfl (Nat.zero_le _) (Nat.zero_le _)) dX7_climb_5 (fun w2 h3 H locs hf E => ?_)
  refine z_astore_n (lv' := [(3, va_rf w2), (0, .ref a0), (1, .int a1), (2, .int a2)]) Z (x := w2) dX7_climb_8 rfl hl (by decide) (by cases w2 <;> rfl) (fun ls hl => ?_)
  refine lv_aload_n Z.x Z.b dX7_climb_9 rfl (lv_at hl 1 rfl) ?_
  refine z_getR Z E q_X7_17 dX7_climb_10 hf (fun v4 hf => ?_)
  refine lv_iload_n Z.x Z.b dX7_climb_13 rfl (lv_at hl 2 rfl) ?_
  refine z_Vq (As := [.int a1]) Z E hl.1 k_X7_99 v_X5_memberAt hf (fun r h' e => c_X5_memberAt l G h3 h' v4 a1 r e) rfl rfl (Nat.le_of_ble_eq_true rfl) (zRm_of rfl (Nat.zero_le _) (Nat.zero_le _)) dX7_climb_14 (fun w5 h6 H locs hf E => ?_)
  refine z_ifnull (tgt := 24) Z dX7_climb_17 (by decide) hf (fun ex h9_17 => ?_) (fun v7 ex h9_17 => ?_)
  · subst ex
    have hf := h9_17
    refine lv_iconst (v := (-1)) Z.x Z.b dX7_climb_24 (by decide) ?_
    exact z_iret Z E hr dX7_climb_25 hf
  · subst ex
    have hf := h9_17
    refine z_aload_n Z (x := w2) dX7_climb_20 rfl (lv_at hl 0 rfl) ?_
    refine z_ifnonnull (tgt := 26) Z dX7_climb_21 (by decide) hf (fun ex h9_21 => ?_) (fun v8 ex h9_21 => ?_)
    · subst ex
      have hf := h9_21
      refine lv_iconst (v := (-1)) Z.x Z.b dX7_climb_24 (by decide) ?_
      exact z_iret Z E hr dX7_climb_25 hf
    · subst ex
      have hf := h9_21
      refine lv_aload_n Z.x Z.b dX7_climb_26 rfl (lv_at hl 1 rfl) ?_
      refine z_getR Z E q_X7_30 dX7_climb_27 hf (fun v9 hf => ?_)
      refine lv_aload_n Z.x Z.b dX7_climb_30 rfl (lv_at hl 1 rfl) ?_
      refine z_getR Z E q_X7_17 dX7_climb_31 hf (fun v10 hf => ?_)
      refine z_Vv (As := [.ref v10]) Z E hl.1 k_X7_49 v_X1_record hf (fun h' e => c_X1_record l G h6 h' v9 v10 e) rfl rfl (Nat.le_of_ble_eq_true rfl) (zRm_of rfl (Nat.zero_le _) (Nat.zero_le _)) dX7_climb_34 (fun h11 H locs hf E => ?_)
      refine lv_aload_n Z.x Z.b dX7_climb_37 rfl (lv_at hl 0 rfl) ?_
      refine lv_iload_n Z.x Z.b dX7_climb_38 rfl (lv_at hl 2 rfl) ?_
      refine z_Vi (As := [.int a1]) Z E hl.1 k_X7_115 v_X2_putLast hf (fun r h' e => c_X2_putLast l G h11 h' v8 a1 r e) rfl rfl (Nat.le_of_ble_eq_true rfl) (zRm_of rfl (Nat.zero_le _) (Nat.zero_le _)) dX7_climb_39 (fun v12 h13 H locs hf E => ?_)
      exact z_iret Z E hr dX7_climb_42 hf
set_option maxHeartbeats 4000000 in
set_option maxRecDepth 20000 in
theorem c_X7_climb (l : Launch) (G : zG) (h : zHp) (h' : zHp) (a0 : Nat) (a1 : Int32) (a2 : Int32) (r : Int32) (hf : f_X7_climb a0 a1 a2 h = some (r, h')) : zM0 l yX7_climb cX7_climb 4 (some .int) rm_X7_climb G [.ref a0, .int a1, .int a2] h (zQi G r h') := by
  refine Met.ofW (cc := cX7_climb) (maxL := 4) (ret := (some .int)) (by decide) rfl ?_
  intro p e s m args below meth c s₁ B hml hv
  obtain ⟨rfl, hW⟩ := hv
  obtain ⟨Z, E, hr⟩ := zEnter (own := RX7) B hml rfl hW
  have hl := lv_entry ([.ref a0, .int a1, .int a2]) (n := 4) (Nat.le_of_ble_eq_true rfl)
  rw [lg_entry_eq]
  generalize (lg_sl ([.ref a0, .int a1, .int a2]) ++ List.replicate (4 - (lg_sl ([.ref a0, .int a1, .int a2])).length) Slot.unset).toArray = ls at hl ⊢
  have hl : lv_has ls 4 [(0, .ref a0), (1, .int a1), (2, .int a2)] := hl
  exact t_X7_climb (out := (r, h')) Z hr hf E hl
/-! FerryCrews.leave(II)I -/
theorem dX7_leave_0 : decode cX7_leave 0 = .ok (.aload_n 0, 1) := by decide +kernel
theorem dX7_leave_1 : decode cX7_leave 1 = .ok (.getfield 17, 3) := by decide +kernel
theorem dX7_leave_4 : decode cX7_leave 4 = .ok (.iload_n 2, 1) := by decide +kernel
theorem dX7_leave_5 : decode cX7_leave 5 = .ok (.invokevirtual 111, 3) := by decide +kernel
theorem dX7_leave_8 : decode cX7_leave 8 = .ok (.astore_n 3, 1) := by decide +kernel
theorem dX7_leave_9 : decode cX7_leave 9 = .ok (.aload_n 0, 1) := by decide +kernel
theorem dX7_leave_10 : decode cX7_leave 10 = .ok (.getfield 17, 3) := by decide +kernel
theorem dX7_leave_13 : decode cX7_leave 13 = .ok (.iload_n 1, 1) := by decide +kernel
theorem dX7_leave_14 : decode cX7_leave 14 = .ok (.invokevirtual 99, 3) := by decide +kernel
theorem dX7_leave_17 : decode cX7_leave 17 = .ok (.ifnull 7, 3) := by decide +kernel
theorem dX7_leave_20 : decode cX7_leave 20 = .ok (.aload_n 3, 1) := by decide +kernel
theorem dX7_leave_21 : decode cX7_leave 21 = .ok (.ifnonnull 5, 3) := by decide +kernel
theorem dX7_leave_24 : decode cX7_leave 24 = .ok (.iconst (-1), 1) := by decide +kernel
theorem dX7_leave_25 : decode cX7_leave 25 = .ok (.ireturn, 1) := by decide +kernel
theorem dX7_leave_26 : decode cX7_leave 26 = .ok (.aload_n 3, 1) := by decide +kernel
theorem dX7_leave_27 : decode cX7_leave 27 = .ok (.iload_n 1, 1) := by decide +kernel
theorem dX7_leave_28 : decode cX7_leave 28 = .ok (.invokevirtual 121, 3) := by decide +kernel
theorem dX7_leave_31 : decode cX7_leave 31 = .ok (.ifCond .ne 6, 3) := by decide +kernel
theorem dX7_leave_34 : decode cX7_leave 34 = .ok (.bipush (-5), 2) := by decide +kernel
theorem dX7_leave_36 : decode cX7_leave 36 = .ok (.ireturn, 1) := by decide +kernel
theorem dX7_leave_37 : decode cX7_leave 37 = .ok (.aload_n 0, 1) := by decide +kernel
theorem dX7_leave_38 : decode cX7_leave 38 = .ok (.getfield 30, 3) := by decide +kernel
theorem dX7_leave_41 : decode cX7_leave 41 = .ok (.aload_n 0, 1) := by decide +kernel
theorem dX7_leave_42 : decode cX7_leave 42 = .ok (.getfield 17, 3) := by decide +kernel
theorem dX7_leave_45 : decode cX7_leave 45 = .ok (.invokevirtual 49, 3) := by decide +kernel
theorem dX7_leave_48 : decode cX7_leave 48 = .ok (.aload_n 3, 1) := by decide +kernel
theorem dX7_leave_49 : decode cX7_leave 49 = .ok (.iload_n 1, 1) := by decide +kernel
theorem dX7_leave_50 : decode cX7_leave 50 = .ok (.invokevirtual 124, 3) := by decide +kernel
theorem dX7_leave_53 : decode cX7_leave 53 = .ok (.ireturn, 1) := by decide +kernel
set_option maxRecDepth 20000 in
theorem wc_X2_has : Cond.code yX2_has cX2_has 3 (some .boolean) ∈ zB := List.mem_filter.mpr ⟨List.mem_of_getElem? (i := 578) (by decide +kernel), by decide +kernel⟩
set_option maxRecDepth 20000 in
theorem wm_X7_121 : Cond.methodLink RX7 121 yX2_has ∈ zB := List.mem_filter.mpr ⟨List.mem_of_getElem? (i := 575) (by decide +kernel), by decide +kernel⟩
theorem k_X7_121 : zCal RX7 121 yX2_has cX2_has 3 (some .boolean) 1 := ⟨wm_X7_121, wi_X2, wc_X2_has, by decide +kernel, by decide +kernel, by decide +kernel⟩
set_option maxRecDepth 20000 in
theorem wn_X2_has : Cond.instanceMethod yX2_has ∈ zB := List.mem_filter.mpr ⟨List.mem_of_getElem? (i := 576) (by decide +kernel), by decide +kernel⟩
set_option maxRecDepth 20000 in
theorem ws_X2_has : Cond.selects RX2 yX2_has yX2_has ∈ zB := List.mem_filter.mpr ⟨List.mem_of_getElem? (i := 577) (by decide +kernel), by decide +kernel⟩
theorem v_X2_has : zVir yX2_has 2 := ⟨wn_X2_has, ws_X2_has, TX2, 2, rfl⟩
set_option maxRecDepth 20000 in
theorem wm_X7_124 : Cond.methodLink RX7 124 yX2_takeOff ∈ zB := List.mem_filter.mpr ⟨List.mem_of_getElem? (i := 580) (by decide +kernel), by decide +kernel⟩
theorem k_X7_124 : zCal RX7 124 yX2_takeOff cX2_takeOff 4 (some .int) 1 := ⟨wm_X7_124, wi_X2, wc_X2_takeOff, by decide +kernel, by decide +kernel, by decide +kernel⟩
def rm_X7_leave : Room := { frames := 4, cells := 0, slots := 0, locals := 104 }
set_option maxHeartbeats 4000000 in
set_option maxRecDepth 20000 in
theorem t_X7_leave {p : Program} {l : Launch} {e : Env} {s : State} {m : MethodId} {args : Array Value} {below : List Frame} {meth : Method} {c : Code} {G : zG} (Z : zF p s m args c meth cX7_leave 4 RX7 G) (hr : meth.sig.returnType = (some .int)) {out : Int32 × zHp} {a0 : Nat} {a1 : Int32} {a2 : Int32} {h : zHp} {H : Heap} {locs : List Loc} {ls : Array Slot} (hf : f_X7_leave a0 a1 a2 h = some out) (E : zE G s h H locs) (hl : lv_has ls 4 [(0, .ref a0), (1, .int a1), (2, .int a2)]) : W p l e rm_X7_leave s m args below meth c H locs 0 0 (MQ below (zQi G out.1 out.2) args s 0 0 (zA G)) (F0 m 0 ls []) := by
  unfold f_X7_leave at hf
  refine lv_aload_n Z.x Z.b dX7_leave_0 rfl (lv_at hl 0 rfl) ?_
  refine z_getR Z E q_X7_17 dX7_leave_1 hf (fun v1 hf => ?_)
  refine lv_iload_n Z.x Z.b dX7_leave_4 rfl (lv_at hl 2 rfl) ?_
  refine z_Vq (As := [.int a2]) Z E hl.1 k_X7_111 v_X5_ladderOf hf (fun r h' e => c_X5_ladderOf l G h h' v1 a2 r e) rfl rfl (Nat.le_of_ble_eq_true rfl) (zRm_of rfl (Nat.zero_le _) (Nat.zero_le _)) dX7_leave_5 (fun w2 h3 H locs hf E => ?_)
  refine z_astore_n (lv' := [(3, va_rf w2), (0, .ref a0), (1, .int a1), (2, .int a2)]) Z (x := w2) dX7_leave_8 rfl hl (by decide) (by cases w2 <;> rfl) (fun ls hl => ?_)
  refine lv_aload_n Z.x Z.b dX7_leave_9 rfl (lv_at hl 1 rfl) ?_
  refine z_getR Z E q_X7_17 dX7_leave_10 hf (fun v4 hf => ?_)
  refine lv_iload_n Z.x Z.b dX7_leave_13 rfl (lv_at hl 2 rfl) ?_
  refine z_Vq (As := [.int a1]) Z E hl.1 k_X7_99 v_X5_memberAt hf (fun r h' e => c_X5_memberAt l G h3 h' v4 a1 r e) rfl rfl (Nat.le_of_ble_eq_true rfl) (zRm_of rfl (Nat.zero_le _) (Nat.zero_le _)) dX7_leave_14 (fun w5 h6 H locs hf E => ?_)
  refine z_ifnull (tgt := 24) Z dX7_leave_17 (by decide) hf (fun ex h9_17 => ?_) (fun v7 ex h9_17 => ?_)
  · subst ex
    have hf := h9_17
    refine lv_iconst (v := (-1)) Z.x Z.b dX7_leave_24 (by decide) ?_
    exact z_iret Z E hr dX7_leave_25 hf
  · subst ex
    have hf := h9_17
    refine z_aload_n Z (x := w2) dX7_leave_20 rfl (lv_at hl 0 rfl) ?_
    refine z_ifnonnull (tgt := 26) Z dX7_leave_21 (by decide) hf (fun ex h9_21 => ?_) (fun v8 ex h9_21 => ?_)
    · subst ex
      have hf := h9_21
      refine lv_iconst (v := (-1)) Z.x Z.b dX7_leave_24 (by decide) ?_
      exact z_iret Z E hr dX7_leave_25 hf
    · subst ex
      have hf := h9_21
      refine lv_aload_n Z.x Z.b dX7_leave_26 rfl (lv_at hl 0 rfl) ?_
      refine lv_iload_n Z.x Z.b dX7_leave_27 rfl (lv_at hl 2 rfl) ?_
      refine z_Vi (As := [.int a1]) Z E hl.1 k_X7_121 v_X2_has hf (fun r h' e => c_X2_has l G h6 h' v8 a1 r e) rfl rfl (Nat.le_of_ble_eq_true rfl) (zRm_of rfl (Nat.zero_le _) (Nat.zero_le _)) dX7_leave_28 (fun v9 h10 H locs hf E => ?_)
      refine lv_if_ne (tgt := 37) Z.x Z.b dX7_leave_31 (by decide) (fun c => ?_) (fun c => ?_)
      · have hf := zif_ hf c
        refine lv_aload_n Z.x Z.b dX7_leave_37 rfl (lv_at hl 1 rfl) ?_
        refine z_getR Z E q_X7_30 dX7_leave_38 hf (fun v11 hf => ?_)
        refine lv_aload_n Z.x Z.b dX7_leave_41 rfl (lv_at hl 1 rfl) ?_
        refine z_getR Z E q_X7_17 dX7_leave_42 hf (fun v12 hf => ?_)
        refine z_Vv (As := [.ref v12]) Z E hl.1 k_X7_49 v_X1_record hf (fun h' e => c_X1_record l G h10 h' v11 v12 e) rfl rfl (Nat.le_of_ble_eq_true rfl) (zRm_of rfl (Nat.zero_le _) (Nat.zero_le _)) dX7_leave_45 (fun h13 H locs hf E => ?_)
        refine lv_aload_n Z.x Z.b dX7_leave_48 rfl (lv_at hl 0 rfl) ?_
        refine lv_iload_n Z.x Z.b dX7_leave_49 rfl (lv_at hl 2 rfl) ?_
        refine z_Vi (As := [.int a1]) Z E hl.1 k_X7_124 v_X2_takeOff hf (fun r h' e => c_X2_takeOff l G h13 h' v8 a1 r e) rfl rfl (Nat.le_of_ble_eq_true rfl) (zRm_of rfl (Nat.zero_le _) (Nat.zero_le _)) dX7_leave_50 (fun v14 h15 H locs hf E => ?_)
        exact z_iret Z E hr dX7_leave_53 hf
      · have hf := zit hf c
        refine lv_bipush (v := (-5)) Z.x Z.b dX7_leave_34 (by decide) ?_
        exact z_iret Z E hr dX7_leave_36 hf
set_option maxHeartbeats 4000000 in
set_option maxRecDepth 20000 in
theorem c_X7_leave (l : Launch) (G : zG) (h : zHp) (h' : zHp) (a0 : Nat) (a1 : Int32) (a2 : Int32) (r : Int32) (hf : f_X7_leave a0 a1 a2 h = some (r, h')) : zM0 l yX7_leave cX7_leave 4 (some .int) rm_X7_leave G [.ref a0, .int a1, .int a2] h (zQi G r h') := by
  refine Met.ofW (cc := cX7_leave) (maxL := 4) (ret := (some .int)) (by decide) rfl ?_
  intro p e s m args below meth c s₁ B hml hv
  obtain ⟨rfl, hW⟩ := hv
  obtain ⟨Z, E, hr⟩ := zEnter (own := RX7) B hml rfl hW
  have hl := lv_entry ([.ref a0, .int a1, .int a2]) (n := 4) (Nat.le_of_ble_eq_true rfl)
  rw [lg_entry_eq]
  generalize (lg_sl ([.ref a0, .int a1, .int a2]) ++ List.replicate (4 - (lg_sl ([.ref a0, .int a1, .int a2])).length) Slot.unset).toArray = ls at hl ⊢
  have hl : lv_has ls 4 [(0, .ref a0), (1, .int a1), (2, .int a2)] := hl
  exact t_X7_leave (out := (r, h')) Z hr hf E hl
/-! FerryCrews.sick(II)I -/
theorem dX7_sick_0 : decode cX7_sick 0 = .ok (.aload_n 0, 1) := by decide +kernel
theorem dX7_sick_1 : decode cX7_sick 1 = .ok (.getfield 17, 3) := by decide +kernel
theorem dX7_sick_4 : decode cX7_sick 4 = .ok (.iload_n 1, 1) := by decide +kernel
theorem dX7_sick_5 : decode cX7_sick 5 = .ok (.invokevirtual 99, 3) := by decide +kernel
theorem dX7_sick_8 : decode cX7_sick 8 = .ok (.ifnonnull 5, 3) := by decide +kernel
theorem dX7_sick_11 : decode cX7_sick 11 = .ok (.iconst (-1), 1) := by decide +kernel
theorem dX7_sick_12 : decode cX7_sick 12 = .ok (.ireturn, 1) := by decide +kernel
theorem dX7_sick_13 : decode cX7_sick 13 = .ok (.iload_n 2, 1) := by decide +kernel
theorem dX7_sick_14 : decode cX7_sick 14 = .ok (.iconst 1, 1) := by decide +kernel
theorem dX7_sick_15 : decode cX7_sick 15 = .ok (.sipush 400, 3) := by decide +kernel
theorem dX7_sick_18 : decode cX7_sick 18 = .ok (.invokestatic 88, 3) := by decide +kernel
theorem dX7_sick_21 : decode cX7_sick 21 = .ok (.ifCond .ne 6, 3) := by decide +kernel
theorem dX7_sick_24 : decode cX7_sick 24 = .ok (.bipush (-2), 2) := by decide +kernel
theorem dX7_sick_26 : decode cX7_sick 26 = .ok (.ireturn, 1) := by decide +kernel
theorem dX7_sick_27 : decode cX7_sick 27 = .ok (.aload_n 0, 1) := by decide +kernel
theorem dX7_sick_28 : decode cX7_sick 28 = .ok (.getfield 30, 3) := by decide +kernel
theorem dX7_sick_31 : decode cX7_sick 31 = .ok (.aload_n 0, 1) := by decide +kernel
theorem dX7_sick_32 : decode cX7_sick 32 = .ok (.getfield 17, 3) := by decide +kernel
theorem dX7_sick_35 : decode cX7_sick 35 = .ok (.invokevirtual 49, 3) := by decide +kernel
theorem dX7_sick_38 : decode cX7_sick 38 = .ok (.aload_n 0, 1) := by decide +kernel
theorem dX7_sick_39 : decode cX7_sick 39 = .ok (.getfield 17, 3) := by decide +kernel
theorem dX7_sick_42 : decode cX7_sick 42 = .ok (.iload_n 1, 1) := by decide +kernel
theorem dX7_sick_43 : decode cX7_sick 43 = .ok (.iload_n 2, 1) := by decide +kernel
theorem dX7_sick_44 : decode cX7_sick 44 = .ok (.invokevirtual 127, 3) := by decide +kernel
theorem dX7_sick_47 : decode cX7_sick 47 = .ok (.ireturn, 1) := by decide +kernel
set_option maxRecDepth 20000 in
theorem wc_X5_fallSick : Cond.code yX5_fallSick cX5_fallSick 9 (some .int) ∈ zB := List.mem_filter.mpr ⟨List.mem_of_getElem? (i := 627) (by decide +kernel), by decide +kernel⟩
set_option maxRecDepth 20000 in
theorem wm_X7_127 : Cond.methodLink RX7 127 yX5_fallSick ∈ zB := List.mem_filter.mpr ⟨List.mem_of_getElem? (i := 624) (by decide +kernel), by decide +kernel⟩
theorem k_X7_127 : zCal RX7 127 yX5_fallSick cX5_fallSick 9 (some .int) 2 := ⟨wm_X7_127, wi_X5, wc_X5_fallSick, by decide +kernel, by decide +kernel, by decide +kernel⟩
set_option maxRecDepth 20000 in
theorem wn_X5_fallSick : Cond.instanceMethod yX5_fallSick ∈ zB := List.mem_filter.mpr ⟨List.mem_of_getElem? (i := 625) (by decide +kernel), by decide +kernel⟩
set_option maxRecDepth 20000 in
theorem ws_X5_fallSick : Cond.selects RX5 yX5_fallSick yX5_fallSick ∈ zB := List.mem_filter.mpr ⟨List.mem_of_getElem? (i := 626) (by decide +kernel), by decide +kernel⟩
theorem v_X5_fallSick : zVir yX5_fallSick 5 := ⟨wn_X5_fallSick, ws_X5_fallSick, TX5, 8, rfl⟩
def rm_X7_sick : Room := { frames := 7, cells := 0, slots := 0, locals := 167 }
set_option maxHeartbeats 4000000 in
set_option maxRecDepth 20000 in
theorem t_X7_sick {p : Program} {l : Launch} {e : Env} {s : State} {m : MethodId} {args : Array Value} {below : List Frame} {meth : Method} {c : Code} {G : zG} (Z : zF p s m args c meth cX7_sick 3 RX7 G) (hr : meth.sig.returnType = (some .int)) {out : Int32 × zHp} {a0 : Nat} {a1 : Int32} {a2 : Int32} {h : zHp} {H : Heap} {locs : List Loc} {ls : Array Slot} (hf : f_X7_sick a0 a1 a2 h = some out) (E : zE G s h H locs) (hl : lv_has ls 3 [(0, .ref a0), (1, .int a1), (2, .int a2)]) : W p l e rm_X7_sick s m args below meth c H locs 0 0 (MQ below (zQi G out.1 out.2) args s 0 0 (zA G)) (F0 m 0 ls []) := by
  unfold f_X7_sick at hf
  refine lv_aload_n Z.x Z.b dX7_sick_0 rfl (lv_at hl 0 rfl) ?_
  refine z_getR Z E q_X7_17 dX7_sick_1 hf (fun v1 hf => ?_)
  refine lv_iload_n Z.x Z.b dX7_sick_4 rfl (lv_at hl 1 rfl) ?_
  refine z_Vq (As := [.int a1]) Z E hl.1 k_X7_99 v_X5_memberAt hf (fun r h' e => c_X5_memberAt l G h h' v1 a1 r e) rfl rfl (Nat.le_of_ble_eq_true rfl) (zRm_of rfl (Nat.zero_le _) (Nat.zero_le _)) dX7_sick_5 (fun w2 h3 H locs hf E => ?_)
  refine z_ifnonnull (tgt := 13) Z dX7_sick_8 (by decide) hf (fun ex h9_8 => ?_) (fun v4 ex h9_8 => ?_)
  · subst ex
    have hf := h9_8
    refine lv_iconst (v := (-1)) Z.x Z.b dX7_sick_11 (by decide) ?_
    exact z_iret Z E hr dX7_sick_12 hf
  · subst ex
    have hf := h9_8
    refine lv_iload_n Z.x Z.b dX7_sick_13 rfl (lv_at hl 2 rfl) ?_
    refine lv_iconst (v := 1) Z.x Z.b dX7_sick_14 (by decide) ?_
    refine lv_sipush (v := 400) Z.x Z.b dX7_sick_15 (by decide) ?_
    refine z_Si (As := [.int a2, .int 1, .int 400]) Z E hl.1 k_X7_88 wt_X7_isWithin hf (fun r h' e => c_X7_isWithin l G h3 h' a2 1 400 r e) rfl rfl (Nat.le_of_ble_eq_true rfl) (zRm_of rfl (Nat.zero_le _) (Nat.zero_le _)) dX7_sick_18 (fun v5 h6 H locs hf E => ?_)
    refine lv_if_ne (tgt := 27) Z.x Z.b dX7_sick_21 (by decide) (fun c => ?_) (fun c => ?_)
    · have hf := zif_ hf c
      refine lv_aload_n Z.x Z.b dX7_sick_27 rfl (lv_at hl 0 rfl) ?_
      refine z_getR Z E q_X7_30 dX7_sick_28 hf (fun v7 hf => ?_)
      refine lv_aload_n Z.x Z.b dX7_sick_31 rfl (lv_at hl 0 rfl) ?_
      refine z_getR Z E q_X7_17 dX7_sick_32 hf (fun v8 hf => ?_)
      refine z_Vv (As := [.ref v8]) Z E hl.1 k_X7_49 v_X1_record hf (fun h' e => c_X1_record l G h6 h' v7 v8 e) rfl rfl (Nat.le_of_ble_eq_true rfl) (zRm_of rfl (Nat.zero_le _) (Nat.zero_le _)) dX7_sick_35 (fun h9 H locs hf E => ?_)
      refine lv_aload_n Z.x Z.b dX7_sick_38 rfl (lv_at hl 0 rfl) ?_
      refine z_getR Z E q_X7_17 dX7_sick_39 hf (fun v10 hf => ?_)
      refine lv_iload_n Z.x Z.b dX7_sick_42 rfl (lv_at hl 1 rfl) ?_
      refine lv_iload_n Z.x Z.b dX7_sick_43 rfl (lv_at hl 2 rfl) ?_
      refine z_Vi (As := [.int a1, .int a2]) Z E hl.1 k_X7_127 v_X5_fallSick hf (fun r h' e => c_X5_fallSick l G h9 h' v10 a1 a2 r e) rfl rfl (Nat.le_of_ble_eq_true rfl) (zRm_of rfl (Nat.zero_le _) (Nat.zero_le _)) dX7_sick_44 (fun v11 h12 H locs hf E => ?_)
      exact z_iret Z E hr dX7_sick_47 hf
    · have hf := zit hf c
      refine lv_bipush (v := (-2)) Z.x Z.b dX7_sick_24 (by decide) ?_
      exact z_iret Z E hr dX7_sick_26 hf
set_option maxHeartbeats 4000000 in
set_option maxRecDepth 20000 in
theorem c_X7_sick (l : Launch) (G : zG) (h : zHp) (h' : zHp) (a0 : Nat) (a1 : Int32) (a2 : Int32) (r : Int32) (hf : f_X7_sick a0 a1 a2 h = some (r, h')) : zM0 l yX7_sick cX7_sick 3 (some .int) rm_X7_sick G [.ref a0, .int a1, .int a2] h (zQi G r h') := by
  refine Met.ofW (cc := cX7_sick) (maxL := 3) (ret := (some .int)) (by decide) rfl ?_
  intro p e s m args below meth c s₁ B hml hv
  obtain ⟨rfl, hW⟩ := hv
  obtain ⟨Z, E, hr⟩ := zEnter (own := RX7) B hml rfl hW
  have hl := lv_entry ([.ref a0, .int a1, .int a2]) (n := 3) (Nat.le_of_ble_eq_true rfl)
  rw [lg_entry_eq]
  generalize (lg_sl ([.ref a0, .int a1, .int a2]) ++ List.replicate (3 - (lg_sl ([.ref a0, .int a1, .int a2])).length) Slot.unset).toArray = ls at hl ⊢
  have hl : lv_has ls 3 [(0, .ref a0), (1, .int a1), (2, .int a2)] := hl
  exact t_X7_sick (out := (r, h')) Z hr hf E hl
/-! FerryCrews.well(I)I -/
theorem dX7_well_0 : decode cX7_well 0 = .ok (.aload_n 0, 1) := by decide +kernel
theorem dX7_well_1 : decode cX7_well 1 = .ok (.getfield 17, 3) := by decide +kernel
theorem dX7_well_4 : decode cX7_well 4 = .ok (.iload_n 1, 1) := by decide +kernel
theorem dX7_well_5 : decode cX7_well 5 = .ok (.invokevirtual 99, 3) := by decide +kernel
theorem dX7_well_8 : decode cX7_well 8 = .ok (.astore_n 2, 1) := by decide +kernel
theorem dX7_well_9 : decode cX7_well 9 = .ok (.aload_n 2, 1) := by decide +kernel
theorem dX7_well_10 : decode cX7_well 10 = .ok (.ifnonnull 5, 3) := by decide +kernel
theorem dX7_well_13 : decode cX7_well 13 = .ok (.iconst (-1), 1) := by decide +kernel
theorem dX7_well_14 : decode cX7_well 14 = .ok (.ireturn, 1) := by decide +kernel
theorem dX7_well_15 : decode cX7_well 15 = .ok (.aload_n 2, 1) := by decide +kernel
theorem dX7_well_16 : decode cX7_well 16 = .ok (.getfield 130, 3) := by decide +kernel
theorem dX7_well_19 : decode cX7_well 19 = .ok (.aload_n 0, 1) := by decide +kernel
theorem dX7_well_20 : decode cX7_well 20 = .ok (.getfield 17, 3) := by decide +kernel
theorem dX7_well_23 : decode cX7_well 23 = .ok (.getfield 133, 3) := by decide +kernel
theorem dX7_well_26 : decode cX7_well 26 = .ok (.isub, 1) := by decide +kernel
theorem dX7_well_27 : decode cX7_well 27 = .ok (.istore_n 3, 1) := by decide +kernel
theorem dX7_well_28 : decode cX7_well 28 = .ok (.iload_n 3, 1) := by decide +kernel
theorem dX7_well_29 : decode cX7_well 29 = .ok (.ifCond .gt 6, 3) := by decide +kernel
theorem dX7_well_32 : decode cX7_well 32 = .ok (.bipush (-5), 2) := by decide +kernel
theorem dX7_well_34 : decode cX7_well 34 = .ok (.ireturn, 1) := by decide +kernel
theorem dX7_well_35 : decode cX7_well 35 = .ok (.aload_n 0, 1) := by decide +kernel
theorem dX7_well_36 : decode cX7_well 36 = .ok (.getfield 30, 3) := by decide +kernel
theorem dX7_well_39 : decode cX7_well 39 = .ok (.aload_n 0, 1) := by decide +kernel
theorem dX7_well_40 : decode cX7_well 40 = .ok (.getfield 17, 3) := by decide +kernel
theorem dX7_well_43 : decode cX7_well 43 = .ok (.invokevirtual 49, 3) := by decide +kernel
theorem dX7_well_46 : decode cX7_well 46 = .ok (.aload_n 2, 1) := by decide +kernel
theorem dX7_well_47 : decode cX7_well 47 = .ok (.iconst 0, 1) := by decide +kernel
theorem dX7_well_48 : decode cX7_well 48 = .ok (.putfield 130, 3) := by decide +kernel
theorem dX7_well_51 : decode cX7_well 51 = .ok (.iload_n 3, 1) := by decide +kernel
theorem dX7_well_52 : decode cX7_well 52 = .ok (.ireturn, 1) := by decide +kernel
set_option maxRecDepth 20000 in
theorem wf_X7_130 : Cond.fieldLink RX7 130 RX3 "sickUntil" "I" ∈ zB := List.mem_filter.mpr ⟨List.mem_of_getElem? (i := 119) (by decide +kernel), by decide +kernel⟩
theorem q_X7_130 : zFld RX7 130 3 1 := ⟨RX3, TX3, 3, rfl, by decide, iX3, wf_X7_130, rfl⟩
set_option maxRecDepth 20000 in
theorem wf_X7_133 : Cond.fieldLink RX7 133 RX5 "now" "I" ∈ zB := List.mem_filter.mpr ⟨List.mem_of_getElem? (i := 148) (by decide +kernel), by decide +kernel⟩
theorem q_X7_133 : zFld RX7 133 5 2 := ⟨RX5, TX5, 8, rfl, by decide, iX5, wf_X7_133, rfl⟩
theorem p_X7_130 : zPut RX7 130 3 1 false .int := ⟨RX3, TX3, 3, tyX3, rfl, by decide, iX3, wf_X7_130, rfl, tyX3_ok, nmX3, rfl, by decide +kernel, fun q => by cases q⟩
def rm_X7_well : Room := { frames := 4, cells := 0, slots := 0, locals := 104 }
set_option maxHeartbeats 4000000 in
set_option maxRecDepth 20000 in
theorem t_X7_well {p : Program} {l : Launch} {e : Env} {s : State} {m : MethodId} {args : Array Value} {below : List Frame} {meth : Method} {c : Code} {G : zG} (Z : zF p s m args c meth cX7_well 4 RX7 G) (hr : meth.sig.returnType = (some .int)) {out : Int32 × zHp} {a0 : Nat} {a1 : Int32} {h : zHp} {H : Heap} {locs : List Loc} {ls : Array Slot} (hf : f_X7_well a0 a1 h = some out) (E : zE G s h H locs) (hl : lv_has ls 4 [(0, .ref a0), (1, .int a1)]) : W p l e rm_X7_well s m args below meth c H locs 0 0 (MQ below (zQi G out.1 out.2) args s 0 0 (zA G)) (F0 m 0 ls []) := by
  unfold f_X7_well at hf
  refine lv_aload_n Z.x Z.b dX7_well_0 rfl (lv_at hl 0 rfl) ?_
  refine z_getR Z E q_X7_17 dX7_well_1 hf (fun v1 hf => ?_)
  refine lv_iload_n Z.x Z.b dX7_well_4 rfl (lv_at hl 1 rfl) ?_
  refine z_Vq (As := [.int a1]) Z E hl.1 k_X7_99 v_X5_memberAt hf (fun r h' e => c_X5_memberAt l G h h' v1 a1 r e) rfl rfl (Nat.le_of_ble_eq_true rfl) (zRm_of rfl (Nat.zero_le _) (Nat.zero_le _)) dX7_well_5 (fun w2 h3 H locs hf E => ?_)
  refine z_astore_n (lv' := [(2, va_rf w2), (0, .ref a0), (1, .int a1)]) Z (x := w2) dX7_well_8 rfl hl (by decide) (by cases w2 <;> rfl) (fun ls hl => ?_)
  refine z_aload_n Z (x := w2) dX7_well_9 rfl (lv_at hl 0 rfl) ?_
  refine z_ifnonnull (tgt := 15) Z dX7_well_10 (by decide) hf (fun ex h9_10 => ?_) (fun v4 ex h9_10 => ?_)
  · subst ex
    have hf := h9_10
    refine lv_iconst (v := (-1)) Z.x Z.b dX7_well_13 (by decide) ?_
    exact z_iret Z E hr dX7_well_14 hf
  · subst ex
    have hf := h9_10
    refine lv_aload_n Z.x Z.b dX7_well_15 rfl (lv_at hl 0 rfl) ?_
    refine z_getI Z E q_X7_130 dX7_well_16 hf (fun v5 hf => ?_)
    refine lv_aload_n Z.x Z.b dX7_well_19 rfl (lv_at hl 1 rfl) ?_
    refine z_getR Z E q_X7_17 dX7_well_20 hf (fun v6 hf => ?_)
    refine z_getI Z E q_X7_133 dX7_well_23 hf (fun v7 hf => ?_)
    refine lv_isub Z.x Z.b dX7_well_26 ?_
    refine lv_istore_n (lv' := [(3, .int (v5 - v7)), (2, .ref v4), (0, .ref a0), (1, .int a1)]) Z.x Z.b dX7_well_27 rfl hl (by decide) rfl (fun ls hl => ?_)
    refine lv_iload_n Z.x Z.b dX7_well_28 rfl (lv_at hl 0 rfl) ?_
    refine lv_if_gt (tgt := 35) Z.x Z.b dX7_well_29 (by decide) (fun c => ?_) (fun c => ?_)
    · have hf := zit hf c
      refine lv_aload_n Z.x Z.b dX7_well_35 rfl (lv_at hl 2 rfl) ?_
      refine z_getR Z E q_X7_30 dX7_well_36 hf (fun v8 hf => ?_)
      refine lv_aload_n Z.x Z.b dX7_well_39 rfl (lv_at hl 2 rfl) ?_
      refine z_getR Z E q_X7_17 dX7_well_40 hf (fun v9 hf => ?_)
      refine z_Vv (As := [.ref v9]) Z E hl.1 k_X7_49 v_X1_record hf (fun h' e => c_X1_record l G h3 h' v8 v9 e) rfl rfl (Nat.le_of_ble_eq_true rfl) (zRm_of rfl (Nat.zero_le _) (Nat.zero_le _)) dX7_well_43 (fun h10 H locs hf E => ?_)
      refine lv_aload_n Z.x Z.b dX7_well_46 rfl (lv_at hl 1 rfl) ?_
      refine lv_iconst (v := 0) Z.x Z.b dX7_well_47 (by decide) ?_
      refine z_put Z E p_X7_130 rfl rfl dX7_well_48 hf (fun h11 H locs hf E => ?_)
      refine lv_iload_n Z.x Z.b dX7_well_51 rfl (lv_at hl 0 rfl) ?_
      exact z_iret Z E hr dX7_well_52 hf
    · have hf := zif_ hf c
      refine lv_bipush (v := (-5)) Z.x Z.b dX7_well_32 (by decide) ?_
      exact z_iret Z E hr dX7_well_34 hf
set_option maxHeartbeats 4000000 in
set_option maxRecDepth 20000 in
theorem c_X7_well (l : Launch) (G : zG) (h : zHp) (h' : zHp) (a0 : Nat) (a1 : Int32) (r : Int32) (hf : f_X7_well a0 a1 h = some (r, h')) : zM0 l yX7_well cX7_well 4 (some .int) rm_X7_well G [.ref a0, .int a1] h (zQi G r h') := by
  refine Met.ofW (cc := cX7_well) (maxL := 4) (ret := (some .int)) (by decide) rfl ?_
  intro p e s m args below meth c s₁ B hml hv
  obtain ⟨rfl, hW⟩ := hv
  obtain ⟨Z, E, hr⟩ := zEnter (own := RX7) B hml rfl hW
  have hl := lv_entry ([.ref a0, .int a1]) (n := 4) (Nat.le_of_ble_eq_true rfl)
  rw [lg_entry_eq]
  generalize (lg_sl ([.ref a0, .int a1]) ++ List.replicate (4 - (lg_sl ([.ref a0, .int a1])).length) Slot.unset).toArray = ls at hl ⊢
  have hl : lv_has ls 4 [(0, .ref a0), (1, .int a1)] := hl
  exact t_X7_well (out := (r, h')) Z hr hf E hl
/-! FerryCrews.give(III)I -/
theorem dX7_give_0 : decode cX7_give 0 = .ok (.aload_n 0, 1) := by decide +kernel
theorem dX7_give_1 : decode cX7_give 1 = .ok (.getfield 17, 3) := by decide +kernel
theorem dX7_give_4 : decode cX7_give 4 = .ok (.iload_n 2, 1) := by decide +kernel
theorem dX7_give_5 : decode cX7_give 5 = .ok (.invokevirtual 71, 3) := by decide +kernel
theorem dX7_give_8 : decode cX7_give 8 = .ok (.astore 4, 2) := by decide +kernel
theorem dX7_give_10 : decode cX7_give 10 = .ok (.aload_n 0, 1) := by decide +kernel
theorem dX7_give_11 : decode cX7_give 11 = .ok (.getfield 17, 3) := by decide +kernel
theorem dX7_give_14 : decode cX7_give 14 = .ok (.iload_n 1, 1) := by decide +kernel
theorem dX7_give_15 : decode cX7_give 15 = .ok (.invokevirtual 99, 3) := by decide +kernel
theorem dX7_give_18 : decode cX7_give 18 = .ok (.ifnull 15, 3) := by decide +kernel
theorem dX7_give_21 : decode cX7_give 21 = .ok (.aload 4, 2) := by decide +kernel
theorem dX7_give_23 : decode cX7_give 23 = .ok (.ifnull 10, 3) := by decide +kernel
theorem dX7_give_26 : decode cX7_give 26 = .ok (.iload_n 3, 1) := by decide +kernel
theorem dX7_give_27 : decode cX7_give 27 = .ok (.invokestatic 84, 3) := by decide +kernel
theorem dX7_give_30 : decode cX7_give 30 = .ok (.ifCond .ne 5, 3) := by decide +kernel
theorem dX7_give_33 : decode cX7_give 33 = .ok (.iconst (-1), 1) := by decide +kernel
theorem dX7_give_34 : decode cX7_give 34 = .ok (.ireturn, 1) := by decide +kernel
theorem dX7_give_35 : decode cX7_give 35 = .ok (.aload_n 0, 1) := by decide +kernel
theorem dX7_give_36 : decode cX7_give 36 = .ok (.getfield 17, 3) := by decide +kernel
theorem dX7_give_39 : decode cX7_give 39 = .ok (.iload_n 1, 1) := by decide +kernel
theorem dX7_give_40 : decode cX7_give 40 = .ok (.aload 4, 2) := by decide +kernel
theorem dX7_give_42 : decode cX7_give 42 = .ok (.iload_n 3, 1) := by decide +kernel
theorem dX7_give_43 : decode cX7_give 43 = .ok (.invokevirtual 136, 3) := by decide +kernel
theorem dX7_give_46 : decode cX7_give 46 = .ok (.istore 5, 2) := by decide +kernel
theorem dX7_give_48 : decode cX7_give 48 = .ok (.iload 5, 2) := by decide +kernel
theorem dX7_give_50 : decode cX7_give 50 = .ok (.ifCond .eq 6, 3) := by decide +kernel
theorem dX7_give_53 : decode cX7_give 53 = .ok (.iload 5, 2) := by decide +kernel
theorem dX7_give_55 : decode cX7_give 55 = .ok (.ireturn, 1) := by decide +kernel
theorem dX7_give_56 : decode cX7_give 56 = .ok (.aload_n 0, 1) := by decide +kernel
theorem dX7_give_57 : decode cX7_give 57 = .ok (.getfield 30, 3) := by decide +kernel
theorem dX7_give_60 : decode cX7_give 60 = .ok (.aload_n 0, 1) := by decide +kernel
theorem dX7_give_61 : decode cX7_give 61 = .ok (.getfield 17, 3) := by decide +kernel
theorem dX7_give_64 : decode cX7_give 64 = .ok (.invokevirtual 49, 3) := by decide +kernel
theorem dX7_give_67 : decode cX7_give 67 = .ok (.aload 4, 2) := by decide +kernel
theorem dX7_give_69 : decode cX7_give 69 = .ok (.iload_n 1, 1) := by decide +kernel
theorem dX7_give_70 : decode cX7_give 70 = .ok (.iload_n 3, 1) := by decide +kernel
theorem dX7_give_71 : decode cX7_give 71 = .ok (.invokevirtual 140, 3) := by decide +kernel
theorem dX7_give_74 : decode cX7_give 74 = .ok (.iconst 0, 1) := by decide +kernel
theorem dX7_give_75 : decode cX7_give 75 = .ok (.ireturn, 1) := by decide +kernel
set_option maxRecDepth 20000 in
theorem wm_X7_136 : Cond.methodLink RX7 136 yX5_reasonAgainst ∈ zB := List.mem_filter.mpr ⟨List.mem_of_getElem? (i := 398) (by decide +kernel), by decide +kernel⟩
theorem k_X7_136 : zCal RX7 136 yX5_reasonAgainst cX5_reasonAgainst 6 (some .int) 3 := ⟨wm_X7_136, wi_X5, wc_X5_reasonAgainst, by decide +kernel, by decide +kernel, by decide +kernel⟩
set_option maxRecDepth 20000 in
theorem wm_X7_140 : Cond.methodLink RX7 140 yX4_seat ∈ zB := List.mem_filter.mpr ⟨List.mem_of_getElem? (i := 562) (by decide +kernel), by decide +kernel⟩
theorem k_X7_140 : zCal RX7 140 yX4_seat cX4_seat 3 none 2 := ⟨wm_X7_140, wi_X4, wc_X4_seat, by decide +kernel, by decide +kernel, by decide +kernel⟩
def rm_X7_give : Room := { frames := 5, cells := 0, slots := 0, locals := 113 }
set_option maxHeartbeats 4000000 in
set_option maxRecDepth 20000 in
theorem t_X7_give {p : Program} {l : Launch} {e : Env} {s : State} {m : MethodId} {args : Array Value} {below : List Frame} {meth : Method} {c : Code} {G : zG} (Z : zF p s m args c meth cX7_give 6 RX7 G) (hr : meth.sig.returnType = (some .int)) {out : Int32 × zHp} {a0 : Nat} {a1 : Int32} {a2 : Int32} {a3 : Int32} {h : zHp} {H : Heap} {locs : List Loc} {ls : Array Slot} (hf : f_X7_give a0 a1 a2 a3 h = some out) (E : zE G s h H locs) (hl : lv_has ls 6 [(0, .ref a0), (1, .int a1), (2, .int a2), (3, .int a3)]) : W p l e rm_X7_give s m args below meth c H locs 0 0 (MQ below (zQi G out.1 out.2) args s 0 0 (zA G)) (F0 m 0 ls []) := by
  unfold f_X7_give at hf
  refine lv_aload_n Z.x Z.b dX7_give_0 rfl (lv_at hl 0 rfl) ?_
  refine z_getR Z E q_X7_17 dX7_give_1 hf (fun v1 hf => ?_)
  refine lv_iload_n Z.x Z.b dX7_give_4 rfl (lv_at hl 2 rfl) ?_
  refine z_Vq (As := [.int a2]) Z E hl.1 k_X7_71 v_X5_sailingAt hf (fun r h' e => c_X5_sailingAt l G h h' v1 a2 r e) rfl rfl (Nat.le_of_ble_eq_true rfl) (zRm_of rfl (Nat.zero_le _) (Nat.zero_le _)) dX7_give_5 (fun w2 h3 H locs hf E => ?_)
  refine z_astore (lv' := [(4, va_rf w2), (0, .ref a0), (1, .int a1), (2, .int a2), (3, .int a3)]) Z (x := w2) dX7_give_8 hl (by decide) (by cases w2 <;> rfl) (fun ls hl => ?_)
  refine lv_aload_n Z.x Z.b dX7_give_10 rfl (lv_at hl 1 rfl) ?_
  refine z_getR Z E q_X7_17 dX7_give_11 hf (fun v4 hf => ?_)
  refine lv_iload_n Z.x Z.b dX7_give_14 rfl (lv_at hl 2 rfl) ?_
  refine z_Vq (As := [.int a1]) Z E hl.1 k_X7_99 v_X5_memberAt hf (fun r h' e => c_X5_memberAt l G h3 h' v4 a1 r e) rfl rfl (Nat.le_of_ble_eq_true rfl) (zRm_of rfl (Nat.zero_le _) (Nat.zero_le _)) dX7_give_15 (fun w5 h6 H locs hf E => ?_)
  refine z_ifnull (tgt := 33) Z dX7_give_18 (by decide) hf (fun ex h9_18 => ?_) (fun v7 ex h9_18 => ?_)
  · subst ex
    have hf := h9_18
    refine lv_iconst (v := (-1)) Z.x Z.b dX7_give_33 (by decide) ?_
    exact z_iret Z E hr dX7_give_34 hf
  · subst ex
    have hf := h9_18
    refine z_aload Z (x := w2) dX7_give_21 (lv_at hl 0 rfl) ?_
    refine z_ifnull (tgt := 33) Z dX7_give_23 (by decide) hf (fun ex h9_23 => ?_) (fun v8 ex h9_23 => ?_)
    · subst ex
      have hf := h9_23
      refine lv_iconst (v := (-1)) Z.x Z.b dX7_give_33 (by decide) ?_
      exact z_iret Z E hr dX7_give_34 hf
    · subst ex
      have hf := h9_23
      refine lv_iload_n Z.x Z.b dX7_give_26 rfl (lv_at hl 4 rfl) ?_
      refine z_Si (As := [.int a3]) Z E hl.1 k_X7_84 wt_X7_isRole hf (fun r h' e => c_X7_isRole l G h6 h' a3 r e) rfl rfl (Nat.le_of_ble_eq_true rfl) (zRm_of rfl (Nat.zero_le _) (Nat.zero_le _)) dX7_give_27 (fun v9 h10 H locs hf E => ?_)
      refine lv_if_ne (tgt := 35) Z.x Z.b dX7_give_30 (by decide) (fun c => ?_) (fun c => ?_)
      · have hf := zif_ hf c
        refine lv_aload_n Z.x Z.b dX7_give_35 rfl (lv_at hl 1 rfl) ?_
        refine z_getR Z E q_X7_17 dX7_give_36 hf (fun v11 hf => ?_)
        refine lv_iload_n Z.x Z.b dX7_give_39 rfl (lv_at hl 2 rfl) ?_
        refine lv_aload Z.x Z.b dX7_give_40 (lv_at hl 0 rfl) ?_
        refine lv_iload_n Z.x Z.b dX7_give_42 rfl (lv_at hl 4 rfl) ?_
        refine z_Vi (As := [.int a1, .ref v8, .int a3]) Z E hl.1 k_X7_136 v_X5_reasonAgainst hf (fun r h' e => c_X5_reasonAgainst l G h10 h' v11 a1 v8 a3 r e) rfl rfl (Nat.le_of_ble_eq_true rfl) (zRm_of rfl (Nat.zero_le _) (Nat.zero_le _)) dX7_give_43 (fun v12 h13 H locs hf E => ?_)
        refine lv_istore (lv' := [(5, .int v12), (4, .ref v8), (0, .ref a0), (1, .int a1), (2, .int a2), (3, .int a3)]) Z.x Z.b dX7_give_46 hl (by decide) rfl (fun ls hl => ?_)
        refine lv_iload Z.x Z.b dX7_give_48 (lv_at hl 0 rfl) ?_
        refine lv_if_eq (tgt := 56) Z.x Z.b dX7_give_50 (by decide) (fun c => ?_) (fun c => ?_)
        · have hf := zit hf c
          refine lv_aload_n Z.x Z.b dX7_give_56 rfl (lv_at hl 2 rfl) ?_
          refine z_getR Z E q_X7_30 dX7_give_57 hf (fun v14 hf => ?_)
          refine lv_aload_n Z.x Z.b dX7_give_60 rfl (lv_at hl 2 rfl) ?_
          refine z_getR Z E q_X7_17 dX7_give_61 hf (fun v15 hf => ?_)
          refine z_Vv (As := [.ref v15]) Z E hl.1 k_X7_49 v_X1_record hf (fun h' e => c_X1_record l G h13 h' v14 v15 e) rfl rfl (Nat.le_of_ble_eq_true rfl) (zRm_of rfl (Nat.zero_le _) (Nat.zero_le _)) dX7_give_64 (fun h16 H locs hf E => ?_)
          refine lv_aload Z.x Z.b dX7_give_67 (lv_at hl 1 rfl) ?_
          refine lv_iload_n Z.x Z.b dX7_give_69 rfl (lv_at hl 3 rfl) ?_
          refine lv_iload_n Z.x Z.b dX7_give_70 rfl (lv_at hl 5 rfl) ?_
          refine z_Vv (As := [.int a1, .int a3]) Z E hl.1 k_X7_140 v_X4_seat hf (fun h' e => c_X4_seat l G h16 h' v8 a1 a3 e) rfl rfl (Nat.le_of_ble_eq_true rfl) (zRm_of rfl (Nat.zero_le _) (Nat.zero_le _)) dX7_give_71 (fun h17 H locs hf E => ?_)
          refine lv_iconst (v := 0) Z.x Z.b dX7_give_74 (by decide) ?_
          exact z_iret Z E hr dX7_give_75 hf
        · have hf := zif_ hf c
          refine lv_iload Z.x Z.b dX7_give_53 (lv_at hl 0 rfl) ?_
          exact z_iret Z E hr dX7_give_55 hf
      · have hf := zit hf c
        refine lv_iconst (v := (-1)) Z.x Z.b dX7_give_33 (by decide) ?_
        exact z_iret Z E hr dX7_give_34 hf
set_option maxHeartbeats 4000000 in
set_option maxRecDepth 20000 in
theorem c_X7_give (l : Launch) (G : zG) (h : zHp) (h' : zHp) (a0 : Nat) (a1 : Int32) (a2 : Int32) (a3 : Int32) (r : Int32) (hf : f_X7_give a0 a1 a2 a3 h = some (r, h')) : zM0 l yX7_give cX7_give 6 (some .int) rm_X7_give G [.ref a0, .int a1, .int a2, .int a3] h (zQi G r h') := by
  refine Met.ofW (cc := cX7_give) (maxL := 6) (ret := (some .int)) (by decide) rfl ?_
  intro p e s m args below meth c s₁ B hml hv
  obtain ⟨rfl, hW⟩ := hv
  obtain ⟨Z, E, hr⟩ := zEnter (own := RX7) B hml rfl hW
  have hl := lv_entry ([.ref a0, .int a1, .int a2, .int a3]) (n := 6) (Nat.le_of_ble_eq_true rfl)
  rw [lg_entry_eq]
  generalize (lg_sl ([.ref a0, .int a1, .int a2, .int a3]) ++ List.replicate (6 - (lg_sl ([.ref a0, .int a1, .int a2, .int a3])).length) Slot.unset).toArray = ls at hl ⊢
  have hl : lv_has ls 6 [(0, .ref a0), (1, .int a1), (2, .int a2), (3, .int a3)] := hl
  exact t_X7_give (out := (r, h')) Z hr hf E hl
/-! FerryCrews.giveUp(II)I -/
theorem dX7_giveUp_0 : decode cX7_giveUp 0 = .ok (.aload_n 0, 1) := by decide +kernel
theorem dX7_giveUp_1 : decode cX7_giveUp 1 = .ok (.getfield 17, 3) := by decide +kernel
theorem dX7_giveUp_4 : decode cX7_giveUp 4 = .ok (.iload_n 2, 1) := by decide +kernel
theorem dX7_giveUp_5 : decode cX7_giveUp 5 = .ok (.invokevirtual 71, 3) := by decide +kernel
theorem dX7_giveUp_8 : decode cX7_giveUp 8 = .ok (.astore_n 3, 1) := by decide +kernel
theorem dX7_giveUp_9 : decode cX7_giveUp 9 = .ok (.aload_n 0, 1) := by decide +kernel
theorem dX7_giveUp_10 : decode cX7_giveUp 10 = .ok (.getfield 17, 3) := by decide +kernel
theorem dX7_giveUp_13 : decode cX7_giveUp 13 = .ok (.iload_n 1, 1) := by decide +kernel
theorem dX7_giveUp_14 : decode cX7_giveUp 14 = .ok (.invokevirtual 99, 3) := by decide +kernel
theorem dX7_giveUp_17 : decode cX7_giveUp 17 = .ok (.ifnull 7, 3) := by decide +kernel
theorem dX7_giveUp_20 : decode cX7_giveUp 20 = .ok (.aload_n 3, 1) := by decide +kernel
theorem dX7_giveUp_21 : decode cX7_giveUp 21 = .ok (.ifnonnull 5, 3) := by decide +kernel
theorem dX7_giveUp_24 : decode cX7_giveUp 24 = .ok (.iconst (-1), 1) := by decide +kernel
theorem dX7_giveUp_25 : decode cX7_giveUp 25 = .ok (.ireturn, 1) := by decide +kernel
theorem dX7_giveUp_26 : decode cX7_giveUp 26 = .ok (.aload_n 3, 1) := by decide +kernel
theorem dX7_giveUp_27 : decode cX7_giveUp 27 = .ok (.invokevirtual 75, 3) := by decide +kernel
theorem dX7_giveUp_30 : decode cX7_giveUp 30 = .ok (.ifCond .ne 6, 3) := by decide +kernel
theorem dX7_giveUp_33 : decode cX7_giveUp 33 = .ok (.bipush (-4), 2) := by decide +kernel
theorem dX7_giveUp_35 : decode cX7_giveUp 35 = .ok (.ireturn, 1) := by decide +kernel
theorem dX7_giveUp_36 : decode cX7_giveUp 36 = .ok (.aload_n 3, 1) := by decide +kernel
theorem dX7_giveUp_37 : decode cX7_giveUp 37 = .ok (.iload_n 1, 1) := by decide +kernel
theorem dX7_giveUp_38 : decode cX7_giveUp 38 = .ok (.invokevirtual 144, 3) := by decide +kernel
theorem dX7_giveUp_41 : decode cX7_giveUp 41 = .ok (.ifCond .ne 6, 3) := by decide +kernel
theorem dX7_giveUp_44 : decode cX7_giveUp 44 = .ok (.bipush (-5), 2) := by decide +kernel
theorem dX7_giveUp_46 : decode cX7_giveUp 46 = .ok (.ireturn, 1) := by decide +kernel
theorem dX7_giveUp_47 : decode cX7_giveUp 47 = .ok (.aload_n 0, 1) := by decide +kernel
theorem dX7_giveUp_48 : decode cX7_giveUp 48 = .ok (.getfield 30, 3) := by decide +kernel
theorem dX7_giveUp_51 : decode cX7_giveUp 51 = .ok (.aload_n 0, 1) := by decide +kernel
theorem dX7_giveUp_52 : decode cX7_giveUp 52 = .ok (.getfield 17, 3) := by decide +kernel
theorem dX7_giveUp_55 : decode cX7_giveUp 55 = .ok (.invokevirtual 49, 3) := by decide +kernel
theorem dX7_giveUp_58 : decode cX7_giveUp 58 = .ok (.aload_n 3, 1) := by decide +kernel
theorem dX7_giveUp_59 : decode cX7_giveUp 59 = .ok (.iload_n 1, 1) := by decide +kernel
theorem dX7_giveUp_60 : decode cX7_giveUp 60 = .ok (.invokevirtual 147, 3) := by decide +kernel
theorem dX7_giveUp_63 : decode cX7_giveUp 63 = .ok (.ireturn, 1) := by decide +kernel
set_option maxRecDepth 20000 in
theorem wm_X7_144 : Cond.methodLink RX7 144 yX4_seats ∈ zB := List.mem_filter.mpr ⟨List.mem_of_getElem? (i := 610) (by decide +kernel), by decide +kernel⟩
theorem k_X7_144 : zCal RX7 144 yX4_seats cX4_seats 2 (some .boolean) 1 := ⟨wm_X7_144, wi_X4, wc_X4_seats, by decide +kernel, by decide +kernel, by decide +kernel⟩
set_option maxRecDepth 20000 in
theorem wm_X7_147 : Cond.methodLink RX7 147 yX4_unseat ∈ zB := List.mem_filter.mpr ⟨List.mem_of_getElem? (i := 611) (by decide +kernel), by decide +kernel⟩
theorem k_X7_147 : zCal RX7 147 yX4_unseat cX4_unseat 3 (some .int) 1 := ⟨wm_X7_147, wi_X4, wc_X4_unseat, by decide +kernel, by decide +kernel, by decide +kernel⟩
def rm_X7_giveUp : Room := { frames := 4, cells := 0, slots := 0, locals := 104 }
set_option maxHeartbeats 4000000 in
set_option maxRecDepth 20000 in
theorem t_X7_giveUp {p : Program} {l : Launch} {e : Env} {s : State} {m : MethodId} {args : Array Value} {below : List Frame} {meth : Method} {c : Code} {G : zG} (Z : zF p s m args c meth cX7_giveUp 4 RX7 G) (hr : meth.sig.returnType = (some .int)) {out : Int32 × zHp} {a0 : Nat} {a1 : Int32} {a2 : Int32} {h : zHp} {H : Heap} {locs : List Loc} {ls : Array Slot} (hf : f_X7_giveUp a0 a1 a2 h = some out) (E : zE G s h H locs) (hl : lv_has ls 4 [(0, .ref a0), (1, .int a1), (2, .int a2)]) : W p l e rm_X7_giveUp s m args below meth c H locs 0 0 (MQ below (zQi G out.1 out.2) args s 0 0 (zA G)) (F0 m 0 ls []) := by
  unfold f_X7_giveUp at hf
  refine lv_aload_n Z.x Z.b dX7_giveUp_0 rfl (lv_at hl 0 rfl) ?_
  refine z_getR Z E q_X7_17 dX7_giveUp_1 hf (fun v1 hf => ?_)
  refine lv_iload_n Z.x Z.b dX7_giveUp_4 rfl (lv_at hl 2 rfl) ?_
  refine z_Vq (As := [.int a2]) Z E hl.1 k_X7_71 v_X5_sailingAt hf (fun r h' e => c_X5_sailingAt l G h h' v1 a2 r e) rfl rfl (Nat.le_of_ble_eq_true rfl) (zRm_of rfl (Nat.zero_le _) (Nat.zero_le _)) dX7_giveUp_5 (fun w2 h3 H locs hf E => ?_)
  refine z_astore_n (lv' := [(3, va_rf w2), (0, .ref a0), (1, .int a1), (2, .int a2)]) Z (x := w2) dX7_giveUp_8 rfl hl (by decide) (by cases w2 <;> rfl) (fun ls hl => ?_)
  refine lv_aload_n Z.x Z.b dX7_giveUp_9 rfl (lv_at hl 1 rfl) ?_
  refine z_getR Z E q_X7_17 dX7_giveUp_10 hf (fun v4 hf => ?_)
  refine lv_iload_n Z.x Z.b dX7_giveUp_13 rfl (lv_at hl 2 rfl) ?_
  refine z_Vq (As := [.int a1]) Z E hl.1 k_X7_99 v_X5_memberAt hf (fun r h' e => c_X5_memberAt l G h3 h' v4 a1 r e) rfl rfl (Nat.le_of_ble_eq_true rfl) (zRm_of rfl (Nat.zero_le _) (Nat.zero_le _)) dX7_giveUp_14 (fun w5 h6 H locs hf E => ?_)
  refine z_ifnull (tgt := 24) Z dX7_giveUp_17 (by decide) hf (fun ex h9_17 => ?_) (fun v7 ex h9_17 => ?_)
  · subst ex
    have hf := h9_17
    refine lv_iconst (v := (-1)) Z.x Z.b dX7_giveUp_24 (by decide) ?_
    exact z_iret Z E hr dX7_giveUp_25 hf
  · subst ex
    have hf := h9_17
    refine z_aload_n Z (x := w2) dX7_giveUp_20 rfl (lv_at hl 0 rfl) ?_
    refine z_ifnonnull (tgt := 26) Z dX7_giveUp_21 (by decide) hf (fun ex h9_21 => ?_) (fun v8 ex h9_21 => ?_)
    · subst ex
      have hf := h9_21
      refine lv_iconst (v := (-1)) Z.x Z.b dX7_giveUp_24 (by decide) ?_
      exact z_iret Z E hr dX7_giveUp_25 hf
    · subst ex
      have hf := h9_21
      refine lv_aload_n Z.x Z.b dX7_giveUp_26 rfl (lv_at hl 0 rfl) ?_
      refine z_Vi (As := []) Z E hl.1 k_X7_75 v_X4_isOpen hf (fun r h' e => c_X4_isOpen l G h6 h' v8 r e) rfl rfl (Nat.le_of_ble_eq_true rfl) (zRm_of rfl (Nat.zero_le _) (Nat.zero_le _)) dX7_giveUp_27 (fun v9 h10 H locs hf E => ?_)
      refine lv_if_ne (tgt := 36) Z.x Z.b dX7_giveUp_30 (by decide) (fun c => ?_) (fun c => ?_)
      · have hf := zif_ hf c
        refine lv_aload_n Z.x Z.b dX7_giveUp_36 rfl (lv_at hl 0 rfl) ?_
        refine lv_iload_n Z.x Z.b dX7_giveUp_37 rfl (lv_at hl 2 rfl) ?_
        refine z_Vi (As := [.int a1]) Z E hl.1 k_X7_144 v_X4_seats hf (fun r h' e => c_X4_seats l G h10 h' v8 a1 r e) rfl rfl (Nat.le_of_ble_eq_true rfl) (zRm_of rfl (Nat.zero_le _) (Nat.zero_le _)) dX7_giveUp_38 (fun v11 h12 H locs hf E => ?_)
        refine lv_if_ne (tgt := 47) Z.x Z.b dX7_giveUp_41 (by decide) (fun c => ?_) (fun c => ?_)
        · have hf := zif_ hf c
          refine lv_aload_n Z.x Z.b dX7_giveUp_47 rfl (lv_at hl 1 rfl) ?_
          refine z_getR Z E q_X7_30 dX7_giveUp_48 hf (fun v13 hf => ?_)
          refine lv_aload_n Z.x Z.b dX7_giveUp_51 rfl (lv_at hl 1 rfl) ?_
          refine z_getR Z E q_X7_17 dX7_giveUp_52 hf (fun v14 hf => ?_)
          refine z_Vv (As := [.ref v14]) Z E hl.1 k_X7_49 v_X1_record hf (fun h' e => c_X1_record l G h12 h' v13 v14 e) rfl rfl (Nat.le_of_ble_eq_true rfl) (zRm_of rfl (Nat.zero_le _) (Nat.zero_le _)) dX7_giveUp_55 (fun h15 H locs hf E => ?_)
          refine lv_aload_n Z.x Z.b dX7_giveUp_58 rfl (lv_at hl 0 rfl) ?_
          refine lv_iload_n Z.x Z.b dX7_giveUp_59 rfl (lv_at hl 2 rfl) ?_
          refine z_Vi (As := [.int a1]) Z E hl.1 k_X7_147 v_X4_unseat hf (fun r h' e => c_X4_unseat l G h15 h' v8 a1 r e) rfl rfl (Nat.le_of_ble_eq_true rfl) (zRm_of rfl (Nat.zero_le _) (Nat.zero_le _)) dX7_giveUp_60 (fun v16 h17 H locs hf E => ?_)
          exact z_iret Z E hr dX7_giveUp_63 hf
        · have hf := zit hf c
          refine lv_bipush (v := (-5)) Z.x Z.b dX7_giveUp_44 (by decide) ?_
          exact z_iret Z E hr dX7_giveUp_46 hf
      · have hf := zit hf c
        refine lv_bipush (v := (-4)) Z.x Z.b dX7_giveUp_33 (by decide) ?_
        exact z_iret Z E hr dX7_giveUp_35 hf
set_option maxHeartbeats 4000000 in
set_option maxRecDepth 20000 in
theorem c_X7_giveUp (l : Launch) (G : zG) (h : zHp) (h' : zHp) (a0 : Nat) (a1 : Int32) (a2 : Int32) (r : Int32) (hf : f_X7_giveUp a0 a1 a2 h = some (r, h')) : zM0 l yX7_giveUp cX7_giveUp 4 (some .int) rm_X7_giveUp G [.ref a0, .int a1, .int a2] h (zQi G r h') := by
  refine Met.ofW (cc := cX7_giveUp) (maxL := 4) (ret := (some .int)) (by decide) rfl ?_
  intro p e s m args below meth c s₁ B hml hv
  obtain ⟨rfl, hW⟩ := hv
  obtain ⟨Z, E, hr⟩ := zEnter (own := RX7) B hml rfl hW
  have hl := lv_entry ([.ref a0, .int a1, .int a2]) (n := 4) (Nat.le_of_ble_eq_true rfl)
  rw [lg_entry_eq]
  generalize (lg_sl ([.ref a0, .int a1, .int a2]) ++ List.replicate (4 - (lg_sl ([.ref a0, .int a1, .int a2])).length) Slot.unset).toArray = ls at hl ⊢
  have hl : lv_has ls 4 [(0, .ref a0), (1, .int a1), (2, .int a2)] := hl
  exact t_X7_giveUp (out := (r, h')) Z hr hf E hl
/-! FerryCrews.fill(I)I -/
theorem dX7_fill_0 : decode cX7_fill 0 = .ok (.aload_n 0, 1) := by decide +kernel
theorem dX7_fill_1 : decode cX7_fill 1 = .ok (.getfield 17, 3) := by decide +kernel
theorem dX7_fill_4 : decode cX7_fill 4 = .ok (.iload_n 1, 1) := by decide +kernel
theorem dX7_fill_5 : decode cX7_fill 5 = .ok (.invokevirtual 71, 3) := by decide +kernel
theorem dX7_fill_8 : decode cX7_fill 8 = .ok (.astore_n 2, 1) := by decide +kernel
theorem dX7_fill_9 : decode cX7_fill 9 = .ok (.aload_n 2, 1) := by decide +kernel
theorem dX7_fill_10 : decode cX7_fill 10 = .ok (.ifnonnull 5, 3) := by decide +kernel
theorem dX7_fill_13 : decode cX7_fill 13 = .ok (.iconst (-1), 1) := by decide +kernel
theorem dX7_fill_14 : decode cX7_fill 14 = .ok (.ireturn, 1) := by decide +kernel
theorem dX7_fill_15 : decode cX7_fill 15 = .ok (.aload_n 2, 1) := by decide +kernel
theorem dX7_fill_16 : decode cX7_fill 16 = .ok (.invokevirtual 75, 3) := by decide +kernel
theorem dX7_fill_19 : decode cX7_fill 19 = .ok (.ifCond .ne 6, 3) := by decide +kernel
theorem dX7_fill_22 : decode cX7_fill 22 = .ok (.bipush (-4), 2) := by decide +kernel
theorem dX7_fill_24 : decode cX7_fill 24 = .ok (.ireturn, 1) := by decide +kernel
theorem dX7_fill_25 : decode cX7_fill 25 = .ok (.aload_n 2, 1) := by decide +kernel
theorem dX7_fill_26 : decode cX7_fill 26 = .ok (.invokevirtual 150, 3) := by decide +kernel
theorem dX7_fill_29 : decode cX7_fill 29 = .ok (.ifCond .ne 6, 3) := by decide +kernel
theorem dX7_fill_32 : decode cX7_fill 32 = .ok (.bipush (-5), 2) := by decide +kernel
theorem dX7_fill_34 : decode cX7_fill 34 = .ok (.ireturn, 1) := by decide +kernel
theorem dX7_fill_35 : decode cX7_fill 35 = .ok (.aload_n 0, 1) := by decide +kernel
theorem dX7_fill_36 : decode cX7_fill 36 = .ok (.getfield 30, 3) := by decide +kernel
theorem dX7_fill_39 : decode cX7_fill 39 = .ok (.aload_n 0, 1) := by decide +kernel
theorem dX7_fill_40 : decode cX7_fill 40 = .ok (.getfield 17, 3) := by decide +kernel
theorem dX7_fill_43 : decode cX7_fill 43 = .ok (.invokevirtual 49, 3) := by decide +kernel
theorem dX7_fill_46 : decode cX7_fill 46 = .ok (.aload_n 0, 1) := by decide +kernel
theorem dX7_fill_47 : decode cX7_fill 47 = .ok (.getfield 17, 3) := by decide +kernel
theorem dX7_fill_50 : decode cX7_fill 50 = .ok (.aload_n 2, 1) := by decide +kernel
theorem dX7_fill_51 : decode cX7_fill 51 = .ok (.invokevirtual 153, 3) := by decide +kernel
theorem dX7_fill_54 : decode cX7_fill 54 = .ok (.ireturn, 1) := by decide +kernel
set_option maxRecDepth 20000 in
theorem wm_X7_150 : Cond.methodLink RX7 150 yX4_freePlaces ∈ zB := List.mem_filter.mpr ⟨List.mem_of_getElem? (i := 446) (by decide +kernel), by decide +kernel⟩
theorem k_X7_150 : zCal RX7 150 yX4_freePlaces cX4_freePlaces 1 (some .int) 0 := ⟨wm_X7_150, wi_X4, wc_X4_freePlaces, by decide +kernel, by decide +kernel, by decide +kernel⟩
set_option maxRecDepth 20000 in
theorem wc_X5_coverAllPlaces : Cond.code yX5_coverAllPlaces cX5_coverAllPlaces 4 (some .int) ∈ zB := List.mem_filter.mpr ⟨List.mem_of_getElem? (i := 597) (by decide +kernel), by decide +kernel⟩
set_option maxRecDepth 20000 in
theorem wm_X7_153 : Cond.methodLink RX7 153 yX5_coverAllPlaces ∈ zB := List.mem_filter.mpr ⟨List.mem_of_getElem? (i := 594) (by decide +kernel), by decide +kernel⟩
theorem k_X7_153 : zCal RX7 153 yX5_coverAllPlaces cX5_coverAllPlaces 4 (some .int) 1 := ⟨wm_X7_153, wi_X5, wc_X5_coverAllPlaces, by decide +kernel, by decide +kernel, by decide +kernel⟩
set_option maxRecDepth 20000 in
theorem wn_X5_coverAllPlaces : Cond.instanceMethod yX5_coverAllPlaces ∈ zB := List.mem_filter.mpr ⟨List.mem_of_getElem? (i := 595) (by decide +kernel), by decide +kernel⟩
set_option maxRecDepth 20000 in
theorem ws_X5_coverAllPlaces : Cond.selects RX5 yX5_coverAllPlaces yX5_coverAllPlaces ∈ zB := List.mem_filter.mpr ⟨List.mem_of_getElem? (i := 596) (by decide +kernel), by decide +kernel⟩
theorem v_X5_coverAllPlaces : zVir yX5_coverAllPlaces 5 := ⟨wn_X5_coverAllPlaces, ws_X5_coverAllPlaces, TX5, 8, rfl⟩
def rm_X7_fill : Room := { frames := 7, cells := 0, slots := 0, locals := 162 }
set_option maxHeartbeats 4000000 in
set_option maxRecDepth 20000 in
theorem t_X7_fill {p : Program} {l : Launch} {e : Env} {s : State} {m : MethodId} {args : Array Value} {below : List Frame} {meth : Method} {c : Code} {G : zG} (Z : zF p s m args c meth cX7_fill 3 RX7 G) (hr : meth.sig.returnType = (some .int)) {out : Int32 × zHp} {a0 : Nat} {a1 : Int32} {h : zHp} {H : Heap} {locs : List Loc} {ls : Array Slot} (hf : f_X7_fill a0 a1 h = some out) (E : zE G s h H locs) (hl : lv_has ls 3 [(0, .ref a0), (1, .int a1)]) : W p l e rm_X7_fill s m args below meth c H locs 0 0 (MQ below (zQi G out.1 out.2) args s 0 0 (zA G)) (F0 m 0 ls []) := by
  unfold f_X7_fill at hf
  refine lv_aload_n Z.x Z.b dX7_fill_0 rfl (lv_at hl 0 rfl) ?_
  refine z_getR Z E q_X7_17 dX7_fill_1 hf (fun v1 hf => ?_)
  refine lv_iload_n Z.x Z.b dX7_fill_4 rfl (lv_at hl 1 rfl) ?_
  refine z_Vq (As := [.int a1]) Z E hl.1 k_X7_71 v_X5_sailingAt hf (fun r h' e => c_X5_sailingAt l G h h' v1 a1 r e) rfl rfl (Nat.le_of_ble_eq_true rfl) (zRm_of rfl (Nat.zero_le _) (Nat.zero_le _)) dX7_fill_5 (fun w2 h3 H locs hf E => ?_)
  refine z_astore_n (lv' := [(2, va_rf w2), (0, .ref a0), (1, .int a1)]) Z (x := w2) dX7_fill_8 rfl hl (by decide) (by cases w2 <;> rfl) (fun ls hl => ?_)
  refine z_aload_n Z (x := w2) dX7_fill_9 rfl (lv_at hl 0 rfl) ?_
  refine z_ifnonnull (tgt := 15) Z dX7_fill_10 (by decide) hf (fun ex h9_10 => ?_) (fun v4 ex h9_10 => ?_)
  · subst ex
    have hf := h9_10
    refine lv_iconst (v := (-1)) Z.x Z.b dX7_fill_13 (by decide) ?_
    exact z_iret Z E hr dX7_fill_14 hf
  · subst ex
    have hf := h9_10
    refine lv_aload_n Z.x Z.b dX7_fill_15 rfl (lv_at hl 0 rfl) ?_
    refine z_Vi (As := []) Z E hl.1 k_X7_75 v_X4_isOpen hf (fun r h' e => c_X4_isOpen l G h3 h' v4 r e) rfl rfl (Nat.le_of_ble_eq_true rfl) (zRm_of rfl (Nat.zero_le _) (Nat.zero_le _)) dX7_fill_16 (fun v5 h6 H locs hf E => ?_)
    refine lv_if_ne (tgt := 25) Z.x Z.b dX7_fill_19 (by decide) (fun c => ?_) (fun c => ?_)
    · have hf := zif_ hf c
      refine lv_aload_n Z.x Z.b dX7_fill_25 rfl (lv_at hl 0 rfl) ?_
      refine z_Vi (As := []) Z E hl.1 k_X7_150 v_X4_freePlaces hf (fun r h' e => c_X4_freePlaces l G h6 h' v4 r e) rfl rfl (Nat.le_of_ble_eq_true rfl) (zRm_of rfl (Nat.zero_le _) (Nat.zero_le _)) dX7_fill_26 (fun v7 h8 H locs hf E => ?_)
      refine lv_if_ne (tgt := 35) Z.x Z.b dX7_fill_29 (by decide) (fun c => ?_) (fun c => ?_)
      · have hf := zif_ hf c
        refine lv_aload_n Z.x Z.b dX7_fill_35 rfl (lv_at hl 1 rfl) ?_
        refine z_getR Z E q_X7_30 dX7_fill_36 hf (fun v9 hf => ?_)
        refine lv_aload_n Z.x Z.b dX7_fill_39 rfl (lv_at hl 1 rfl) ?_
        refine z_getR Z E q_X7_17 dX7_fill_40 hf (fun v10 hf => ?_)
        refine z_Vv (As := [.ref v10]) Z E hl.1 k_X7_49 v_X1_record hf (fun h' e => c_X1_record l G h8 h' v9 v10 e) rfl rfl (Nat.le_of_ble_eq_true rfl) (zRm_of rfl (Nat.zero_le _) (Nat.zero_le _)) dX7_fill_43 (fun h11 H locs hf E => ?_)
        refine lv_aload_n Z.x Z.b dX7_fill_46 rfl (lv_at hl 1 rfl) ?_
        refine z_getR Z E q_X7_17 dX7_fill_47 hf (fun v12 hf => ?_)
        refine lv_aload_n Z.x Z.b dX7_fill_50 rfl (lv_at hl 0 rfl) ?_
        refine z_Vi (As := [.ref v4]) Z E hl.1 k_X7_153 v_X5_coverAllPlaces hf (fun r h' e => c_X5_coverAllPlaces l G h11 h' v12 v4 r e) rfl rfl (Nat.le_of_ble_eq_true rfl) (zRm_of rfl (Nat.zero_le _) (Nat.zero_le _)) dX7_fill_51 (fun v13 h14 H locs hf E => ?_)
        exact z_iret Z E hr dX7_fill_54 hf
      · have hf := zit hf c
        refine lv_bipush (v := (-5)) Z.x Z.b dX7_fill_32 (by decide) ?_
        exact z_iret Z E hr dX7_fill_34 hf
    · have hf := zit hf c
      refine lv_bipush (v := (-4)) Z.x Z.b dX7_fill_22 (by decide) ?_
      exact z_iret Z E hr dX7_fill_24 hf
set_option maxHeartbeats 4000000 in
set_option maxRecDepth 20000 in
theorem c_X7_fill (l : Launch) (G : zG) (h : zHp) (h' : zHp) (a0 : Nat) (a1 : Int32) (r : Int32) (hf : f_X7_fill a0 a1 h = some (r, h')) : zM0 l yX7_fill cX7_fill 3 (some .int) rm_X7_fill G [.ref a0, .int a1] h (zQi G r h') := by
  refine Met.ofW (cc := cX7_fill) (maxL := 3) (ret := (some .int)) (by decide) rfl ?_
  intro p e s m args below meth c s₁ B hml hv
  obtain ⟨rfl, hW⟩ := hv
  obtain ⟨Z, E, hr⟩ := zEnter (own := RX7) B hml rfl hW
  have hl := lv_entry ([.ref a0, .int a1]) (n := 3) (Nat.le_of_ble_eq_true rfl)
  rw [lg_entry_eq]
  generalize (lg_sl ([.ref a0, .int a1]) ++ List.replicate (3 - (lg_sl ([.ref a0, .int a1])).length) Slot.unset).toArray = ls at hl ⊢
  have hl : lv_has ls 3 [(0, .ref a0), (1, .int a1)] := hl
  exact t_X7_fill (out := (r, h')) Z hr hf E hl
/-! FerryCrews.pass(I)I -/
theorem dX7_pass_0 : decode cX7_pass 0 = .ok (.iload_n 1, 1) := by decide +kernel
theorem dX7_pass_1 : decode cX7_pass 1 = .ok (.iconst 1, 1) := by decide +kernel
theorem dX7_pass_2 : decode cX7_pass 2 = .ok (.sipush 200, 3) := by decide +kernel
theorem dX7_pass_5 : decode cX7_pass 5 = .ok (.invokestatic 88, 3) := by decide +kernel
theorem dX7_pass_8 : decode cX7_pass 8 = .ok (.ifCond .ne 6, 3) := by decide +kernel
theorem dX7_pass_11 : decode cX7_pass 11 = .ok (.bipush (-2), 2) := by decide +kernel
theorem dX7_pass_13 : decode cX7_pass 13 = .ok (.ireturn, 1) := by decide +kernel
theorem dX7_pass_14 : decode cX7_pass 14 = .ok (.aload_n 0, 1) := by decide +kernel
theorem dX7_pass_15 : decode cX7_pass 15 = .ok (.getfield 17, 3) := by decide +kernel
theorem dX7_pass_18 : decode cX7_pass 18 = .ok (.getfield 133, 3) := by decide +kernel
theorem dX7_pass_21 : decode cX7_pass 21 = .ok (.iload_n 1, 1) := by decide +kernel
theorem dX7_pass_22 : decode cX7_pass 22 = .ok (.iadd, 1) := by decide +kernel
theorem dX7_pass_23 : decode cX7_pass 23 = .ok (.sipush 1000, 3) := by decide +kernel
theorem dX7_pass_26 : decode cX7_pass 26 = .ok (.if_icmp .le 6, 3) := by decide +kernel
theorem dX7_pass_29 : decode cX7_pass 29 = .ok (.bipush (-3), 2) := by decide +kernel
theorem dX7_pass_31 : decode cX7_pass 31 = .ok (.ireturn, 1) := by decide +kernel
theorem dX7_pass_32 : decode cX7_pass 32 = .ok (.aload_n 0, 1) := by decide +kernel
theorem dX7_pass_33 : decode cX7_pass 33 = .ok (.getfield 30, 3) := by decide +kernel
theorem dX7_pass_36 : decode cX7_pass 36 = .ok (.aload_n 0, 1) := by decide +kernel
theorem dX7_pass_37 : decode cX7_pass 37 = .ok (.getfield 17, 3) := by decide +kernel
theorem dX7_pass_40 : decode cX7_pass 40 = .ok (.invokevirtual 49, 3) := by decide +kernel
theorem dX7_pass_43 : decode cX7_pass 43 = .ok (.aload_n 0, 1) := by decide +kernel
theorem dX7_pass_44 : decode cX7_pass 44 = .ok (.getfield 17, 3) := by decide +kernel
theorem dX7_pass_47 : decode cX7_pass 47 = .ok (.iload_n 1, 1) := by decide +kernel
theorem dX7_pass_48 : decode cX7_pass 48 = .ok (.invokevirtual 157, 3) := by decide +kernel
theorem dX7_pass_51 : decode cX7_pass 51 = .ok (.ireturn, 1) := by decide +kernel
set_option maxRecDepth 20000 in
theorem wc_X5_goOn : Cond.code yX5_goOn cX5_goOn 6 (some .int) ∈ zB := List.mem_filter.mpr ⟨List.mem_of_getElem? (i := 657) (by decide +kernel), by decide +kernel⟩
set_option maxRecDepth 20000 in
theorem wm_X7_157 : Cond.methodLink RX7 157 yX5_goOn ∈ zB := List.mem_filter.mpr ⟨List.mem_of_getElem? (i := 654) (by decide +kernel), by decide +kernel⟩
theorem k_X7_157 : zCal RX7 157 yX5_goOn cX5_goOn 6 (some .int) 1 := ⟨wm_X7_157, wi_X5, wc_X5_goOn, by decide +kernel, by decide +kernel, by decide +kernel⟩
set_option maxRecDepth 20000 in
theorem wn_X5_goOn : Cond.instanceMethod yX5_goOn ∈ zB := List.mem_filter.mpr ⟨List.mem_of_getElem? (i := 655) (by decide +kernel), by decide +kernel⟩
set_option maxRecDepth 20000 in
theorem ws_X5_goOn : Cond.selects RX5 yX5_goOn yX5_goOn ∈ zB := List.mem_filter.mpr ⟨List.mem_of_getElem? (i := 656) (by decide +kernel), by decide +kernel⟩
theorem v_X5_goOn : zVir yX5_goOn 5 := ⟨wn_X5_goOn, ws_X5_goOn, TX5, 8, rfl⟩
def rm_X7_pass : Room := { frames := 4, cells := 0, slots := 0, locals := 104 }
set_option maxHeartbeats 4000000 in
set_option maxRecDepth 20000 in
theorem t_X7_pass {p : Program} {l : Launch} {e : Env} {s : State} {m : MethodId} {args : Array Value} {below : List Frame} {meth : Method} {c : Code} {G : zG} (Z : zF p s m args c meth cX7_pass 2 RX7 G) (hr : meth.sig.returnType = (some .int)) {out : Int32 × zHp} {a0 : Nat} {a1 : Int32} {h : zHp} {H : Heap} {locs : List Loc} {ls : Array Slot} (hf : f_X7_pass a0 a1 h = some out) (E : zE G s h H locs) (hl : lv_has ls 2 [(0, .ref a0), (1, .int a1)]) : W p l e rm_X7_pass s m args below meth c H locs 0 0 (MQ below (zQi G out.1 out.2) args s 0 0 (zA G)) (F0 m 0 ls []) := by
  unfold f_X7_pass at hf
  refine lv_iload_n Z.x Z.b dX7_pass_0 rfl (lv_at hl 1 rfl) ?_
  refine lv_iconst (v := 1) Z.x Z.b dX7_pass_1 (by decide) ?_
  refine lv_sipush (v := 200) Z.x Z.b dX7_pass_2 (by decide) ?_
  refine z_Si (As := [.int a1, .int 1, .int 200]) Z E hl.1 k_X7_88 wt_X7_isWithin hf (fun r h' e => c_X7_isWithin l G h h' a1 1 200 r e) rfl rfl (Nat.le_of_ble_eq_true rfl) (zRm_of rfl (Nat.zero_le _) (Nat.zero_le _)) dX7_pass_5 (fun v1 h2 H locs hf E => ?_)
  refine lv_if_ne (tgt := 14) Z.x Z.b dX7_pass_8 (by decide) (fun c => ?_) (fun c => ?_)
  · have hf := zif_ hf c
    refine lv_aload_n Z.x Z.b dX7_pass_14 rfl (lv_at hl 0 rfl) ?_
    refine z_getR Z E q_X7_17 dX7_pass_15 hf (fun v3 hf => ?_)
    refine z_getI Z E q_X7_133 dX7_pass_18 hf (fun v4 hf => ?_)
    refine lv_iload_n Z.x Z.b dX7_pass_21 rfl (lv_at hl 1 rfl) ?_
    refine lv_iadd Z.x Z.b dX7_pass_22 ?_
    refine lv_sipush (v := 1000) Z.x Z.b dX7_pass_23 (by decide) ?_
    refine lv_icmp_le (tgt := 32) Z.x Z.b dX7_pass_26 (by decide) (fun c => ?_) (fun c => ?_)
    · have hf := zit hf c
      refine lv_aload_n Z.x Z.b dX7_pass_32 rfl (lv_at hl 0 rfl) ?_
      refine z_getR Z E q_X7_30 dX7_pass_33 hf (fun v5 hf => ?_)
      refine lv_aload_n Z.x Z.b dX7_pass_36 rfl (lv_at hl 0 rfl) ?_
      refine z_getR Z E q_X7_17 dX7_pass_37 hf (fun v6 hf => ?_)
      refine z_Vv (As := [.ref v6]) Z E hl.1 k_X7_49 v_X1_record hf (fun h' e => c_X1_record l G h2 h' v5 v6 e) rfl rfl (Nat.le_of_ble_eq_true rfl) (zRm_of rfl (Nat.zero_le _) (Nat.zero_le _)) dX7_pass_40 (fun h7 H locs hf E => ?_)
      refine lv_aload_n Z.x Z.b dX7_pass_43 rfl (lv_at hl 0 rfl) ?_
      refine z_getR Z E q_X7_17 dX7_pass_44 hf (fun v8 hf => ?_)
      refine lv_iload_n Z.x Z.b dX7_pass_47 rfl (lv_at hl 1 rfl) ?_
      refine z_Vi (As := [.int a1]) Z E hl.1 k_X7_157 v_X5_goOn hf (fun r h' e => c_X5_goOn l G h7 h' v8 a1 r e) rfl rfl (Nat.le_of_ble_eq_true rfl) (zRm_of rfl (Nat.zero_le _) (Nat.zero_le _)) dX7_pass_48 (fun v9 h10 H locs hf E => ?_)
      exact z_iret Z E hr dX7_pass_51 hf
    · have hf := zif_ hf c
      refine lv_bipush (v := (-3)) Z.x Z.b dX7_pass_29 (by decide) ?_
      exact z_iret Z E hr dX7_pass_31 hf
  · have hf := zit hf c
    refine lv_bipush (v := (-2)) Z.x Z.b dX7_pass_11 (by decide) ?_
    exact z_iret Z E hr dX7_pass_13 hf
set_option maxHeartbeats 4000000 in
set_option maxRecDepth 20000 in
theorem c_X7_pass (l : Launch) (G : zG) (h : zHp) (h' : zHp) (a0 : Nat) (a1 : Int32) (r : Int32) (hf : f_X7_pass a0 a1 h = some (r, h')) : zM0 l yX7_pass cX7_pass 2 (some .int) rm_X7_pass G [.ref a0, .int a1] h (zQi G r h') := by
  refine Met.ofW (cc := cX7_pass) (maxL := 2) (ret := (some .int)) (by decide) rfl ?_
  intro p e s m args below meth c s₁ B hml hv
  obtain ⟨rfl, hW⟩ := hv
  obtain ⟨Z, E, hr⟩ := zEnter (own := RX7) B hml rfl hW
  have hl := lv_entry ([.ref a0, .int a1]) (n := 2) (Nat.le_of_ble_eq_true rfl)
  rw [lg_entry_eq]
  generalize (lg_sl ([.ref a0, .int a1]) ++ List.replicate (2 - (lg_sl ([.ref a0, .int a1])).length) Slot.unset).toArray = ls at hl ⊢
  have hl : lv_has ls 2 [(0, .ref a0), (1, .int a1)] := hl
  exact t_X7_pass (out := (r, h')) Z hr hf E hl
/-! FerryCrews.set(II)I -/
theorem dX7_set_0 : decode cX7_set 0 = .ok (.iload_n 1, 1) := by decide +kernel
theorem dX7_set_1 : decode cX7_set 1 = .ok (.iconst 0, 1) := by decide +kernel
theorem dX7_set_2 : decode cX7_set 2 = .ok (.iconst 4, 1) := by decide +kernel
theorem dX7_set_3 : decode cX7_set 3 = .ok (.invokestatic 88, 3) := by decide +kernel
theorem dX7_set_6 : decode cX7_set 6 = .ok (.ifCond .eq 16, 3) := by decide +kernel
theorem dX7_set_9 : decode cX7_set 9 = .ok (.iload_n 2, 1) := by decide +kernel
theorem dX7_set_10 : decode cX7_set 10 = .ok (.iconst 0, 1) := by decide +kernel
theorem dX7_set_11 : decode cX7_set 11 = .ok (.getstatic 160, 3) := by decide +kernel
theorem dX7_set_14 : decode cX7_set 14 = .ok (.iload_n 1, 1) := by decide +kernel
theorem dX7_set_15 : decode cX7_set 15 = .ok (.iaload, 1) := by decide +kernel
theorem dX7_set_16 : decode cX7_set 16 = .ok (.invokestatic 88, 3) := by decide +kernel
theorem dX7_set_19 : decode cX7_set 19 = .ok (.ifCond .ne 6, 3) := by decide +kernel
theorem dX7_set_22 : decode cX7_set 22 = .ok (.bipush (-2), 2) := by decide +kernel
theorem dX7_set_24 : decode cX7_set 24 = .ok (.ireturn, 1) := by decide +kernel
theorem dX7_set_25 : decode cX7_set 25 = .ok (.aload_n 0, 1) := by decide +kernel
theorem dX7_set_26 : decode cX7_set 26 = .ok (.getfield 17, 3) := by decide +kernel
theorem dX7_set_29 : decode cX7_set 29 = .ok (.getfield 164, 3) := by decide +kernel
theorem dX7_set_32 : decode cX7_set 32 = .ok (.iload_n 1, 1) := by decide +kernel
theorem dX7_set_33 : decode cX7_set 33 = .ok (.iaload, 1) := by decide +kernel
theorem dX7_set_34 : decode cX7_set 34 = .ok (.istore_n 3, 1) := by decide +kernel
theorem dX7_set_35 : decode cX7_set 35 = .ok (.iload_n 2, 1) := by decide +kernel
theorem dX7_set_36 : decode cX7_set 36 = .ok (.iload_n 3, 1) := by decide +kernel
theorem dX7_set_37 : decode cX7_set 37 = .ok (.if_icmp .ne 6, 3) := by decide +kernel
theorem dX7_set_40 : decode cX7_set 40 = .ok (.bipush (-5), 2) := by decide +kernel
theorem dX7_set_42 : decode cX7_set 42 = .ok (.ireturn, 1) := by decide +kernel
theorem dX7_set_43 : decode cX7_set 43 = .ok (.aload_n 0, 1) := by decide +kernel
theorem dX7_set_44 : decode cX7_set 44 = .ok (.getfield 24, 3) := by decide +kernel
theorem dX7_set_47 : decode cX7_set 47 = .ok (.aload_n 0, 1) := by decide +kernel
theorem dX7_set_48 : decode cX7_set 48 = .ok (.getfield 17, 3) := by decide +kernel
theorem dX7_set_51 : decode cX7_set 51 = .ok (.invokevirtual 60, 3) := by decide +kernel
theorem dX7_set_54 : decode cX7_set 54 = .ok (.aload_n 0, 1) := by decide +kernel
theorem dX7_set_55 : decode cX7_set 55 = .ok (.getfield 24, 3) := by decide +kernel
theorem dX7_set_58 : decode cX7_set 58 = .ok (.getfield 164, 3) := by decide +kernel
theorem dX7_set_61 : decode cX7_set 61 = .ok (.iload_n 1, 1) := by decide +kernel
theorem dX7_set_62 : decode cX7_set 62 = .ok (.iload_n 2, 1) := by decide +kernel
theorem dX7_set_63 : decode cX7_set 63 = .ok (.iastore, 1) := by decide +kernel
theorem dX7_set_64 : decode cX7_set 64 = .ok (.aload_n 0, 1) := by decide +kernel
theorem dX7_set_65 : decode cX7_set 65 = .ok (.getfield 24, 3) := by decide +kernel
theorem dX7_set_68 : decode cX7_set 68 = .ok (.invokevirtual 167, 3) := by decide +kernel
theorem dX7_set_71 : decode cX7_set 71 = .ok (.ifCond .ne 6, 3) := by decide +kernel
theorem dX7_set_74 : decode cX7_set 74 = .ok (.bipush (-4), 2) := by decide +kernel
theorem dX7_set_76 : decode cX7_set 76 = .ok (.ireturn, 1) := by decide +kernel
theorem dX7_set_77 : decode cX7_set 77 = .ok (.aload_n 0, 1) := by decide +kernel
theorem dX7_set_78 : decode cX7_set 78 = .ok (.getfield 30, 3) := by decide +kernel
theorem dX7_set_81 : decode cX7_set 81 = .ok (.aload_n 0, 1) := by decide +kernel
theorem dX7_set_82 : decode cX7_set 82 = .ok (.getfield 17, 3) := by decide +kernel
theorem dX7_set_85 : decode cX7_set 85 = .ok (.invokevirtual 49, 3) := by decide +kernel
theorem dX7_set_88 : decode cX7_set 88 = .ok (.aload_n 0, 1) := by decide +kernel
theorem dX7_set_89 : decode cX7_set 89 = .ok (.getfield 17, 3) := by decide +kernel
theorem dX7_set_92 : decode cX7_set 92 = .ok (.getfield 164, 3) := by decide +kernel
theorem dX7_set_95 : decode cX7_set 95 = .ok (.iload_n 1, 1) := by decide +kernel
theorem dX7_set_96 : decode cX7_set 96 = .ok (.iload_n 2, 1) := by decide +kernel
theorem dX7_set_97 : decode cX7_set 97 = .ok (.iastore, 1) := by decide +kernel
theorem dX7_set_98 : decode cX7_set 98 = .ok (.iload_n 3, 1) := by decide +kernel
theorem dX7_set_99 : decode cX7_set 99 = .ok (.ireturn, 1) := by decide +kernel
set_option maxRecDepth 20000 in
theorem wf_X7_160 : Cond.fieldLink RX7 160 RX7 "HIGHEST_SETTINGS" "[I" ∈ zB := List.mem_filter.mpr ⟨List.mem_of_getElem? (i := 643) (by decide +kernel), by decide +kernel⟩
set_option maxRecDepth 20000 in
theorem wf_X7_164 : Cond.fieldLink RX7 164 RX5 "settings" "[I" ∈ zB := List.mem_filter.mpr ⟨List.mem_of_getElem? (i := 146) (by decide +kernel), by decide +kernel⟩
theorem q_X7_164 : zFld RX7 164 5 1 := ⟨RX5, TX5, 8, rfl, by decide, iX5, wf_X7_164, rfl⟩
theorem q_X7_24 : zFld RX7 24 7 2 := ⟨RX7, TX7, 6, rfl, by decide, iX7, wf_X7_24, rfl⟩
set_option maxRecDepth 20000 in
theorem wm_X7_60 : Cond.methodLink RX7 60 yX5_copyFrom ∈ zB := List.mem_filter.mpr ⟨List.mem_of_getElem? (i := 645) (by decide +kernel), by decide +kernel⟩
theorem k_X7_60 : zCal RX7 60 yX5_copyFrom cX5_copyFrom 3 none 1 := ⟨wm_X7_60, wi_X5, wc_X5_copyFrom, by decide +kernel, by decide +kernel, by decide +kernel⟩
set_option maxRecDepth 20000 in
theorem wc_X5_allRestsHold : Cond.code yX5_allRestsHold cX5_allRestsHold 3 (some .boolean) ∈ zB := List.mem_filter.mpr ⟨List.mem_of_getElem? (i := 649) (by decide +kernel), by decide +kernel⟩
set_option maxRecDepth 20000 in
theorem wm_X7_167 : Cond.methodLink RX7 167 yX5_allRestsHold ∈ zB := List.mem_filter.mpr ⟨List.mem_of_getElem? (i := 646) (by decide +kernel), by decide +kernel⟩
theorem k_X7_167 : zCal RX7 167 yX5_allRestsHold cX5_allRestsHold 3 (some .boolean) 0 := ⟨wm_X7_167, wi_X5, wc_X5_allRestsHold, by decide +kernel, by decide +kernel, by decide +kernel⟩
set_option maxRecDepth 20000 in
theorem wn_X5_allRestsHold : Cond.instanceMethod yX5_allRestsHold ∈ zB := List.mem_filter.mpr ⟨List.mem_of_getElem? (i := 647) (by decide +kernel), by decide +kernel⟩
set_option maxRecDepth 20000 in
theorem ws_X5_allRestsHold : Cond.selects RX5 yX5_allRestsHold yX5_allRestsHold ∈ zB := List.mem_filter.mpr ⟨List.mem_of_getElem? (i := 648) (by decide +kernel), by decide +kernel⟩
theorem v_X5_allRestsHold : zVir yX5_allRestsHold 5 := ⟨wn_X5_allRestsHold, ws_X5_allRestsHold, TX5, 8, rfl⟩
def rm_X7_set : Room := { frames := 5, cells := 0, slots := 0, locals := 110 }
set_option maxHeartbeats 4000000 in
set_option maxRecDepth 20000 in
theorem t_X7_set {p : Program} {l : Launch} {e : Env} {s : State} {m : MethodId} {args : Array Value} {below : List Frame} {meth : Method} {c : Code} {G : zG} (Z : zF p s m args c meth cX7_set 4 RX7 G) (hr : meth.sig.returnType = (some .int)) {out : Int32 × zHp} {a0 : Nat} {a1 : Int32} {a2 : Int32} {h : zHp} {H : Heap} {locs : List Loc} {ls : Array Slot} (hf : f_X7_set a0 a1 a2 h = some out) (E : zE G s h H locs) (hl : lv_has ls 4 [(0, .ref a0), (1, .int a1), (2, .int a2)]) : W p l e rm_X7_set s m args below meth c H locs 0 0 (MQ below (zQi G out.1 out.2) args s 0 0 (zA G)) (F0 m 0 ls []) := by
  unfold f_X7_set at hf
  refine lv_iload_n Z.x Z.b dX7_set_0 rfl (lv_at hl 1 rfl) ?_
  refine lv_iconst (v := 0) Z.x Z.b dX7_set_1 (by decide) ?_
  refine lv_iconst (v := 4) Z.x Z.b dX7_set_2 (by decide) ?_
  refine z_Si (As := [.int a1, .int 0, .int 4]) Z E hl.1 k_X7_88 wt_X7_isWithin hf (fun r h' e => c_X7_isWithin l G h h' a1 0 4 r e) rfl rfl (Nat.le_of_ble_eq_true rfl) (zRm_of rfl (Nat.zero_le _) (Nat.zero_le _)) dX7_set_3 (fun v1 h2 H locs hf E => ?_)
  refine lv_if_eq (tgt := 22) Z.x Z.b dX7_set_6 (by decide) (fun c => ?_) (fun c => ?_)
  · have hf := zit hf c
    refine lv_bipush (v := (-2)) Z.x Z.b dX7_set_22 (by decide) ?_
    exact z_iret Z E hr dX7_set_24 hf
  · have hf := zif_ hf c
    refine lv_iload_n Z.x Z.b dX7_set_9 rfl (lv_at hl 2 rfl) ?_
    refine lv_iconst (v := 0) Z.x Z.b dX7_set_10 (by decide) ?_
    refine z_tab (pc2 := 15) Z E Z.St.2 wf_X7_160 dX7_set_11 dX7_set_15 hf (fun t k => ?_) (fun v3 hf => ?_)
    · refine lv_iload_n Z.x Z.b dX7_set_14 rfl (lv_at hl 1 rfl) ?_
      exact k
    refine z_Si (As := [.int a2, .int 0, .int v3]) Z E hl.1 k_X7_88 wt_X7_isWithin hf (fun r h' e => c_X7_isWithin l G h2 h' a2 0 v3 r e) rfl rfl (Nat.le_of_ble_eq_true rfl) (zRm_of rfl (Nat.zero_le _) (Nat.zero_le _)) dX7_set_16 (fun v4 h5 H locs hf E => ?_)
    refine lv_if_ne (tgt := 25) Z.x Z.b dX7_set_19 (by decide) (fun c => ?_) (fun c => ?_)
    · have hf := zif_ hf c
      refine lv_aload_n Z.x Z.b dX7_set_25 rfl (lv_at hl 0 rfl) ?_
      refine z_getR Z E q_X7_17 dX7_set_26 hf (fun v6 hf => ?_)
      refine z_getR Z E q_X7_164 dX7_set_29 hf (fun v7 hf => ?_)
      refine lv_iload_n Z.x Z.b dX7_set_32 rfl (lv_at hl 1 rfl) ?_
      refine z_iald Z E dX7_set_33 hf (fun v8 hf => ?_)
      refine lv_istore_n (lv' := [(3, .int v8), (0, .ref a0), (1, .int a1), (2, .int a2)]) Z.x Z.b dX7_set_34 rfl hl (by decide) rfl (fun ls hl => ?_)
      refine lv_iload_n Z.x Z.b dX7_set_35 rfl (lv_at hl 3 rfl) ?_
      refine lv_iload_n Z.x Z.b dX7_set_36 rfl (lv_at hl 0 rfl) ?_
      refine lv_icmp_ne (tgt := 43) Z.x Z.b dX7_set_37 (by decide) (fun c => ?_) (fun c => ?_)
      · have hf := zif_ hf c
        refine lv_aload_n Z.x Z.b dX7_set_43 rfl (lv_at hl 1 rfl) ?_
        refine z_getR Z E q_X7_24 dX7_set_44 hf (fun v9 hf => ?_)
        refine lv_aload_n Z.x Z.b dX7_set_47 rfl (lv_at hl 1 rfl) ?_
        refine z_getR Z E q_X7_17 dX7_set_48 hf (fun v10 hf => ?_)
        refine z_Vv (As := [.ref v10]) Z E hl.1 k_X7_60 v_X5_copyFrom hf (fun h' e => c_X5_copyFrom l G h5 h' v9 v10 e) rfl rfl (Nat.le_of_ble_eq_true rfl) (zRm_of rfl (Nat.zero_le _) (Nat.zero_le _)) dX7_set_51 (fun h11 H locs hf E => ?_)
        refine lv_aload_n Z.x Z.b dX7_set_54 rfl (lv_at hl 1 rfl) ?_
        refine z_getR Z E q_X7_24 dX7_set_55 hf (fun v12 hf => ?_)
        refine z_getR Z E q_X7_164 dX7_set_58 hf (fun v13 hf => ?_)
        refine lv_iload_n Z.x Z.b dX7_set_61 rfl (lv_at hl 2 rfl) ?_
        refine lv_iload_n Z.x Z.b dX7_set_62 rfl (lv_at hl 3 rfl) ?_
        refine z_iast Z E dX7_set_63 hf (fun h14 H locs hf E => ?_)
        refine lv_aload_n Z.x Z.b dX7_set_64 rfl (lv_at hl 1 rfl) ?_
        refine z_getR Z E q_X7_24 dX7_set_65 hf (fun v15 hf => ?_)
        refine z_Vi (As := []) Z E hl.1 k_X7_167 v_X5_allRestsHold hf (fun r h' e => c_X5_allRestsHold l G h14 h' v15 r e) rfl rfl (Nat.le_of_ble_eq_true rfl) (zRm_of rfl (Nat.zero_le _) (Nat.zero_le _)) dX7_set_68 (fun v16 h17 H locs hf E => ?_)
        refine lv_if_ne (tgt := 77) Z.x Z.b dX7_set_71 (by decide) (fun c => ?_) (fun c => ?_)
        · have hf := zif_ hf c
          refine lv_aload_n Z.x Z.b dX7_set_77 rfl (lv_at hl 1 rfl) ?_
          refine z_getR Z E q_X7_30 dX7_set_78 hf (fun v18 hf => ?_)
          refine lv_aload_n Z.x Z.b dX7_set_81 rfl (lv_at hl 1 rfl) ?_
          refine z_getR Z E q_X7_17 dX7_set_82 hf (fun v19 hf => ?_)
          refine z_Vv (As := [.ref v19]) Z E hl.1 k_X7_49 v_X1_record hf (fun h' e => c_X1_record l G h17 h' v18 v19 e) rfl rfl (Nat.le_of_ble_eq_true rfl) (zRm_of rfl (Nat.zero_le _) (Nat.zero_le _)) dX7_set_85 (fun h20 H locs hf E => ?_)
          refine lv_aload_n Z.x Z.b dX7_set_88 rfl (lv_at hl 1 rfl) ?_
          refine z_getR Z E q_X7_17 dX7_set_89 hf (fun v21 hf => ?_)
          refine z_getR Z E q_X7_164 dX7_set_92 hf (fun v22 hf => ?_)
          refine lv_iload_n Z.x Z.b dX7_set_95 rfl (lv_at hl 2 rfl) ?_
          refine lv_iload_n Z.x Z.b dX7_set_96 rfl (lv_at hl 3 rfl) ?_
          refine z_iast Z E dX7_set_97 hf (fun h23 H locs hf E => ?_)
          refine lv_iload_n Z.x Z.b dX7_set_98 rfl (lv_at hl 0 rfl) ?_
          exact z_iret Z E hr dX7_set_99 hf
        · have hf := zit hf c
          refine lv_bipush (v := (-4)) Z.x Z.b dX7_set_74 (by decide) ?_
          exact z_iret Z E hr dX7_set_76 hf
      · have hf := zit hf c
        refine lv_bipush (v := (-5)) Z.x Z.b dX7_set_40 (by decide) ?_
        exact z_iret Z E hr dX7_set_42 hf
    · have hf := zit hf c
      refine lv_bipush (v := (-2)) Z.x Z.b dX7_set_22 (by decide) ?_
      exact z_iret Z E hr dX7_set_24 hf
set_option maxHeartbeats 4000000 in
set_option maxRecDepth 20000 in
theorem c_X7_set (l : Launch) (G : zG) (h : zHp) (h' : zHp) (a0 : Nat) (a1 : Int32) (a2 : Int32) (r : Int32) (hf : f_X7_set a0 a1 a2 h = some (r, h')) : zM0 l yX7_set cX7_set 4 (some .int) rm_X7_set G [.ref a0, .int a1, .int a2] h (zQi G r h') := by
  refine Met.ofW (cc := cX7_set) (maxL := 4) (ret := (some .int)) (by decide) rfl ?_
  intro p e s m args below meth c s₁ B hml hv
  obtain ⟨rfl, hW⟩ := hv
  obtain ⟨Z, E, hr⟩ := zEnter (own := RX7) B hml rfl hW
  have hl := lv_entry ([.ref a0, .int a1, .int a2]) (n := 4) (Nat.le_of_ble_eq_true rfl)
  rw [lg_entry_eq]
  generalize (lg_sl ([.ref a0, .int a1, .int a2]) ++ List.replicate (4 - (lg_sl ([.ref a0, .int a1, .int a2])).length) Slot.unset).toArray = ls at hl ⊢
  have hl : lv_has ls 4 [(0, .ref a0), (1, .int a1), (2, .int a2)] := hl
  exact t_X7_set (out := (r, h')) Z hr hf E hl
/-! FerryCrews.undo()I -/
theorem dX7_undo_0 : decode cX7_undo 0 = .ok (.aload_n 0, 1) := by decide +kernel
theorem dX7_undo_1 : decode cX7_undo 1 = .ok (.getfield 30, 3) := by decide +kernel
theorem dX7_undo_4 : decode cX7_undo 4 = .ok (.getfield 177, 3) := by decide +kernel
theorem dX7_undo_7 : decode cX7_undo 7 = .ok (.ifCond .ne 6, 3) := by decide +kernel
theorem dX7_undo_10 : decode cX7_undo 10 = .ok (.bipush (-5), 2) := by decide +kernel
theorem dX7_undo_12 : decode cX7_undo 12 = .ok (.ireturn, 1) := by decide +kernel
theorem dX7_undo_13 : decode cX7_undo 13 = .ok (.aload_n 0, 1) := by decide +kernel
theorem dX7_undo_14 : decode cX7_undo 14 = .ok (.getfield 30, 3) := by decide +kernel
theorem dX7_undo_17 : decode cX7_undo 17 = .ok (.aload_n 0, 1) := by decide +kernel
theorem dX7_undo_18 : decode cX7_undo 18 = .ok (.getfield 17, 3) := by decide +kernel
theorem dX7_undo_21 : decode cX7_undo 21 = .ok (.invokevirtual 180, 3) := by decide +kernel
theorem dX7_undo_24 : decode cX7_undo 24 = .ok (.aload_n 0, 1) := by decide +kernel
theorem dX7_undo_25 : decode cX7_undo 25 = .ok (.getfield 30, 3) := by decide +kernel
theorem dX7_undo_28 : decode cX7_undo 28 = .ok (.getfield 177, 3) := by decide +kernel
theorem dX7_undo_31 : decode cX7_undo 31 = .ok (.ireturn, 1) := by decide +kernel
set_option maxRecDepth 20000 in
theorem wf_X7_177 : Cond.fieldLink RX7 177 RX1 "size" "I" ∈ zB := List.mem_filter.mpr ⟨List.mem_of_getElem? (i := 184) (by decide +kernel), by decide +kernel⟩
theorem q_X7_177 : zFld RX7 177 1 1 := ⟨RX1, TX1, 2, rfl, by decide, iX1, wf_X7_177, rfl⟩
set_option maxRecDepth 20000 in
theorem wc_X1_takeBack : Cond.code yX1_takeBack cX1_takeBack 2 none ∈ zB := List.mem_filter.mpr ⟨List.mem_of_getElem? (i := 246) (by decide +kernel), by decide +kernel⟩
set_option maxRecDepth 20000 in
theorem wm_X7_180 : Cond.methodLink RX7 180 yX1_takeBack ∈ zB := List.mem_filter.mpr ⟨List.mem_of_getElem? (i := 243) (by decide +kernel), by decide +kernel⟩
theorem k_X7_180 : zCal RX7 180 yX1_takeBack cX1_takeBack 2 none 1 := ⟨wm_X7_180, wi_X1, wc_X1_takeBack, by decide +kernel, by decide +kernel, by decide +kernel⟩
set_option maxRecDepth 20000 in
theorem wn_X1_takeBack : Cond.instanceMethod yX1_takeBack ∈ zB := List.mem_filter.mpr ⟨List.mem_of_getElem? (i := 244) (by decide +kernel), by decide +kernel⟩
set_option maxRecDepth 20000 in
theorem ws_X1_takeBack : Cond.selects RX1 yX1_takeBack yX1_takeBack ∈ zB := List.mem_filter.mpr ⟨List.mem_of_getElem? (i := 245) (by decide +kernel), by decide +kernel⟩
theorem v_X1_takeBack : zVir yX1_takeBack 1 := ⟨wn_X1_takeBack, ws_X1_takeBack, TX1, 2, rfl⟩
def rm_X7_undo : Room := { frames := 4, cells := 0, slots := 0, locals := 104 }
set_option maxHeartbeats 4000000 in
set_option maxRecDepth 20000 in
theorem t_X7_undo {p : Program} {l : Launch} {e : Env} {s : State} {m : MethodId} {args : Array Value} {below : List Frame} {meth : Method} {c : Code} {G : zG} (Z : zF p s m args c meth cX7_undo 1 RX7 G) (hr : meth.sig.returnType = (some .int)) {out : Int32 × zHp} {a0 : Nat} {h : zHp} {H : Heap} {locs : List Loc} {ls : Array Slot} (hf : f_X7_undo a0 h = some out) (E : zE G s h H locs) (hl : lv_has ls 1 [(0, .ref a0)]) : W p l e rm_X7_undo s m args below meth c H locs 0 0 (MQ below (zQi G out.1 out.2) args s 0 0 (zA G)) (F0 m 0 ls []) := by
  unfold f_X7_undo at hf
  refine lv_aload_n Z.x Z.b dX7_undo_0 rfl (lv_at hl 0 rfl) ?_
  refine z_getR Z E q_X7_30 dX7_undo_1 hf (fun v1 hf => ?_)
  refine z_getI Z E q_X7_177 dX7_undo_4 hf (fun v2 hf => ?_)
  refine lv_if_ne (tgt := 13) Z.x Z.b dX7_undo_7 (by decide) (fun c => ?_) (fun c => ?_)
  · have hf := zif_ hf c
    refine lv_aload_n Z.x Z.b dX7_undo_13 rfl (lv_at hl 0 rfl) ?_
    refine z_getR Z E q_X7_30 dX7_undo_14 hf (fun v3 hf => ?_)
    refine lv_aload_n Z.x Z.b dX7_undo_17 rfl (lv_at hl 0 rfl) ?_
    refine z_getR Z E q_X7_17 dX7_undo_18 hf (fun v4 hf => ?_)
    refine z_Vv (As := [.ref v4]) Z E hl.1 k_X7_180 v_X1_takeBack hf (fun h' e => c_X1_takeBack l G h h' v3 v4 e) rfl rfl (Nat.le_of_ble_eq_true rfl) (zRm_of rfl (Nat.zero_le _) (Nat.zero_le _)) dX7_undo_21 (fun h5 H locs hf E => ?_)
    refine lv_aload_n Z.x Z.b dX7_undo_24 rfl (lv_at hl 0 rfl) ?_
    refine z_getR Z E q_X7_30 dX7_undo_25 hf (fun v6 hf => ?_)
    refine z_getI Z E q_X7_177 dX7_undo_28 hf (fun v7 hf => ?_)
    exact z_iret Z E hr dX7_undo_31 hf
  · have hf := zit hf c
    refine lv_bipush (v := (-5)) Z.x Z.b dX7_undo_10 (by decide) ?_
    exact z_iret Z E hr dX7_undo_12 hf
set_option maxHeartbeats 4000000 in
set_option maxRecDepth 20000 in
theorem c_X7_undo (l : Launch) (G : zG) (h : zHp) (h' : zHp) (a0 : Nat) (r : Int32) (hf : f_X7_undo a0 h = some (r, h')) : zM0 l yX7_undo cX7_undo 1 (some .int) rm_X7_undo G [.ref a0] h (zQi G r h') := by
  refine Met.ofW (cc := cX7_undo) (maxL := 1) (ret := (some .int)) (by decide) rfl ?_
  intro p e s m args below meth c s₁ B hml hv
  obtain ⟨rfl, hW⟩ := hv
  obtain ⟨Z, E, hr⟩ := zEnter (own := RX7) B hml rfl hW
  have hl := lv_entry ([.ref a0]) (n := 1) (Nat.le_of_ble_eq_true rfl)
  rw [lg_entry_eq]
  generalize (lg_sl ([.ref a0]) ++ List.replicate (1 - (lg_sl ([.ref a0])).length) Slot.unset).toArray = ls at hl ⊢
  have hl : lv_has ls 1 [(0, .ref a0)] := hl
  exact t_X7_undo (out := (r, h')) Z hr hf E hl
/-! FerryCrews.sailingOf(II)I -/
theorem dX7_sailingOf_0 : decode cX7_sailingOf 0 = .ok (.aload_n 0, 1) := by decide +kernel
theorem dX7_sailingOf_1 : decode cX7_sailingOf 1 = .ok (.getfield 17, 3) := by decide +kernel
theorem dX7_sailingOf_4 : decode cX7_sailingOf 4 = .ok (.iload_n 1, 1) := by decide +kernel
theorem dX7_sailingOf_5 : decode cX7_sailingOf 5 = .ok (.invokevirtual 71, 3) := by decide +kernel
theorem dX7_sailingOf_8 : decode cX7_sailingOf 8 = .ok (.astore_n 3, 1) := by decide +kernel
theorem dX7_sailingOf_9 : decode cX7_sailingOf 9 = .ok (.aload_n 3, 1) := by decide +kernel
theorem dX7_sailingOf_10 : decode cX7_sailingOf 10 = .ok (.ifnonnull 5, 3) := by decide +kernel
theorem dX7_sailingOf_13 : decode cX7_sailingOf 13 = .ok (.iconst (-1), 1) := by decide +kernel
theorem dX7_sailingOf_14 : decode cX7_sailingOf 14 = .ok (.ireturn, 1) := by decide +kernel
theorem dX7_sailingOf_15 : decode cX7_sailingOf 15 = .ok (.iload_n 2, 1) := by decide +kernel
theorem dX7_sailingOf_16 : decode cX7_sailingOf 16 = .ok (.tableswitch 79 0 6 #[44, 49, 54, 59, 64, 69, 74], 44) := by decide +kernel
theorem dX7_sailingOf_60 : decode cX7_sailingOf 60 = .ok (.aload_n 3, 1) := by decide +kernel
theorem dX7_sailingOf_61 : decode cX7_sailingOf 61 = .ok (.getfield 183, 3) := by decide +kernel
theorem dX7_sailingOf_64 : decode cX7_sailingOf 64 = .ok (.ireturn, 1) := by decide +kernel
theorem dX7_sailingOf_65 : decode cX7_sailingOf 65 = .ok (.aload_n 3, 1) := by decide +kernel
theorem dX7_sailingOf_66 : decode cX7_sailingOf 66 = .ok (.getfield 186, 3) := by decide +kernel
theorem dX7_sailingOf_69 : decode cX7_sailingOf 69 = .ok (.ireturn, 1) := by decide +kernel
theorem dX7_sailingOf_70 : decode cX7_sailingOf 70 = .ok (.aload_n 3, 1) := by decide +kernel
theorem dX7_sailingOf_71 : decode cX7_sailingOf 71 = .ok (.getfield 189, 3) := by decide +kernel
theorem dX7_sailingOf_74 : decode cX7_sailingOf 74 = .ok (.ireturn, 1) := by decide +kernel
theorem dX7_sailingOf_75 : decode cX7_sailingOf 75 = .ok (.aload_n 3, 1) := by decide +kernel
theorem dX7_sailingOf_76 : decode cX7_sailingOf 76 = .ok (.getfield 192, 3) := by decide +kernel
theorem dX7_sailingOf_79 : decode cX7_sailingOf 79 = .ok (.ireturn, 1) := by decide +kernel
theorem dX7_sailingOf_80 : decode cX7_sailingOf 80 = .ok (.aload_n 3, 1) := by decide +kernel
theorem dX7_sailingOf_81 : decode cX7_sailingOf 81 = .ok (.getfield 195, 3) := by decide +kernel
theorem dX7_sailingOf_84 : decode cX7_sailingOf 84 = .ok (.ireturn, 1) := by decide +kernel
theorem dX7_sailingOf_85 : decode cX7_sailingOf 85 = .ok (.aload_n 3, 1) := by decide +kernel
theorem dX7_sailingOf_86 : decode cX7_sailingOf 86 = .ok (.invokevirtual 198, 3) := by decide +kernel
theorem dX7_sailingOf_89 : decode cX7_sailingOf 89 = .ok (.ireturn, 1) := by decide +kernel
theorem dX7_sailingOf_90 : decode cX7_sailingOf 90 = .ok (.aload_n 3, 1) := by decide +kernel
theorem dX7_sailingOf_91 : decode cX7_sailingOf 91 = .ok (.invokevirtual 150, 3) := by decide +kernel
theorem dX7_sailingOf_94 : decode cX7_sailingOf 94 = .ok (.ireturn, 1) := by decide +kernel
theorem dX7_sailingOf_95 : decode cX7_sailingOf 95 = .ok (.bipush (-2), 2) := by decide +kernel
theorem dX7_sailingOf_97 : decode cX7_sailingOf 97 = .ok (.ireturn, 1) := by decide +kernel
set_option maxRecDepth 20000 in
theorem wf_X7_183 : Cond.fieldLink RX7 183 RX4 "status" "I" ∈ zB := List.mem_filter.mpr ⟨List.mem_of_getElem? (i := 88) (by decide +kernel), by decide +kernel⟩
theorem q_X7_183 : zFld RX7 183 4 5 := ⟨RX4, TX4, 9, rfl, by decide, iX4, wf_X7_183, rfl⟩
set_option maxRecDepth 20000 in
theorem wf_X7_186 : Cond.fieldLink RX7 186 RX4 "ferry" "I" ∈ zB := List.mem_filter.mpr ⟨List.mem_of_getElem? (i := 75) (by decide +kernel), by decide +kernel⟩
theorem q_X7_186 : zFld RX7 186 4 1 := ⟨RX4, TX4, 9, rfl, by decide, iX4, wf_X7_186, rfl⟩
set_option maxRecDepth 20000 in
theorem wf_X7_189 : Cond.fieldLink RX7 189 RX4 "start" "I" ∈ zB := List.mem_filter.mpr ⟨List.mem_of_getElem? (i := 79) (by decide +kernel), by decide +kernel⟩
theorem q_X7_189 : zFld RX7 189 4 2 := ⟨RX4, TX4, 9, rfl, by decide, iX4, wf_X7_189, rfl⟩
set_option maxRecDepth 20000 in
theorem wf_X7_192 : Cond.fieldLink RX7 192 RX4 "end" "I" ∈ zB := List.mem_filter.mpr ⟨List.mem_of_getElem? (i := 83) (by decide +kernel), by decide +kernel⟩
theorem q_X7_192 : zFld RX7 192 4 3 := ⟨RX4, TX4, 9, rfl, by decide, iX4, wf_X7_192, rfl⟩
set_option maxRecDepth 20000 in
theorem wf_X7_195 : Cond.fieldLink RX7 195 RX4 "set" "I" ∈ zB := List.mem_filter.mpr ⟨List.mem_of_getElem? (i := 85) (by decide +kernel), by decide +kernel⟩
theorem q_X7_195 : zFld RX7 195 4 4 := ⟨RX4, TX4, 9, rfl, by decide, iX4, wf_X7_195, rfl⟩
set_option maxRecDepth 20000 in
theorem wm_X7_198 : Cond.methodLink RX7 198 yX4_allPlaces ∈ zB := List.mem_filter.mpr ⟨List.mem_of_getElem? (i := 445) (by decide +kernel), by decide +kernel⟩
theorem k_X7_198 : zCal RX7 198 yX4_allPlaces cX4_allPlaces 3 (some .int) 0 := ⟨wm_X7_198, wi_X4, wc_X4_allPlaces, by decide +kernel, by decide +kernel, by decide +kernel⟩
def rm_X7_sailingOf : Room := { frames := 2, cells := 0, slots := 0, locals := 45 }
set_option maxHeartbeats 4000000 in
set_option maxRecDepth 20000 in
theorem t_X7_sailingOf {p : Program} {l : Launch} {e : Env} {s : State} {m : MethodId} {args : Array Value} {below : List Frame} {meth : Method} {c : Code} {G : zG} (Z : zF p s m args c meth cX7_sailingOf 4 RX7 G) (hr : meth.sig.returnType = (some .int)) {out : Int32 × zHp} {a0 : Nat} {a1 : Int32} {a2 : Int32} {h : zHp} {H : Heap} {locs : List Loc} {ls : Array Slot} (hf : f_X7_sailingOf a0 a1 a2 h = some out) (E : zE G s h H locs) (hl : lv_has ls 4 [(0, .ref a0), (1, .int a1), (2, .int a2)]) : W p l e rm_X7_sailingOf s m args below meth c H locs 0 0 (MQ below (zQi G out.1 out.2) args s 0 0 (zA G)) (F0 m 0 ls []) := by
  unfold f_X7_sailingOf at hf
  refine lv_aload_n Z.x Z.b dX7_sailingOf_0 rfl (lv_at hl 0 rfl) ?_
  refine z_getR Z E q_X7_17 dX7_sailingOf_1 hf (fun v1 hf => ?_)
  refine lv_iload_n Z.x Z.b dX7_sailingOf_4 rfl (lv_at hl 1 rfl) ?_
  refine z_Vq (As := [.int a1]) Z E hl.1 k_X7_71 v_X5_sailingAt hf (fun r h' e => c_X5_sailingAt l G h h' v1 a1 r e) rfl rfl (Nat.le_of_ble_eq_true rfl) (zRm_of rfl (Nat.zero_le _) (Nat.zero_le _)) dX7_sailingOf_5 (fun w2 h3 H locs hf E => ?_)
  refine z_astore_n (lv' := [(3, va_rf w2), (0, .ref a0), (1, .int a1), (2, .int a2)]) Z (x := w2) dX7_sailingOf_8 rfl hl (by decide) (by cases w2 <;> rfl) (fun ls hl => ?_)
  refine z_aload_n Z (x := w2) dX7_sailingOf_9 rfl (lv_at hl 0 rfl) ?_
  refine z_ifnonnull (tgt := 15) Z dX7_sailingOf_10 (by decide) hf (fun ex h9_10 => ?_) (fun v4 ex h9_10 => ?_)
  · subst ex
    have hf := h9_10
    refine lv_iconst (v := (-1)) Z.x Z.b dX7_sailingOf_13 (by decide) ?_
    exact z_iret Z E hr dX7_sailingOf_14 hf
  · subst ex
    have hf := h9_10
    refine lv_iload_n Z.x Z.b dX7_sailingOf_15 rfl (lv_at hl 3 rfl) ?_
    by_cases c0 : a2 = 0
    · have hf := zit hf c0
      refine lv_tableIn (tgt := 60) Z.x Z.b dX7_sailingOf_16 (by rw [c0]; decide) (by rw [c0]; decide) (by rw [c0]; rfl) (by decide) ?_
      refine lv_aload_n Z.x Z.b dX7_sailingOf_60 rfl (lv_at hl 0 rfl) ?_
      refine z_getI Z E q_X7_183 dX7_sailingOf_61 hf (fun v5 hf => ?_)
      exact z_iret Z E hr dX7_sailingOf_64 hf
    · have hf := zif_ hf c0
      by_cases c1 : a2 = 1
      · have hf := zit hf c1
        refine lv_tableIn (tgt := 65) Z.x Z.b dX7_sailingOf_16 (by rw [c1]; decide) (by rw [c1]; decide) (by rw [c1]; rfl) (by decide) ?_
        refine lv_aload_n Z.x Z.b dX7_sailingOf_65 rfl (lv_at hl 0 rfl) ?_
        refine z_getI Z E q_X7_186 dX7_sailingOf_66 hf (fun v6 hf => ?_)
        exact z_iret Z E hr dX7_sailingOf_69 hf
      · have hf := zif_ hf c1
        by_cases c2 : a2 = 2
        · have hf := zit hf c2
          refine lv_tableIn (tgt := 70) Z.x Z.b dX7_sailingOf_16 (by rw [c2]; decide) (by rw [c2]; decide) (by rw [c2]; rfl) (by decide) ?_
          refine lv_aload_n Z.x Z.b dX7_sailingOf_70 rfl (lv_at hl 0 rfl) ?_
          refine z_getI Z E q_X7_189 dX7_sailingOf_71 hf (fun v7 hf => ?_)
          exact z_iret Z E hr dX7_sailingOf_74 hf
        · have hf := zif_ hf c2
          by_cases c3 : a2 = 3
          · have hf := zit hf c3
            refine lv_tableIn (tgt := 75) Z.x Z.b dX7_sailingOf_16 (by rw [c3]; decide) (by rw [c3]; decide) (by rw [c3]; rfl) (by decide) ?_
            refine lv_aload_n Z.x Z.b dX7_sailingOf_75 rfl (lv_at hl 0 rfl) ?_
            refine z_getI Z E q_X7_192 dX7_sailingOf_76 hf (fun v8 hf => ?_)
            exact z_iret Z E hr dX7_sailingOf_79 hf
          · have hf := zif_ hf c3
            by_cases c4 : a2 = 4
            · have hf := zit hf c4
              refine lv_tableIn (tgt := 80) Z.x Z.b dX7_sailingOf_16 (by rw [c4]; decide) (by rw [c4]; decide) (by rw [c4]; rfl) (by decide) ?_
              refine lv_aload_n Z.x Z.b dX7_sailingOf_80 rfl (lv_at hl 0 rfl) ?_
              refine z_getI Z E q_X7_195 dX7_sailingOf_81 hf (fun v9 hf => ?_)
              exact z_iret Z E hr dX7_sailingOf_84 hf
            · have hf := zif_ hf c4
              by_cases c5 : a2 = 5
              · have hf := zit hf c5
                refine lv_tableIn (tgt := 85) Z.x Z.b dX7_sailingOf_16 (by rw [c5]; decide) (by rw [c5]; decide) (by rw [c5]; rfl) (by decide) ?_
                refine lv_aload_n Z.x Z.b dX7_sailingOf_85 rfl (lv_at hl 0 rfl) ?_
                refine z_Vi (As := []) Z E hl.1 k_X7_198 v_X4_allPlaces hf (fun r h' e => c_X4_allPlaces l G h3 h' v4 r e) rfl rfl (Nat.le_of_ble_eq_true rfl) (zRm_of rfl (Nat.zero_le _) (Nat.zero_le _)) dX7_sailingOf_86 (fun v10 h11 H locs hf E => ?_)
                exact z_iret Z E hr dX7_sailingOf_89 hf
              · have hf := zif_ hf c5
                by_cases c6 : a2 = 6
                · have hf := zit hf c6
                  refine lv_tableIn (tgt := 90) Z.x Z.b dX7_sailingOf_16 (by rw [c6]; decide) (by rw [c6]; decide) (by rw [c6]; rfl) (by decide) ?_
                  refine lv_aload_n Z.x Z.b dX7_sailingOf_90 rfl (lv_at hl 0 rfl) ?_
                  refine z_Vi (As := []) Z E hl.1 k_X7_150 v_X4_freePlaces hf (fun r h' e => c_X4_freePlaces l G h3 h' v4 r e) rfl rfl (Nat.le_of_ble_eq_true rfl) (zRm_of rfl (Nat.zero_le _) (Nat.zero_le _)) dX7_sailingOf_91 (fun v12 h13 H locs hf E => ?_)
                  exact z_iret Z E hr dX7_sailingOf_94 hf
                · have hf := zif_ hf c6
                  have n0 := zsw (k := 0) c0 (by decide)
                  have n1 := zsw (k := 1) c1 (by decide)
                  have n2 := zsw (k := 2) c2 (by decide)
                  have n3 := zsw (k := 3) c3 (by decide)
                  have n4 := zsw (k := 4) c4 (by decide)
                  have n5 := zsw (k := 5) c5 (by decide)
                  have n6 := zsw (k := 6) c6 (by decide)
                  refine lv_tableOut (tgt := 95) Z.x Z.b dX7_sailingOf_16 (by omega) (by decide) ?_
                  refine lv_bipush (v := (-2)) Z.x Z.b dX7_sailingOf_95 (by decide) ?_
                  exact z_iret Z E hr dX7_sailingOf_97 hf
set_option maxHeartbeats 4000000 in
set_option maxRecDepth 20000 in
theorem c_X7_sailingOf (l : Launch) (G : zG) (h : zHp) (h' : zHp) (a0 : Nat) (a1 : Int32) (a2 : Int32) (r : Int32) (hf : f_X7_sailingOf a0 a1 a2 h = some (r, h')) : zM0 l yX7_sailingOf cX7_sailingOf 4 (some .int) rm_X7_sailingOf G [.ref a0, .int a1, .int a2] h (zQi G r h') := by
  refine Met.ofW (cc := cX7_sailingOf) (maxL := 4) (ret := (some .int)) (by decide) rfl ?_
  intro p e s m args below meth c s₁ B hml hv
  obtain ⟨rfl, hW⟩ := hv
  obtain ⟨Z, E, hr⟩ := zEnter (own := RX7) B hml rfl hW
  have hl := lv_entry ([.ref a0, .int a1, .int a2]) (n := 4) (Nat.le_of_ble_eq_true rfl)
  rw [lg_entry_eq]
  generalize (lg_sl ([.ref a0, .int a1, .int a2]) ++ List.replicate (4 - (lg_sl ([.ref a0, .int a1, .int a2])).length) Slot.unset).toArray = ls at hl ⊢
  have hl : lv_has ls 4 [(0, .ref a0), (1, .int a1), (2, .int a2)] := hl
  exact t_X7_sailingOf (out := (r, h')) Z hr hf E hl
/-! FerryCrews.crew(III)I -/
theorem dX7_crew_0 : decode cX7_crew 0 = .ok (.aload_n 0, 1) := by decide +kernel
theorem dX7_crew_1 : decode cX7_crew 1 = .ok (.getfield 17, 3) := by decide +kernel
theorem dX7_crew_4 : decode cX7_crew 4 = .ok (.iload_n 1, 1) := by decide +kernel
theorem dX7_crew_5 : decode cX7_crew 5 = .ok (.invokevirtual 71, 3) := by decide +kernel
theorem dX7_crew_8 : decode cX7_crew 8 = .ok (.astore 4, 2) := by decide +kernel
theorem dX7_crew_10 : decode cX7_crew 10 = .ok (.aload 4, 2) := by decide +kernel
theorem dX7_crew_12 : decode cX7_crew 12 = .ok (.ifnonnull 5, 3) := by decide +kernel
theorem dX7_crew_15 : decode cX7_crew 15 = .ok (.iconst (-1), 1) := by decide +kernel
theorem dX7_crew_16 : decode cX7_crew 16 = .ok (.ireturn, 1) := by decide +kernel
theorem dX7_crew_17 : decode cX7_crew 17 = .ok (.iload_n 2, 1) := by decide +kernel
theorem dX7_crew_18 : decode cX7_crew 18 = .ok (.ifCond .lt 12, 3) := by decide +kernel
theorem dX7_crew_21 : decode cX7_crew 21 = .ok (.iload_n 3, 1) := by decide +kernel
theorem dX7_crew_22 : decode cX7_crew 22 = .ok (.iconst 0, 1) := by decide +kernel
theorem dX7_crew_23 : decode cX7_crew 23 = .ok (.iconst 2, 1) := by decide +kernel
theorem dX7_crew_24 : decode cX7_crew 24 = .ok (.invokestatic 88, 3) := by decide +kernel
theorem dX7_crew_27 : decode cX7_crew 27 = .ok (.ifCond .ne 6, 3) := by decide +kernel
theorem dX7_crew_30 : decode cX7_crew 30 = .ok (.bipush (-2), 2) := by decide +kernel
theorem dX7_crew_32 : decode cX7_crew 32 = .ok (.ireturn, 1) := by decide +kernel
theorem dX7_crew_33 : decode cX7_crew 33 = .ok (.aload 4, 2) := by decide +kernel
theorem dX7_crew_35 : decode cX7_crew 35 = .ok (.iload_n 2, 1) := by decide +kernel
theorem dX7_crew_36 : decode cX7_crew 36 = .ok (.invokevirtual 201, 3) := by decide +kernel
theorem dX7_crew_39 : decode cX7_crew 39 = .ok (.istore 5, 2) := by decide +kernel
theorem dX7_crew_41 : decode cX7_crew 41 = .ok (.iload 5, 2) := by decide +kernel
theorem dX7_crew_43 : decode cX7_crew 43 = .ok (.bipush (-5), 2) := by decide +kernel
theorem dX7_crew_45 : decode cX7_crew 45 = .ok (.if_icmp .eq 7, 3) := by decide +kernel
theorem dX7_crew_48 : decode cX7_crew 48 = .ok (.iload_n 3, 1) := by decide +kernel
theorem dX7_crew_49 : decode cX7_crew 49 = .ok (.ifCond .ne 6, 3) := by decide +kernel
theorem dX7_crew_52 : decode cX7_crew 52 = .ok (.iload 5, 2) := by decide +kernel
theorem dX7_crew_54 : decode cX7_crew 54 = .ok (.ireturn, 1) := by decide +kernel
theorem dX7_crew_55 : decode cX7_crew 55 = .ok (.iload_n 3, 1) := by decide +kernel
theorem dX7_crew_56 : decode cX7_crew 56 = .ok (.iconst 1, 1) := by decide +kernel
theorem dX7_crew_57 : decode cX7_crew 57 = .ok (.if_icmp .ne 11, 3) := by decide +kernel
theorem dX7_crew_60 : decode cX7_crew 60 = .ok (.aload 4, 2) := by decide +kernel
theorem dX7_crew_62 : decode cX7_crew 62 = .ok (.iload 5, 2) := by decide +kernel
theorem dX7_crew_64 : decode cX7_crew 64 = .ok (.invokevirtual 204, 3) := by decide +kernel
theorem dX7_crew_67 : decode cX7_crew 67 = .ok (.ireturn, 1) := by decide +kernel
theorem dX7_crew_68 : decode cX7_crew 68 = .ok (.aload_n 0, 1) := by decide +kernel
theorem dX7_crew_69 : decode cX7_crew 69 = .ok (.getfield 17, 3) := by decide +kernel
theorem dX7_crew_72 : decode cX7_crew 72 = .ok (.iload 5, 2) := by decide +kernel
theorem dX7_crew_74 : decode cX7_crew 74 = .ok (.aconst_null, 1) := by decide +kernel
theorem dX7_crew_75 : decode cX7_crew 75 = .ok (.invokevirtual 207, 3) := by decide +kernel
theorem dX7_crew_78 : decode cX7_crew 78 = .ok (.aload 4, 2) := by decide +kernel
theorem dX7_crew_80 : decode cX7_crew 80 = .ok (.invokevirtual 211, 3) := by decide +kernel
theorem dX7_crew_83 : decode cX7_crew 83 = .ok (.ireturn, 1) := by decide +kernel
set_option maxRecDepth 20000 in
theorem wc_X4_memberOfRank : Cond.code yX4_memberOfRank cX4_memberOfRank 5 (some .int) ∈ zB := List.mem_filter.mpr ⟨List.mem_of_getElem? (i := 454) (by decide +kernel), by decide +kernel⟩
set_option maxRecDepth 20000 in
theorem wm_X7_201 : Cond.methodLink RX7 201 yX4_memberOfRank ∈ zB := List.mem_filter.mpr ⟨List.mem_of_getElem? (i := 451) (by decide +kernel), by decide +kernel⟩
theorem k_X7_201 : zCal RX7 201 yX4_memberOfRank cX4_memberOfRank 5 (some .int) 1 := ⟨wm_X7_201, wi_X4, wc_X4_memberOfRank, by decide +kernel, by decide +kernel, by decide +kernel⟩
set_option maxRecDepth 20000 in
theorem wn_X4_memberOfRank : Cond.instanceMethod yX4_memberOfRank ∈ zB := List.mem_filter.mpr ⟨List.mem_of_getElem? (i := 452) (by decide +kernel), by decide +kernel⟩
set_option maxRecDepth 20000 in
theorem ws_X4_memberOfRank : Cond.selects RX4 yX4_memberOfRank yX4_memberOfRank ∈ zB := List.mem_filter.mpr ⟨List.mem_of_getElem? (i := 453) (by decide +kernel), by decide +kernel⟩
theorem v_X4_memberOfRank : zVir yX4_memberOfRank 4 := ⟨wn_X4_memberOfRank, ws_X4_memberOfRank, TX4, 9, rfl⟩
set_option maxRecDepth 20000 in
theorem wm_X7_207 : Cond.methodLink RX7 207 yX5_dutiesOf ∈ zB := List.mem_filter.mpr ⟨List.mem_of_getElem? (i := 298) (by decide +kernel), by decide +kernel⟩
theorem k_X7_207 : zCal RX7 207 yX5_dutiesOf cX5_dutiesOf 7 (some (.object "FerryCrews$Duties")) 2 := ⟨wm_X7_207, wi_X5, wc_X5_dutiesOf, by decide +kernel, by decide +kernel, by decide +kernel⟩
set_option maxRecDepth 20000 in
theorem wc_X0_beginOf : Cond.code yX0_beginOf cX0_beginOf 4 (some .int) ∈ zB := List.mem_filter.mpr ⟨List.mem_of_getElem? (i := 459) (by decide +kernel), by decide +kernel⟩
set_option maxRecDepth 20000 in
theorem wm_X7_211 : Cond.methodLink RX7 211 yX0_beginOf ∈ zB := List.mem_filter.mpr ⟨List.mem_of_getElem? (i := 456) (by decide +kernel), by decide +kernel⟩
theorem k_X7_211 : zCal RX7 211 yX0_beginOf cX0_beginOf 4 (some .int) 1 := ⟨wm_X7_211, wi_X0, wc_X0_beginOf, by decide +kernel, by decide +kernel, by decide +kernel⟩
set_option maxRecDepth 20000 in
theorem wn_X0_beginOf : Cond.instanceMethod yX0_beginOf ∈ zB := List.mem_filter.mpr ⟨List.mem_of_getElem? (i := 457) (by decide +kernel), by decide +kernel⟩
set_option maxRecDepth 20000 in
theorem ws_X0_beginOf : Cond.selects RX0 yX0_beginOf yX0_beginOf ∈ zB := List.mem_filter.mpr ⟨List.mem_of_getElem? (i := 458) (by decide +kernel), by decide +kernel⟩
theorem v_X0_beginOf : zVir yX0_beginOf 0 := ⟨wn_X0_beginOf, ws_X0_beginOf, TX0, 4, rfl⟩
set_option maxRecDepth 20000 in
theorem wm_X7_204 : Cond.methodLink RX7 204 yX4_roleOf ∈ zB := List.mem_filter.mpr ⟨List.mem_of_getElem? (i := 455) (by decide +kernel), by decide +kernel⟩
theorem k_X7_204 : zCal RX7 204 yX4_roleOf cX4_roleOf 2 (some .int) 1 := ⟨wm_X7_204, wi_X4, wc_X4_roleOf, by decide +kernel, by decide +kernel, by decide +kernel⟩
def rm_X7_crew : Room := { frames := 4, cells := 0, slots := 0, locals := 88 }
set_option maxHeartbeats 4000000 in
set_option maxRecDepth 20000 in
theorem t_X7_crew {p : Program} {l : Launch} {e : Env} {s : State} {m : MethodId} {args : Array Value} {below : List Frame} {meth : Method} {c : Code} {G : zG} (Z : zF p s m args c meth cX7_crew 6 RX7 G) (hr : meth.sig.returnType = (some .int)) {out : Int32 × zHp} {a0 : Nat} {a1 : Int32} {a2 : Int32} {a3 : Int32} {h : zHp} {H : Heap} {locs : List Loc} {ls : Array Slot} (hf : f_X7_crew a0 a1 a2 a3 h = some out) (E : zE G s h H locs) (hl : lv_has ls 6 [(0, .ref a0), (1, .int a1), (2, .int a2), (3, .int a3)]) : W p l e rm_X7_crew s m args below meth c H locs 0 0 (MQ below (zQi G out.1 out.2) args s 0 0 (zA G)) (F0 m 0 ls []) := by
  unfold f_X7_crew at hf
  refine lv_aload_n Z.x Z.b dX7_crew_0 rfl (lv_at hl 0 rfl) ?_
  refine z_getR Z E q_X7_17 dX7_crew_1 hf (fun v1 hf => ?_)
  refine lv_iload_n Z.x Z.b dX7_crew_4 rfl (lv_at hl 1 rfl) ?_
  refine z_Vq (As := [.int a1]) Z E hl.1 k_X7_71 v_X5_sailingAt hf (fun r h' e => c_X5_sailingAt l G h h' v1 a1 r e) rfl rfl (Nat.le_of_ble_eq_true rfl) (zRm_of rfl (Nat.zero_le _) (Nat.zero_le _)) dX7_crew_5 (fun w2 h3 H locs hf E => ?_)
  refine z_astore (lv' := [(4, va_rf w2), (0, .ref a0), (1, .int a1), (2, .int a2), (3, .int a3)]) Z (x := w2) dX7_crew_8 hl (by decide) (by cases w2 <;> rfl) (fun ls hl => ?_)
  refine z_aload Z (x := w2) dX7_crew_10 (lv_at hl 0 rfl) ?_
  refine z_ifnonnull (tgt := 17) Z dX7_crew_12 (by decide) hf (fun ex h9_12 => ?_) (fun v4 ex h9_12 => ?_)
  · subst ex
    have hf := h9_12
    refine lv_iconst (v := (-1)) Z.x Z.b dX7_crew_15 (by decide) ?_
    exact z_iret Z E hr dX7_crew_16 hf
  · subst ex
    have hf := h9_12
    refine lv_iload_n Z.x Z.b dX7_crew_17 rfl (lv_at hl 3 rfl) ?_
    refine lv_if_lt (tgt := 30) Z.x Z.b dX7_crew_18 (by decide) (fun c => ?_) (fun c => ?_)
    · have hf := zit hf c
      refine lv_bipush (v := (-2)) Z.x Z.b dX7_crew_30 (by decide) ?_
      exact z_iret Z E hr dX7_crew_32 hf
    · have hf := zif_ hf c
      refine lv_iload_n Z.x Z.b dX7_crew_21 rfl (lv_at hl 4 rfl) ?_
      refine lv_iconst (v := 0) Z.x Z.b dX7_crew_22 (by decide) ?_
      refine lv_iconst (v := 2) Z.x Z.b dX7_crew_23 (by decide) ?_
      refine z_Si (As := [.int a3, .int 0, .int 2]) Z E hl.1 k_X7_88 wt_X7_isWithin hf (fun r h' e => c_X7_isWithin l G h3 h' a3 0 2 r e) rfl rfl (Nat.le_of_ble_eq_true rfl) (zRm_of rfl (Nat.zero_le _) (Nat.zero_le _)) dX7_crew_24 (fun v5 h6 H locs hf E => ?_)
      refine lv_if_ne (tgt := 33) Z.x Z.b dX7_crew_27 (by decide) (fun c => ?_) (fun c => ?_)
      · have hf := zif_ hf c
        refine lv_aload Z.x Z.b dX7_crew_33 (lv_at hl 0 rfl) ?_
        refine lv_iload_n Z.x Z.b dX7_crew_35 rfl (lv_at hl 3 rfl) ?_
        refine z_Vi (As := [.int a2]) Z E hl.1 k_X7_201 v_X4_memberOfRank hf (fun r h' e => c_X4_memberOfRank l G h6 h' v4 a2 r e) rfl rfl (Nat.le_of_ble_eq_true rfl) (zRm_of rfl (Nat.zero_le _) (Nat.zero_le _)) dX7_crew_36 (fun v7 h8 H locs hf E => ?_)
        refine lv_istore (lv' := [(5, .int v7), (4, .ref v4), (0, .ref a0), (1, .int a1), (2, .int a2), (3, .int a3)]) Z.x Z.b dX7_crew_39 hl (by decide) rfl (fun ls hl => ?_)
        refine lv_iload Z.x Z.b dX7_crew_41 (lv_at hl 0 rfl) ?_
        refine lv_bipush (v := (-5)) Z.x Z.b dX7_crew_43 (by decide) ?_
        refine lv_icmp_eq (tgt := 52) Z.x Z.b dX7_crew_45 (by decide) (fun c => ?_) (fun c => ?_)
        · have hf := zit hf c
          refine lv_iload Z.x Z.b dX7_crew_52 (lv_at hl 0 rfl) ?_
          exact z_iret Z E hr dX7_crew_54 hf
        · have hf := zif_ hf c
          refine lv_iload_n Z.x Z.b dX7_crew_48 rfl (lv_at hl 5 rfl) ?_
          refine lv_if_ne (tgt := 55) Z.x Z.b dX7_crew_49 (by decide) (fun c => ?_) (fun c => ?_)
          · have hf := zif_ hf c
            refine lv_iload_n Z.x Z.b dX7_crew_55 rfl (lv_at hl 5 rfl) ?_
            refine lv_iconst (v := 1) Z.x Z.b dX7_crew_56 (by decide) ?_
            refine lv_icmp_ne (tgt := 68) Z.x Z.b dX7_crew_57 (by decide) (fun c => ?_) (fun c => ?_)
            · have hf := zif_ hf c
              refine lv_aload_n Z.x Z.b dX7_crew_68 rfl (lv_at hl 2 rfl) ?_
              refine z_getR Z E q_X7_17 dX7_crew_69 hf (fun v9 hf => ?_)
              refine lv_iload Z.x Z.b dX7_crew_72 (lv_at hl 0 rfl) ?_
              refine lv_null Z.x Z.b dX7_crew_74 ?_
              refine z_Vq (As := [.int v7, va_rf none]) Z E hl.1 k_X7_207 v_X5_dutiesOf hf (fun r h' e => c_X5_dutiesOf l G h8 h' v9 v7 none r e) rfl rfl (Nat.le_of_ble_eq_true rfl) (zRm_of rfl (Nat.zero_le _) (Nat.zero_le _)) dX7_crew_75 (fun w10 h11 H locs hf E => ?_)
              obtain ⟨v12, ex, h8_75⟩ := zopt_inv hf
              subst ex
              have hf := h8_75
              refine lv_aload Z.x Z.b dX7_crew_78 (lv_at hl 1 rfl) ?_
              refine z_Vi (As := [.ref v4]) Z E hl.1 k_X7_211 v_X0_beginOf hf (fun r h' e => c_X0_beginOf l G h11 h' v12 v4 r e) rfl rfl (Nat.le_of_ble_eq_true rfl) (zRm_of rfl (Nat.zero_le _) (Nat.zero_le _)) dX7_crew_80 (fun v13 h14 H locs hf E => ?_)
              exact z_iret Z E hr dX7_crew_83 hf
            · have hf := zit hf c
              refine lv_aload Z.x Z.b dX7_crew_60 (lv_at hl 1 rfl) ?_
              refine lv_iload Z.x Z.b dX7_crew_62 (lv_at hl 0 rfl) ?_
              refine z_Vi (As := [.int v7]) Z E hl.1 k_X7_204 v_X4_roleOf hf (fun r h' e => c_X4_roleOf l G h8 h' v4 v7 r e) rfl rfl (Nat.le_of_ble_eq_true rfl) (zRm_of rfl (Nat.zero_le _) (Nat.zero_le _)) dX7_crew_64 (fun v15 h16 H locs hf E => ?_)
              exact z_iret Z E hr dX7_crew_67 hf
          · have hf := zit hf c
            refine lv_iload Z.x Z.b dX7_crew_52 (lv_at hl 0 rfl) ?_
            exact z_iret Z E hr dX7_crew_54 hf
      · have hf := zit hf c
        refine lv_bipush (v := (-2)) Z.x Z.b dX7_crew_30 (by decide) ?_
        exact z_iret Z E hr dX7_crew_32 hf
set_option maxHeartbeats 4000000 in
set_option maxRecDepth 20000 in
theorem c_X7_crew (l : Launch) (G : zG) (h : zHp) (h' : zHp) (a0 : Nat) (a1 : Int32) (a2 : Int32) (a3 : Int32) (r : Int32) (hf : f_X7_crew a0 a1 a2 a3 h = some (r, h')) : zM0 l yX7_crew cX7_crew 6 (some .int) rm_X7_crew G [.ref a0, .int a1, .int a2, .int a3] h (zQi G r h') := by
  refine Met.ofW (cc := cX7_crew) (maxL := 6) (ret := (some .int)) (by decide) rfl ?_
  intro p e s m args below meth c s₁ B hml hv
  obtain ⟨rfl, hW⟩ := hv
  obtain ⟨Z, E, hr⟩ := zEnter (own := RX7) B hml rfl hW
  have hl := lv_entry ([.ref a0, .int a1, .int a2, .int a3]) (n := 6) (Nat.le_of_ble_eq_true rfl)
  rw [lg_entry_eq]
  generalize (lg_sl ([.ref a0, .int a1, .int a2, .int a3]) ++ List.replicate (6 - (lg_sl ([.ref a0, .int a1, .int a2, .int a3])).length) Slot.unset).toArray = ls at hl ⊢
  have hl : lv_has ls 6 [(0, .ref a0), (1, .int a1), (2, .int a2), (3, .int a3)] := hl
  exact t_X7_crew (out := (r, h')) Z hr hf E hl
/-! FerryCrews.memberOf(II)I -/
theorem dX7_memberOf_0 : decode cX7_memberOf 0 = .ok (.aload_n 0, 1) := by decide +kernel
theorem dX7_memberOf_1 : decode cX7_memberOf 1 = .ok (.getfield 17, 3) := by decide +kernel
theorem dX7_memberOf_4 : decode cX7_memberOf 4 = .ok (.iload_n 1, 1) := by decide +kernel
theorem dX7_memberOf_5 : decode cX7_memberOf 5 = .ok (.invokevirtual 99, 3) := by decide +kernel
theorem dX7_memberOf_8 : decode cX7_memberOf 8 = .ok (.astore_n 3, 1) := by decide +kernel
theorem dX7_memberOf_9 : decode cX7_memberOf 9 = .ok (.aload_n 3, 1) := by decide +kernel
theorem dX7_memberOf_10 : decode cX7_memberOf 10 = .ok (.ifnonnull 5, 3) := by decide +kernel
theorem dX7_memberOf_13 : decode cX7_memberOf 13 = .ok (.iconst (-1), 1) := by decide +kernel
theorem dX7_memberOf_14 : decode cX7_memberOf 14 = .ok (.ireturn, 1) := by decide +kernel
theorem dX7_memberOf_15 : decode cX7_memberOf 15 = .ok (.iload_n 2, 1) := by decide +kernel
theorem dX7_memberOf_16 : decode cX7_memberOf 16 = .ok (.invokestatic 84, 3) := by decide +kernel
theorem dX7_memberOf_19 : decode cX7_memberOf 19 = .ok (.ifCond .eq 9, 3) := by decide +kernel
theorem dX7_memberOf_22 : decode cX7_memberOf 22 = .ok (.aload_n 3, 1) := by decide +kernel
theorem dX7_memberOf_23 : decode cX7_memberOf 23 = .ok (.iload_n 2, 1) := by decide +kernel
theorem dX7_memberOf_24 : decode cX7_memberOf 24 = .ok (.invokevirtual 214, 3) := by decide +kernel
theorem dX7_memberOf_27 : decode cX7_memberOf 27 = .ok (.ireturn, 1) := by decide +kernel
theorem dX7_memberOf_28 : decode cX7_memberOf 28 = .ok (.iload_n 2, 1) := by decide +kernel
theorem dX7_memberOf_29 : decode cX7_memberOf 29 = .ok (.tableswitch 110 4 9 #[39, 63, 73, 83, 96, 101], 39) := by decide +kernel
theorem dX7_memberOf_68 : decode cX7_memberOf 68 = .ok (.aload_n 3, 1) := by decide +kernel
theorem dX7_memberOf_69 : decode cX7_memberOf 69 = .ok (.getfield 130, 3) := by decide +kernel
theorem dX7_memberOf_72 : decode cX7_memberOf 72 = .ok (.aload_n 0, 1) := by decide +kernel
theorem dX7_memberOf_73 : decode cX7_memberOf 73 = .ok (.getfield 17, 3) := by decide +kernel
theorem dX7_memberOf_76 : decode cX7_memberOf 76 = .ok (.getfield 133, 3) := by decide +kernel
theorem dX7_memberOf_79 : decode cX7_memberOf 79 = .ok (.if_icmp .le 10, 3) := by decide +kernel
theorem dX7_memberOf_82 : decode cX7_memberOf 82 = .ok (.aload_n 3, 1) := by decide +kernel
theorem dX7_memberOf_83 : decode cX7_memberOf 83 = .ok (.getfield 130, 3) := by decide +kernel
theorem dX7_memberOf_86 : decode cX7_memberOf 86 = .ok (.goto 5, 3) := by decide +kernel
theorem dX7_memberOf_89 : decode cX7_memberOf 89 = .ok (.bipush (-5), 2) := by decide +kernel
theorem dX7_memberOf_91 : decode cX7_memberOf 91 = .ok (.ireturn, 1) := by decide +kernel
theorem dX7_memberOf_92 : decode cX7_memberOf 92 = .ok (.aload_n 0, 1) := by decide +kernel
theorem dX7_memberOf_93 : decode cX7_memberOf 93 = .ok (.getfield 17, 3) := by decide +kernel
theorem dX7_memberOf_96 : decode cX7_memberOf 96 = .ok (.iload_n 1, 1) := by decide +kernel
theorem dX7_memberOf_97 : decode cX7_memberOf 97 = .ok (.iconst 0, 1) := by decide +kernel
theorem dX7_memberOf_98 : decode cX7_memberOf 98 = .ok (.invokevirtual 217, 3) := by decide +kernel
theorem dX7_memberOf_101 : decode cX7_memberOf 101 = .ok (.ireturn, 1) := by decide +kernel
theorem dX7_memberOf_102 : decode cX7_memberOf 102 = .ok (.aload_n 0, 1) := by decide +kernel
theorem dX7_memberOf_103 : decode cX7_memberOf 103 = .ok (.getfield 17, 3) := by decide +kernel
theorem dX7_memberOf_106 : decode cX7_memberOf 106 = .ok (.iload_n 1, 1) := by decide +kernel
theorem dX7_memberOf_107 : decode cX7_memberOf 107 = .ok (.iconst 1, 1) := by decide +kernel
theorem dX7_memberOf_108 : decode cX7_memberOf 108 = .ok (.invokevirtual 217, 3) := by decide +kernel
theorem dX7_memberOf_111 : decode cX7_memberOf 111 = .ok (.ireturn, 1) := by decide +kernel
theorem dX7_memberOf_112 : decode cX7_memberOf 112 = .ok (.aload_n 0, 1) := by decide +kernel
theorem dX7_memberOf_113 : decode cX7_memberOf 113 = .ok (.getfield 17, 3) := by decide +kernel
theorem dX7_memberOf_116 : decode cX7_memberOf 116 = .ok (.iload_n 1, 1) := by decide +kernel
theorem dX7_memberOf_117 : decode cX7_memberOf 117 = .ok (.aconst_null, 1) := by decide +kernel
theorem dX7_memberOf_118 : decode cX7_memberOf 118 = .ok (.invokevirtual 207, 3) := by decide +kernel
theorem dX7_memberOf_121 : decode cX7_memberOf 121 = .ok (.getfield 220, 3) := by decide +kernel
theorem dX7_memberOf_124 : decode cX7_memberOf 124 = .ok (.ireturn, 1) := by decide +kernel
theorem dX7_memberOf_125 : decode cX7_memberOf 125 = .ok (.aload_n 3, 1) := by decide +kernel
theorem dX7_memberOf_126 : decode cX7_memberOf 126 = .ok (.getfield 223, 3) := by decide +kernel
theorem dX7_memberOf_129 : decode cX7_memberOf 129 = .ok (.ireturn, 1) := by decide +kernel
theorem dX7_memberOf_130 : decode cX7_memberOf 130 = .ok (.aload_n 0, 1) := by decide +kernel
theorem dX7_memberOf_131 : decode cX7_memberOf 131 = .ok (.getfield 17, 3) := by decide +kernel
theorem dX7_memberOf_134 : decode cX7_memberOf 134 = .ok (.iload_n 1, 1) := by decide +kernel
theorem dX7_memberOf_135 : decode cX7_memberOf 135 = .ok (.invokevirtual 226, 3) := by decide +kernel
theorem dX7_memberOf_138 : decode cX7_memberOf 138 = .ok (.ireturn, 1) := by decide +kernel
theorem dX7_memberOf_139 : decode cX7_memberOf 139 = .ok (.bipush (-2), 2) := by decide +kernel
theorem dX7_memberOf_141 : decode cX7_memberOf 141 = .ok (.ireturn, 1) := by decide +kernel
set_option maxRecDepth 20000 in
theorem wc_X5_placesOf : Cond.code yX5_placesOf cX5_placesOf 8 (some .int) ∈ zB := List.mem_filter.mpr ⟨List.mem_of_getElem? (i := 468) (by decide +kernel), by decide +kernel⟩
set_option maxRecDepth 20000 in
theorem wm_X7_217 : Cond.methodLink RX7 217 yX5_placesOf ∈ zB := List.mem_filter.mpr ⟨List.mem_of_getElem? (i := 465) (by decide +kernel), by decide +kernel⟩
theorem k_X7_217 : zCal RX7 217 yX5_placesOf cX5_placesOf 8 (some .int) 2 := ⟨wm_X7_217, wi_X5, wc_X5_placesOf, by decide +kernel, by decide +kernel, by decide +kernel⟩
set_option maxRecDepth 20000 in
theorem wn_X5_placesOf : Cond.instanceMethod yX5_placesOf ∈ zB := List.mem_filter.mpr ⟨List.mem_of_getElem? (i := 466) (by decide +kernel), by decide +kernel⟩
set_option maxRecDepth 20000 in
theorem ws_X5_placesOf : Cond.selects RX5 yX5_placesOf yX5_placesOf ∈ zB := List.mem_filter.mpr ⟨List.mem_of_getElem? (i := 467) (by decide +kernel), by decide +kernel⟩
theorem v_X5_placesOf : zVir yX5_placesOf 5 := ⟨wn_X5_placesOf, ws_X5_placesOf, TX5, 8, rfl⟩
set_option maxRecDepth 20000 in
theorem wf_X7_220 : Cond.fieldLink RX7 220 RX0 "hours" "I" ∈ zB := List.mem_filter.mpr ⟨List.mem_of_getElem? (i := 33) (by decide +kernel), by decide +kernel⟩
theorem q_X7_220 : zFld RX7 220 0 1 := ⟨RX0, TX0, 4, rfl, by decide, iX0, wf_X7_220, rfl⟩
set_option maxRecDepth 20000 in
theorem wf_X7_223 : Cond.fieldLink RX7 223 RX3 "covers" "I" ∈ zB := List.mem_filter.mpr ⟨List.mem_of_getElem? (i := 123) (by decide +kernel), by decide +kernel⟩
theorem q_X7_223 : zFld RX7 223 3 2 := ⟨RX3, TX3, 3, rfl, by decide, iX3, wf_X7_223, rfl⟩
set_option maxRecDepth 20000 in
theorem wc_X5_nextSailingOf : Cond.code yX5_nextSailingOf cX5_nextSailingOf 6 (some .int) ∈ zB := List.mem_filter.mpr ⟨List.mem_of_getElem? (i := 472) (by decide +kernel), by decide +kernel⟩
set_option maxRecDepth 20000 in
theorem wm_X7_226 : Cond.methodLink RX7 226 yX5_nextSailingOf ∈ zB := List.mem_filter.mpr ⟨List.mem_of_getElem? (i := 469) (by decide +kernel), by decide +kernel⟩
theorem k_X7_226 : zCal RX7 226 yX5_nextSailingOf cX5_nextSailingOf 6 (some .int) 1 := ⟨wm_X7_226, wi_X5, wc_X5_nextSailingOf, by decide +kernel, by decide +kernel, by decide +kernel⟩
set_option maxRecDepth 20000 in
theorem wn_X5_nextSailingOf : Cond.instanceMethod yX5_nextSailingOf ∈ zB := List.mem_filter.mpr ⟨List.mem_of_getElem? (i := 470) (by decide +kernel), by decide +kernel⟩
set_option maxRecDepth 20000 in
theorem ws_X5_nextSailingOf : Cond.selects RX5 yX5_nextSailingOf yX5_nextSailingOf ∈ zB := List.mem_filter.mpr ⟨List.mem_of_getElem? (i := 471) (by decide +kernel), by decide +kernel⟩
theorem v_X5_nextSailingOf : zVir yX5_nextSailingOf 5 := ⟨wn_X5_nextSailingOf, ws_X5_nextSailingOf, TX5, 8, rfl⟩
set_option maxRecDepth 20000 in
theorem wm_X7_214 : Cond.methodLink RX7 214 yX3_certificateOf ∈ zB := List.mem_filter.mpr ⟨List.mem_of_getElem? (i := 464) (by decide +kernel), by decide +kernel⟩
theorem k_X7_214 : zCal RX7 214 yX3_certificateOf cX3_certificateOf 2 (some .int) 1 := ⟨wm_X7_214, wi_X3, wc_X3_certificateOf, by decide +kernel, by decide +kernel, by decide +kernel⟩
def rm_X7_memberOf : Room := { frames := 4, cells := 0, slots := 0, locals := 89 }
set_option maxHeartbeats 4000000 in
set_option maxRecDepth 20000 in
theorem t_X7_memberOf {p : Program} {l : Launch} {e : Env} {s : State} {m : MethodId} {args : Array Value} {below : List Frame} {meth : Method} {c : Code} {G : zG} (Z : zF p s m args c meth cX7_memberOf 4 RX7 G) (hr : meth.sig.returnType = (some .int)) {out : Int32 × zHp} {a0 : Nat} {a1 : Int32} {a2 : Int32} {h : zHp} {H : Heap} {locs : List Loc} {ls : Array Slot} (hf : f_X7_memberOf a0 a1 a2 h = some out) (E : zE G s h H locs) (hl : lv_has ls 4 [(0, .ref a0), (1, .int a1), (2, .int a2)]) : W p l e rm_X7_memberOf s m args below meth c H locs 0 0 (MQ below (zQi G out.1 out.2) args s 0 0 (zA G)) (F0 m 0 ls []) := by
  unfold f_X7_memberOf at hf
  refine lv_aload_n Z.x Z.b dX7_memberOf_0 rfl (lv_at hl 0 rfl) ?_
  refine z_getR Z E q_X7_17 dX7_memberOf_1 hf (fun v1 hf => ?_)
  refine lv_iload_n Z.x Z.b dX7_memberOf_4 rfl (lv_at hl 1 rfl) ?_
  refine z_Vq (As := [.int a1]) Z E hl.1 k_X7_99 v_X5_memberAt hf (fun r h' e => c_X5_memberAt l G h h' v1 a1 r e) rfl rfl (Nat.le_of_ble_eq_true rfl) (zRm_of rfl (Nat.zero_le _) (Nat.zero_le _)) dX7_memberOf_5 (fun w2 h3 H locs hf E => ?_)
  refine z_astore_n (lv' := [(3, va_rf w2), (0, .ref a0), (1, .int a1), (2, .int a2)]) Z (x := w2) dX7_memberOf_8 rfl hl (by decide) (by cases w2 <;> rfl) (fun ls hl => ?_)
  refine z_aload_n Z (x := w2) dX7_memberOf_9 rfl (lv_at hl 0 rfl) ?_
  refine z_ifnonnull (tgt := 15) Z dX7_memberOf_10 (by decide) hf (fun ex h9_10 => ?_) (fun v4 ex h9_10 => ?_)
  · subst ex
    have hf := h9_10
    refine lv_iconst (v := (-1)) Z.x Z.b dX7_memberOf_13 (by decide) ?_
    exact z_iret Z E hr dX7_memberOf_14 hf
  · subst ex
    have hf := h9_10
    refine lv_iload_n Z.x Z.b dX7_memberOf_15 rfl (lv_at hl 3 rfl) ?_
    refine z_Si (As := [.int a2]) Z E hl.1 k_X7_84 wt_X7_isRole hf (fun r h' e => c_X7_isRole l G h3 h' a2 r e) rfl rfl (Nat.le_of_ble_eq_true rfl) (zRm_of rfl (Nat.zero_le _) (Nat.zero_le _)) dX7_memberOf_16 (fun v5 h6 H locs hf E => ?_)
    refine lv_if_eq (tgt := 28) Z.x Z.b dX7_memberOf_19 (by decide) (fun c => ?_) (fun c => ?_)
    · have hf := zit hf c
      refine lv_iload_n Z.x Z.b dX7_memberOf_28 rfl (lv_at hl 3 rfl) ?_
      by_cases c4 : a2 = 4
      · have hf := zit hf c4
        refine lv_tableIn (tgt := 68) Z.x Z.b dX7_memberOf_29 (by rw [c4]; decide) (by rw [c4]; decide) (by rw [c4]; rfl) (by decide) ?_
        refine lv_aload_n Z.x Z.b dX7_memberOf_68 rfl (lv_at hl 0 rfl) ?_
        refine z_getI Z E q_X7_130 dX7_memberOf_69 hf (fun v7 hf => ?_)
        refine lv_aload_n Z.x Z.b dX7_memberOf_72 rfl (lv_at hl 1 rfl) ?_
        refine z_getR Z E q_X7_17 dX7_memberOf_73 hf (fun v8 hf => ?_)
        refine z_getI Z E q_X7_133 dX7_memberOf_76 hf (fun v9 hf => ?_)
        refine lv_icmp_le (tgt := 89) Z.x Z.b dX7_memberOf_79 (by decide) (fun c => ?_) (fun c => ?_)
        · have hf := zit hf c
          refine lv_bipush (v := (-5)) Z.x Z.b dX7_memberOf_89 (by decide) ?_
          exact z_iret Z E hr dX7_memberOf_91 hf
        · have hf := zif_ hf c
          refine lv_aload_n Z.x Z.b dX7_memberOf_82 rfl (lv_at hl 0 rfl) ?_
          refine z_getI Z E q_X7_130 dX7_memberOf_83 hf (fun v10 hf => ?_)
          refine lv_goto (tgt := 91) Z.x Z.b dX7_memberOf_86 (by decide) ?_
          exact z_iret Z E hr dX7_memberOf_91 hf
      · have hf := zif_ hf c4
        by_cases c5 : a2 = 5
        · have hf := zit hf c5
          refine lv_tableIn (tgt := 92) Z.x Z.b dX7_memberOf_29 (by rw [c5]; decide) (by rw [c5]; decide) (by rw [c5]; rfl) (by decide) ?_
          refine lv_aload_n Z.x Z.b dX7_memberOf_92 rfl (lv_at hl 1 rfl) ?_
          refine z_getR Z E q_X7_17 dX7_memberOf_93 hf (fun v11 hf => ?_)
          refine lv_iload_n Z.x Z.b dX7_memberOf_96 rfl (lv_at hl 2 rfl) ?_
          refine lv_iconst (v := 0) Z.x Z.b dX7_memberOf_97 (by decide) ?_
          refine z_Vi (As := [.int a1, .int 0]) Z E hl.1 k_X7_217 v_X5_placesOf hf (fun r h' e => c_X5_placesOf l G h6 h' v11 a1 0 r e) rfl rfl (Nat.le_of_ble_eq_true rfl) (zRm_of rfl (Nat.zero_le _) (Nat.zero_le _)) dX7_memberOf_98 (fun v12 h13 H locs hf E => ?_)
          exact z_iret Z E hr dX7_memberOf_101 hf
        · have hf := zif_ hf c5
          by_cases c6 : a2 = 6
          · have hf := zit hf c6
            refine lv_tableIn (tgt := 102) Z.x Z.b dX7_memberOf_29 (by rw [c6]; decide) (by rw [c6]; decide) (by rw [c6]; rfl) (by decide) ?_
            refine lv_aload_n Z.x Z.b dX7_memberOf_102 rfl (lv_at hl 1 rfl) ?_
            refine z_getR Z E q_X7_17 dX7_memberOf_103 hf (fun v14 hf => ?_)
            refine lv_iload_n Z.x Z.b dX7_memberOf_106 rfl (lv_at hl 2 rfl) ?_
            refine lv_iconst (v := 1) Z.x Z.b dX7_memberOf_107 (by decide) ?_
            refine z_Vi (As := [.int a1, .int 1]) Z E hl.1 k_X7_217 v_X5_placesOf hf (fun r h' e => c_X5_placesOf l G h6 h' v14 a1 1 r e) rfl rfl (Nat.le_of_ble_eq_true rfl) (zRm_of rfl (Nat.zero_le _) (Nat.zero_le _)) dX7_memberOf_108 (fun v15 h16 H locs hf E => ?_)
            exact z_iret Z E hr dX7_memberOf_111 hf
          · have hf := zif_ hf c6
            by_cases c7 : a2 = 7
            · have hf := zit hf c7
              refine lv_tableIn (tgt := 112) Z.x Z.b dX7_memberOf_29 (by rw [c7]; decide) (by rw [c7]; decide) (by rw [c7]; rfl) (by decide) ?_
              refine lv_aload_n Z.x Z.b dX7_memberOf_112 rfl (lv_at hl 1 rfl) ?_
              refine z_getR Z E q_X7_17 dX7_memberOf_113 hf (fun v17 hf => ?_)
              refine lv_iload_n Z.x Z.b dX7_memberOf_116 rfl (lv_at hl 2 rfl) ?_
              refine lv_null Z.x Z.b dX7_memberOf_117 ?_
              refine z_Vq (As := [.int a1, va_rf none]) Z E hl.1 k_X7_207 v_X5_dutiesOf hf (fun r h' e => c_X5_dutiesOf l G h6 h' v17 a1 none r e) rfl rfl (Nat.le_of_ble_eq_true rfl) (zRm_of rfl (Nat.zero_le _) (Nat.zero_le _)) dX7_memberOf_118 (fun w18 h19 H locs hf E => ?_)
              obtain ⟨v20, ex, h8_118⟩ := zopt_inv hf
              subst ex
              have hf := h8_118
              refine z_getI Z E q_X7_220 dX7_memberOf_121 hf (fun v21 hf => ?_)
              exact z_iret Z E hr dX7_memberOf_124 hf
            · have hf := zif_ hf c7
              by_cases c8 : a2 = 8
              · have hf := zit hf c8
                refine lv_tableIn (tgt := 125) Z.x Z.b dX7_memberOf_29 (by rw [c8]; decide) (by rw [c8]; decide) (by rw [c8]; rfl) (by decide) ?_
                refine lv_aload_n Z.x Z.b dX7_memberOf_125 rfl (lv_at hl 0 rfl) ?_
                refine z_getI Z E q_X7_223 dX7_memberOf_126 hf (fun v22 hf => ?_)
                exact z_iret Z E hr dX7_memberOf_129 hf
              · have hf := zif_ hf c8
                by_cases c9 : a2 = 9
                · have hf := zit hf c9
                  refine lv_tableIn (tgt := 130) Z.x Z.b dX7_memberOf_29 (by rw [c9]; decide) (by rw [c9]; decide) (by rw [c9]; rfl) (by decide) ?_
                  refine lv_aload_n Z.x Z.b dX7_memberOf_130 rfl (lv_at hl 1 rfl) ?_
                  refine z_getR Z E q_X7_17 dX7_memberOf_131 hf (fun v23 hf => ?_)
                  refine lv_iload_n Z.x Z.b dX7_memberOf_134 rfl (lv_at hl 2 rfl) ?_
                  refine z_Vi (As := [.int a1]) Z E hl.1 k_X7_226 v_X5_nextSailingOf hf (fun r h' e => c_X5_nextSailingOf l G h6 h' v23 a1 r e) rfl rfl (Nat.le_of_ble_eq_true rfl) (zRm_of rfl (Nat.zero_le _) (Nat.zero_le _)) dX7_memberOf_135 (fun v24 h25 H locs hf E => ?_)
                  exact z_iret Z E hr dX7_memberOf_138 hf
                · have hf := zif_ hf c9
                  have n4 := zsw (k := 4) c4 (by decide)
                  have n5 := zsw (k := 5) c5 (by decide)
                  have n6 := zsw (k := 6) c6 (by decide)
                  have n7 := zsw (k := 7) c7 (by decide)
                  have n8 := zsw (k := 8) c8 (by decide)
                  have n9 := zsw (k := 9) c9 (by decide)
                  refine lv_tableOut (tgt := 139) Z.x Z.b dX7_memberOf_29 (by omega) (by decide) ?_
                  refine lv_bipush (v := (-2)) Z.x Z.b dX7_memberOf_139 (by decide) ?_
                  exact z_iret Z E hr dX7_memberOf_141 hf
    · have hf := zif_ hf c
      refine lv_aload_n Z.x Z.b dX7_memberOf_22 rfl (lv_at hl 0 rfl) ?_
      refine lv_iload_n Z.x Z.b dX7_memberOf_23 rfl (lv_at hl 3 rfl) ?_
      refine z_Vi (As := [.int a2]) Z E hl.1 k_X7_214 v_X3_certificateOf hf (fun r h' e => c_X3_certificateOf l G h6 h' v4 a2 r e) rfl rfl (Nat.le_of_ble_eq_true rfl) (zRm_of rfl (Nat.zero_le _) (Nat.zero_le _)) dX7_memberOf_24 (fun v26 h27 H locs hf E => ?_)
      exact z_iret Z E hr dX7_memberOf_27 hf
set_option maxHeartbeats 4000000 in
set_option maxRecDepth 20000 in
theorem c_X7_memberOf (l : Launch) (G : zG) (h : zHp) (h' : zHp) (a0 : Nat) (a1 : Int32) (a2 : Int32) (r : Int32) (hf : f_X7_memberOf a0 a1 a2 h = some (r, h')) : zM0 l yX7_memberOf cX7_memberOf 4 (some .int) rm_X7_memberOf G [.ref a0, .int a1, .int a2] h (zQi G r h') := by
  refine Met.ofW (cc := cX7_memberOf) (maxL := 4) (ret := (some .int)) (by decide) rfl ?_
  intro p e s m args below meth c s₁ B hml hv
  obtain ⟨rfl, hW⟩ := hv
  obtain ⟨Z, E, hr⟩ := zEnter (own := RX7) B hml rfl hW
  have hl := lv_entry ([.ref a0, .int a1, .int a2]) (n := 4) (Nat.le_of_ble_eq_true rfl)
  rw [lg_entry_eq]
  generalize (lg_sl ([.ref a0, .int a1, .int a2]) ++ List.replicate (4 - (lg_sl ([.ref a0, .int a1, .int a2])).length) Slot.unset).toArray = ls at hl ⊢
  have hl : lv_has ls 4 [(0, .ref a0), (1, .int a1), (2, .int a2)] := hl
  exact t_X7_memberOf (out := (r, h')) Z hr hf E hl
/-! FerryCrews.ladder(II)I -/
theorem dX7_ladder_0 : decode cX7_ladder 0 = .ok (.aload_n 0, 1) := by decide +kernel
theorem dX7_ladder_1 : decode cX7_ladder 1 = .ok (.getfield 17, 3) := by decide +kernel
theorem dX7_ladder_4 : decode cX7_ladder 4 = .ok (.iload_n 1, 1) := by decide +kernel
theorem dX7_ladder_5 : decode cX7_ladder 5 = .ok (.invokevirtual 111, 3) := by decide +kernel
theorem dX7_ladder_8 : decode cX7_ladder 8 = .ok (.astore_n 3, 1) := by decide +kernel
theorem dX7_ladder_9 : decode cX7_ladder 9 = .ok (.aload_n 3, 1) := by decide +kernel
theorem dX7_ladder_10 : decode cX7_ladder 10 = .ok (.ifnonnull 5, 3) := by decide +kernel
theorem dX7_ladder_13 : decode cX7_ladder 13 = .ok (.iconst (-1), 1) := by decide +kernel
theorem dX7_ladder_14 : decode cX7_ladder 14 = .ok (.ireturn, 1) := by decide +kernel
theorem dX7_ladder_15 : decode cX7_ladder 15 = .ok (.iload_n 2, 1) := by decide +kernel
theorem dX7_ladder_16 : decode cX7_ladder 16 = .ok (.ifCond .ge 8, 3) := by decide +kernel
theorem dX7_ladder_19 : decode cX7_ladder 19 = .ok (.bipush (-2), 2) := by decide +kernel
theorem dX7_ladder_21 : decode cX7_ladder 21 = .ok (.goto 8, 3) := by decide +kernel
theorem dX7_ladder_24 : decode cX7_ladder 24 = .ok (.aload_n 3, 1) := by decide +kernel
theorem dX7_ladder_25 : decode cX7_ladder 25 = .ok (.iload_n 2, 1) := by decide +kernel
theorem dX7_ladder_26 : decode cX7_ladder 26 = .ok (.invokevirtual 229, 3) := by decide +kernel
theorem dX7_ladder_29 : decode cX7_ladder 29 = .ok (.ireturn, 1) := by decide +kernel
set_option maxRecDepth 20000 in
theorem wm_X7_229 : Cond.methodLink RX7 229 yX2_memberOfRank ∈ zB := List.mem_filter.mpr ⟨List.mem_of_getElem? (i := 280) (by decide +kernel), by decide +kernel⟩
theorem k_X7_229 : zCal RX7 229 yX2_memberOfRank cX2_memberOfRank 2 (some .int) 1 := ⟨wm_X7_229, wi_X2, wc_X2_memberOfRank, by decide +kernel, by decide +kernel, by decide +kernel⟩
def rm_X7_ladder : Room := { frames := 2, cells := 0, slots := 0, locals := 41 }
set_option maxHeartbeats 4000000 in
set_option maxRecDepth 20000 in
theorem t_X7_ladder {p : Program} {l : Launch} {e : Env} {s : State} {m : MethodId} {args : Array Value} {below : List Frame} {meth : Method} {c : Code} {G : zG} (Z : zF p s m args c meth cX7_ladder 4 RX7 G) (hr : meth.sig.returnType = (some .int)) {out : Int32 × zHp} {a0 : Nat} {a1 : Int32} {a2 : Int32} {h : zHp} {H : Heap} {locs : List Loc} {ls : Array Slot} (hf : f_X7_ladder a0 a1 a2 h = some out) (E : zE G s h H locs) (hl : lv_has ls 4 [(0, .ref a0), (1, .int a1), (2, .int a2)]) : W p l e rm_X7_ladder s m args below meth c H locs 0 0 (MQ below (zQi G out.1 out.2) args s 0 0 (zA G)) (F0 m 0 ls []) := by
  unfold f_X7_ladder at hf
  refine lv_aload_n Z.x Z.b dX7_ladder_0 rfl (lv_at hl 0 rfl) ?_
  refine z_getR Z E q_X7_17 dX7_ladder_1 hf (fun v1 hf => ?_)
  refine lv_iload_n Z.x Z.b dX7_ladder_4 rfl (lv_at hl 1 rfl) ?_
  refine z_Vq (As := [.int a1]) Z E hl.1 k_X7_111 v_X5_ladderOf hf (fun r h' e => c_X5_ladderOf l G h h' v1 a1 r e) rfl rfl (Nat.le_of_ble_eq_true rfl) (zRm_of rfl (Nat.zero_le _) (Nat.zero_le _)) dX7_ladder_5 (fun w2 h3 H locs hf E => ?_)
  refine z_astore_n (lv' := [(3, va_rf w2), (0, .ref a0), (1, .int a1), (2, .int a2)]) Z (x := w2) dX7_ladder_8 rfl hl (by decide) (by cases w2 <;> rfl) (fun ls hl => ?_)
  refine z_aload_n Z (x := w2) dX7_ladder_9 rfl (lv_at hl 0 rfl) ?_
  refine z_ifnonnull (tgt := 15) Z dX7_ladder_10 (by decide) hf (fun ex h9_10 => ?_) (fun v4 ex h9_10 => ?_)
  · subst ex
    have hf := h9_10
    refine lv_iconst (v := (-1)) Z.x Z.b dX7_ladder_13 (by decide) ?_
    exact z_iret Z E hr dX7_ladder_14 hf
  · subst ex
    have hf := h9_10
    refine lv_iload_n Z.x Z.b dX7_ladder_15 rfl (lv_at hl 3 rfl) ?_
    refine lv_if_ge (tgt := 24) Z.x Z.b dX7_ladder_16 (by decide) (fun c => ?_) (fun c => ?_)
    · have hf := zit hf c
      refine lv_aload_n Z.x Z.b dX7_ladder_24 rfl (lv_at hl 0 rfl) ?_
      refine lv_iload_n Z.x Z.b dX7_ladder_25 rfl (lv_at hl 3 rfl) ?_
      refine z_Vi (As := [.int a2]) Z E hl.1 k_X7_229 v_X2_memberOfRank hf (fun r h' e => c_X2_memberOfRank l G h3 h' v4 a2 r e) rfl rfl (Nat.le_of_ble_eq_true rfl) (zRm_of rfl (Nat.zero_le _) (Nat.zero_le _)) dX7_ladder_26 (fun v5 h6 H locs hf E => ?_)
      exact z_iret Z E hr dX7_ladder_29 hf
    · have hf := zif_ hf c
      refine lv_bipush (v := (-2)) Z.x Z.b dX7_ladder_19 (by decide) ?_
      refine lv_goto (tgt := 29) Z.x Z.b dX7_ladder_21 (by decide) ?_
      exact z_iret Z E hr dX7_ladder_29 hf
set_option maxHeartbeats 4000000 in
set_option maxRecDepth 20000 in
theorem c_X7_ladder (l : Launch) (G : zG) (h : zHp) (h' : zHp) (a0 : Nat) (a1 : Int32) (a2 : Int32) (r : Int32) (hf : f_X7_ladder a0 a1 a2 h = some (r, h')) : zM0 l yX7_ladder cX7_ladder 4 (some .int) rm_X7_ladder G [.ref a0, .int a1, .int a2] h (zQi G r h') := by
  refine Met.ofW (cc := cX7_ladder) (maxL := 4) (ret := (some .int)) (by decide) rfl ?_
  intro p e s m args below meth c s₁ B hml hv
  obtain ⟨rfl, hW⟩ := hv
  obtain ⟨Z, E, hr⟩ := zEnter (own := RX7) B hml rfl hW
  have hl := lv_entry ([.ref a0, .int a1, .int a2]) (n := 4) (Nat.le_of_ble_eq_true rfl)
  rw [lg_entry_eq]
  generalize (lg_sl ([.ref a0, .int a1, .int a2]) ++ List.replicate (4 - (lg_sl ([.ref a0, .int a1, .int a2])).length) Slot.unset).toArray = ls at hl ⊢
  have hl : lv_has ls 4 [(0, .ref a0), (1, .int a1), (2, .int a2)] := hl
  exact t_X7_ladder (out := (r, h')) Z hr hf E hl
/-! FerryCrews.rest(III)I -/
theorem dX7_rest_0 : decode cX7_rest 0 = .ok (.aload_n 0, 1) := by decide +kernel
theorem dX7_rest_1 : decode cX7_rest 1 = .ok (.getfield 17, 3) := by decide +kernel
theorem dX7_rest_4 : decode cX7_rest 4 = .ok (.iload_n 1, 1) := by decide +kernel
theorem dX7_rest_5 : decode cX7_rest 5 = .ok (.invokevirtual 99, 3) := by decide +kernel
theorem dX7_rest_8 : decode cX7_rest 8 = .ok (.ifnonnull 5, 3) := by decide +kernel
theorem dX7_rest_11 : decode cX7_rest 11 = .ok (.iconst (-1), 1) := by decide +kernel
theorem dX7_rest_12 : decode cX7_rest 12 = .ok (.ireturn, 1) := by decide +kernel
theorem dX7_rest_13 : decode cX7_rest 13 = .ok (.iload_n 2, 1) := by decide +kernel
theorem dX7_rest_14 : decode cX7_rest 14 = .ok (.iconst 0, 1) := by decide +kernel
theorem dX7_rest_15 : decode cX7_rest 15 = .ok (.sipush 1000, 3) := by decide +kernel
theorem dX7_rest_18 : decode cX7_rest 18 = .ok (.invokestatic 88, 3) := by decide +kernel
theorem dX7_rest_21 : decode cX7_rest 21 = .ok (.ifCond .eq 14, 3) := by decide +kernel
theorem dX7_rest_24 : decode cX7_rest 24 = .ok (.iload_n 3, 1) := by decide +kernel
theorem dX7_rest_25 : decode cX7_rest 25 = .ok (.iconst 1, 1) := by decide +kernel
theorem dX7_rest_26 : decode cX7_rest 26 = .ok (.sipush 168, 3) := by decide +kernel
theorem dX7_rest_29 : decode cX7_rest 29 = .ok (.invokestatic 88, 3) := by decide +kernel
theorem dX7_rest_32 : decode cX7_rest 32 = .ok (.ifCond .ne 6, 3) := by decide +kernel
theorem dX7_rest_35 : decode cX7_rest 35 = .ok (.bipush (-2), 2) := by decide +kernel
theorem dX7_rest_37 : decode cX7_rest 37 = .ok (.ireturn, 1) := by decide +kernel
theorem dX7_rest_38 : decode cX7_rest 38 = .ok (.aload_n 0, 1) := by decide +kernel
theorem dX7_rest_39 : decode cX7_rest 39 = .ok (.getfield 17, 3) := by decide +kernel
theorem dX7_rest_42 : decode cX7_rest 42 = .ok (.iload_n 1, 1) := by decide +kernel
theorem dX7_rest_43 : decode cX7_rest 43 = .ok (.aconst_null, 1) := by decide +kernel
theorem dX7_rest_44 : decode cX7_rest 44 = .ok (.invokevirtual 207, 3) := by decide +kernel
theorem dX7_rest_47 : decode cX7_rest 47 = .ok (.iload_n 2, 1) := by decide +kernel
theorem dX7_rest_48 : decode cX7_rest 48 = .ok (.iload_n 3, 1) := by decide +kernel
theorem dX7_rest_49 : decode cX7_rest 49 = .ok (.invokevirtual 230, 3) := by decide +kernel
theorem dX7_rest_52 : decode cX7_rest 52 = .ok (.ireturn, 1) := by decide +kernel
set_option maxRecDepth 20000 in
theorem wm_X7_230 : Cond.methodLink RX7 230 yX0_restIn ∈ zB := List.mem_filter.mpr ⟨List.mem_of_getElem? (i := 327) (by decide +kernel), by decide +kernel⟩
theorem k_X7_230 : zCal RX7 230 yX0_restIn cX0_restIn 5 (some .int) 2 := ⟨wm_X7_230, wi_X0, wc_X0_restIn, by decide +kernel, by decide +kernel, by decide +kernel⟩
def rm_X7_rest : Room := { frames := 4, cells := 0, slots := 0, locals := 88 }
set_option maxHeartbeats 4000000 in
set_option maxRecDepth 20000 in
theorem t_X7_rest {p : Program} {l : Launch} {e : Env} {s : State} {m : MethodId} {args : Array Value} {below : List Frame} {meth : Method} {c : Code} {G : zG} (Z : zF p s m args c meth cX7_rest 4 RX7 G) (hr : meth.sig.returnType = (some .int)) {out : Int32 × zHp} {a0 : Nat} {a1 : Int32} {a2 : Int32} {a3 : Int32} {h : zHp} {H : Heap} {locs : List Loc} {ls : Array Slot} (hf : f_X7_rest a0 a1 a2 a3 h = some out) (E : zE G s h H locs) (hl : lv_has ls 4 [(0, .ref a0), (1, .int a1), (2, .int a2), (3, .int a3)]) : W p l e rm_X7_rest s m args below meth c H locs 0 0 (MQ below (zQi G out.1 out.2) args s 0 0 (zA G)) (F0 m 0 ls []) := by
  unfold f_X7_rest at hf
  refine lv_aload_n Z.x Z.b dX7_rest_0 rfl (lv_at hl 0 rfl) ?_
  refine z_getR Z E q_X7_17 dX7_rest_1 hf (fun v1 hf => ?_)
  refine lv_iload_n Z.x Z.b dX7_rest_4 rfl (lv_at hl 1 rfl) ?_
  refine z_Vq (As := [.int a1]) Z E hl.1 k_X7_99 v_X5_memberAt hf (fun r h' e => c_X5_memberAt l G h h' v1 a1 r e) rfl rfl (Nat.le_of_ble_eq_true rfl) (zRm_of rfl (Nat.zero_le _) (Nat.zero_le _)) dX7_rest_5 (fun w2 h3 H locs hf E => ?_)
  refine z_ifnonnull (tgt := 13) Z dX7_rest_8 (by decide) hf (fun ex h9_8 => ?_) (fun v4 ex h9_8 => ?_)
  · subst ex
    have hf := h9_8
    refine lv_iconst (v := (-1)) Z.x Z.b dX7_rest_11 (by decide) ?_
    exact z_iret Z E hr dX7_rest_12 hf
  · subst ex
    have hf := h9_8
    refine lv_iload_n Z.x Z.b dX7_rest_13 rfl (lv_at hl 2 rfl) ?_
    refine lv_iconst (v := 0) Z.x Z.b dX7_rest_14 (by decide) ?_
    refine lv_sipush (v := 1000) Z.x Z.b dX7_rest_15 (by decide) ?_
    refine z_Si (As := [.int a2, .int 0, .int 1000]) Z E hl.1 k_X7_88 wt_X7_isWithin hf (fun r h' e => c_X7_isWithin l G h3 h' a2 0 1000 r e) rfl rfl (Nat.le_of_ble_eq_true rfl) (zRm_of rfl (Nat.zero_le _) (Nat.zero_le _)) dX7_rest_18 (fun v5 h6 H locs hf E => ?_)
    refine lv_if_eq (tgt := 35) Z.x Z.b dX7_rest_21 (by decide) (fun c => ?_) (fun c => ?_)
    · have hf := zit hf c
      refine lv_bipush (v := (-2)) Z.x Z.b dX7_rest_35 (by decide) ?_
      exact z_iret Z E hr dX7_rest_37 hf
    · have hf := zif_ hf c
      refine lv_iload_n Z.x Z.b dX7_rest_24 rfl (lv_at hl 3 rfl) ?_
      refine lv_iconst (v := 1) Z.x Z.b dX7_rest_25 (by decide) ?_
      refine lv_sipush (v := 168) Z.x Z.b dX7_rest_26 (by decide) ?_
      refine z_Si (As := [.int a3, .int 1, .int 168]) Z E hl.1 k_X7_88 wt_X7_isWithin hf (fun r h' e => c_X7_isWithin l G h6 h' a3 1 168 r e) rfl rfl (Nat.le_of_ble_eq_true rfl) (zRm_of rfl (Nat.zero_le _) (Nat.zero_le _)) dX7_rest_29 (fun v7 h8 H locs hf E => ?_)
      refine lv_if_ne (tgt := 38) Z.x Z.b dX7_rest_32 (by decide) (fun c => ?_) (fun c => ?_)
      · have hf := zif_ hf c
        refine lv_aload_n Z.x Z.b dX7_rest_38 rfl (lv_at hl 0 rfl) ?_
        refine z_getR Z E q_X7_17 dX7_rest_39 hf (fun v9 hf => ?_)
        refine lv_iload_n Z.x Z.b dX7_rest_42 rfl (lv_at hl 1 rfl) ?_
        refine lv_null Z.x Z.b dX7_rest_43 ?_
        refine z_Vq (As := [.int a1, va_rf none]) Z E hl.1 k_X7_207 v_X5_dutiesOf hf (fun r h' e => c_X5_dutiesOf l G h8 h' v9 a1 none r e) rfl rfl (Nat.le_of_ble_eq_true rfl) (zRm_of rfl (Nat.zero_le _) (Nat.zero_le _)) dX7_rest_44 (fun w10 h11 H locs hf E => ?_)
        obtain ⟨v12, ex, h8_44⟩ := zopt_inv hf
        subst ex
        have hf := h8_44
        refine lv_iload_n Z.x Z.b dX7_rest_47 rfl (lv_at hl 2 rfl) ?_
        refine lv_iload_n Z.x Z.b dX7_rest_48 rfl (lv_at hl 3 rfl) ?_
        refine z_Vi (As := [.int a2, .int a3]) Z E hl.1 k_X7_230 v_X0_restIn hf (fun r h' e => c_X0_restIn l G h11 h' v12 a2 a3 r e) rfl rfl (Nat.le_of_ble_eq_true rfl) (zRm_of rfl (Nat.zero_le _) (Nat.zero_le _)) dX7_rest_49 (fun v13 h14 H locs hf E => ?_)
        exact z_iret Z E hr dX7_rest_52 hf
      · have hf := zit hf c
        refine lv_bipush (v := (-2)) Z.x Z.b dX7_rest_35 (by decide) ?_
        exact z_iret Z E hr dX7_rest_37 hf
set_option maxHeartbeats 4000000 in
set_option maxRecDepth 20000 in
theorem c_X7_rest (l : Launch) (G : zG) (h : zHp) (h' : zHp) (a0 : Nat) (a1 : Int32) (a2 : Int32) (a3 : Int32) (r : Int32) (hf : f_X7_rest a0 a1 a2 a3 h = some (r, h')) : zM0 l yX7_rest cX7_rest 4 (some .int) rm_X7_rest G [.ref a0, .int a1, .int a2, .int a3] h (zQi G r h') := by
  refine Met.ofW (cc := cX7_rest) (maxL := 4) (ret := (some .int)) (by decide) rfl ?_
  intro p e s m args below meth c s₁ B hml hv
  obtain ⟨rfl, hW⟩ := hv
  obtain ⟨Z, E, hr⟩ := zEnter (own := RX7) B hml rfl hW
  have hl := lv_entry ([.ref a0, .int a1, .int a2, .int a3]) (n := 4) (Nat.le_of_ble_eq_true rfl)
  rw [lg_entry_eq]
  generalize (lg_sl ([.ref a0, .int a1, .int a2, .int a3]) ++ List.replicate (4 - (lg_sl ([.ref a0, .int a1, .int a2, .int a3])).length) Slot.unset).toArray = ls at hl ⊢
  have hl : lv_has ls 4 [(0, .ref a0), (1, .int a1), (2, .int a2), (3, .int a3)] := hl
  exact t_X7_rest (out := (r, h')) Z hr hf E hl
/-! FerryCrews.leastRest(II)I -/
theorem dX7_leastRest_0 : decode cX7_leastRest 0 = .ok (.aload_n 0, 1) := by decide +kernel
theorem dX7_leastRest_1 : decode cX7_leastRest 1 = .ok (.getfield 17, 3) := by decide +kernel
theorem dX7_leastRest_4 : decode cX7_leastRest 4 = .ok (.iload_n 1, 1) := by decide +kernel
theorem dX7_leastRest_5 : decode cX7_leastRest 5 = .ok (.invokevirtual 99, 3) := by decide +kernel
theorem dX7_leastRest_8 : decode cX7_leastRest 8 = .ok (.ifnonnull 5, 3) := by decide +kernel
theorem dX7_leastRest_11 : decode cX7_leastRest 11 = .ok (.iconst (-1), 1) := by decide +kernel
theorem dX7_leastRest_12 : decode cX7_leastRest 12 = .ok (.ireturn, 1) := by decide +kernel
theorem dX7_leastRest_13 : decode cX7_leastRest 13 = .ok (.iload_n 2, 1) := by decide +kernel
theorem dX7_leastRest_14 : decode cX7_leastRest 14 = .ok (.iconst 0, 1) := by decide +kernel
theorem dX7_leastRest_15 : decode cX7_leastRest 15 = .ok (.iconst 2, 1) := by decide +kernel
theorem dX7_leastRest_16 : decode cX7_leastRest 16 = .ok (.invokestatic 88, 3) := by decide +kernel
theorem dX7_leastRest_19 : decode cX7_leastRest 19 = .ok (.ifCond .ne 6, 3) := by decide +kernel
theorem dX7_leastRest_22 : decode cX7_leastRest 22 = .ok (.bipush (-2), 2) := by decide +kernel
theorem dX7_leastRest_24 : decode cX7_leastRest 24 = .ok (.ireturn, 1) := by decide +kernel
theorem dX7_leastRest_25 : decode cX7_leastRest 25 = .ok (.aload_n 0, 1) := by decide +kernel
theorem dX7_leastRest_26 : decode cX7_leastRest 26 = .ok (.getfield 17, 3) := by decide +kernel
theorem dX7_leastRest_29 : decode cX7_leastRest 29 = .ok (.iload_n 1, 1) := by decide +kernel
theorem dX7_leastRest_30 : decode cX7_leastRest 30 = .ok (.aconst_null, 1) := by decide +kernel
theorem dX7_leastRest_31 : decode cX7_leastRest 31 = .ok (.invokevirtual 207, 3) := by decide +kernel
theorem dX7_leastRest_34 : decode cX7_leastRest 34 = .ok (.astore_n 3, 1) := by decide +kernel
theorem dX7_leastRest_35 : decode cX7_leastRest 35 = .ok (.iload_n 2, 1) := by decide +kernel
theorem dX7_leastRest_36 : decode cX7_leastRest 36 = .ok (.iconst 2, 1) := by decide +kernel
theorem dX7_leastRest_37 : decode cX7_leastRest 37 = .ok (.if_icmp .ne 8, 3) := by decide +kernel
theorem dX7_leastRest_40 : decode cX7_leastRest 40 = .ok (.aload_n 3, 1) := by decide +kernel
theorem dX7_leastRest_41 : decode cX7_leastRest 41 = .ok (.invokevirtual 233, 3) := by decide +kernel
theorem dX7_leastRest_44 : decode cX7_leastRest 44 = .ok (.ireturn, 1) := by decide +kernel
theorem dX7_leastRest_45 : decode cX7_leastRest 45 = .ok (.aload_n 3, 1) := by decide +kernel
theorem dX7_leastRest_46 : decode cX7_leastRest 46 = .ok (.invokevirtual 236, 3) := by decide +kernel
theorem dX7_leastRest_49 : decode cX7_leastRest 49 = .ok (.istore 4, 2) := by decide +kernel
theorem dX7_leastRest_51 : decode cX7_leastRest 51 = .ok (.iload_n 2, 1) := by decide +kernel
theorem dX7_leastRest_52 : decode cX7_leastRest 52 = .ok (.iconst 1, 1) := by decide +kernel
theorem dX7_leastRest_53 : decode cX7_leastRest 53 = .ok (.if_icmp .ne 8, 3) := by decide +kernel
theorem dX7_leastRest_56 : decode cX7_leastRest 56 = .ok (.iload 4, 2) := by decide +kernel
theorem dX7_leastRest_58 : decode cX7_leastRest 58 = .ok (.goto 11, 3) := by decide +kernel
theorem dX7_leastRest_61 : decode cX7_leastRest 61 = .ok (.aload_n 3, 1) := by decide +kernel
theorem dX7_leastRest_62 : decode cX7_leastRest 62 = .ok (.iload 4, 2) := by decide +kernel
theorem dX7_leastRest_64 : decode cX7_leastRest 64 = .ok (.bipush 24, 2) := by decide +kernel
theorem dX7_leastRest_66 : decode cX7_leastRest 66 = .ok (.invokevirtual 230, 3) := by decide +kernel
theorem dX7_leastRest_69 : decode cX7_leastRest 69 = .ok (.ireturn, 1) := by decide +kernel
set_option maxRecDepth 20000 in
theorem wc_X0_firstHourOfLeastRest : Cond.code yX0_firstHourOfLeastRest cX0_firstHourOfLeastRest 5 (some .int) ∈ zB := List.mem_filter.mpr ⟨List.mem_of_getElem? (i := 499) (by decide +kernel), by decide +kernel⟩
set_option maxRecDepth 20000 in
theorem wm_X7_236 : Cond.methodLink RX7 236 yX0_firstHourOfLeastRest ∈ zB := List.mem_filter.mpr ⟨List.mem_of_getElem? (i := 496) (by decide +kernel), by decide +kernel⟩
theorem k_X7_236 : zCal RX7 236 yX0_firstHourOfLeastRest cX0_firstHourOfLeastRest 5 (some .int) 0 := ⟨wm_X7_236, wi_X0, wc_X0_firstHourOfLeastRest, by decide +kernel, by decide +kernel, by decide +kernel⟩
set_option maxRecDepth 20000 in
theorem wn_X0_firstHourOfLeastRest : Cond.instanceMethod yX0_firstHourOfLeastRest ∈ zB := List.mem_filter.mpr ⟨List.mem_of_getElem? (i := 497) (by decide +kernel), by decide +kernel⟩
set_option maxRecDepth 20000 in
theorem ws_X0_firstHourOfLeastRest : Cond.selects RX0 yX0_firstHourOfLeastRest yX0_firstHourOfLeastRest ∈ zB := List.mem_filter.mpr ⟨List.mem_of_getElem? (i := 498) (by decide +kernel), by decide +kernel⟩
theorem v_X0_firstHourOfLeastRest : zVir yX0_firstHourOfLeastRest 0 := ⟨wn_X0_firstHourOfLeastRest, ws_X0_firstHourOfLeastRest, TX0, 4, rfl⟩
set_option maxRecDepth 20000 in
theorem wc_X0_leastLongRest : Cond.code yX0_leastLongRest cX0_leastLongRest 2 (some .int) ∈ zB := List.mem_filter.mpr ⟨List.mem_of_getElem? (i := 494) (by decide +kernel), by decide +kernel⟩
set_option maxRecDepth 20000 in
theorem wm_X7_233 : Cond.methodLink RX7 233 yX0_leastLongRest ∈ zB := List.mem_filter.mpr ⟨List.mem_of_getElem? (i := 491) (by decide +kernel), by decide +kernel⟩
theorem k_X7_233 : zCal RX7 233 yX0_leastLongRest cX0_leastLongRest 2 (some .int) 0 := ⟨wm_X7_233, wi_X0, wc_X0_leastLongRest, by decide +kernel, by decide +kernel, by decide +kernel⟩
set_option maxRecDepth 20000 in
theorem wn_X0_leastLongRest : Cond.instanceMethod yX0_leastLongRest ∈ zB := List.mem_filter.mpr ⟨List.mem_of_getElem? (i := 492) (by decide +kernel), by decide +kernel⟩
set_option maxRecDepth 20000 in
theorem ws_X0_leastLongRest : Cond.selects RX0 yX0_leastLongRest yX0_leastLongRest ∈ zB := List.mem_filter.mpr ⟨List.mem_of_getElem? (i := 493) (by decide +kernel), by decide +kernel⟩
theorem v_X0_leastLongRest : zVir yX0_leastLongRest 0 := ⟨wn_X0_leastLongRest, ws_X0_leastLongRest, TX0, 4, rfl⟩
def rm_X7_leastRest : Room := { frames := 4, cells := 0, slots := 0, locals := 88 }
set_option maxHeartbeats 4000000 in
set_option maxRecDepth 20000 in
theorem t_X7_leastRest {p : Program} {l : Launch} {e : Env} {s : State} {m : MethodId} {args : Array Value} {below : List Frame} {meth : Method} {c : Code} {G : zG} (Z : zF p s m args c meth cX7_leastRest 5 RX7 G) (hr : meth.sig.returnType = (some .int)) {out : Int32 × zHp} {a0 : Nat} {a1 : Int32} {a2 : Int32} {h : zHp} {H : Heap} {locs : List Loc} {ls : Array Slot} (hf : f_X7_leastRest a0 a1 a2 h = some out) (E : zE G s h H locs) (hl : lv_has ls 5 [(0, .ref a0), (1, .int a1), (2, .int a2)]) : W p l e rm_X7_leastRest s m args below meth c H locs 0 0 (MQ below (zQi G out.1 out.2) args s 0 0 (zA G)) (F0 m 0 ls []) := by
  unfold f_X7_leastRest at hf
  refine lv_aload_n Z.x Z.b dX7_leastRest_0 rfl (lv_at hl 0 rfl) ?_
  refine z_getR Z E q_X7_17 dX7_leastRest_1 hf (fun v1 hf => ?_)
  refine lv_iload_n Z.x Z.b dX7_leastRest_4 rfl (lv_at hl 1 rfl) ?_
  refine z_Vq (As := [.int a1]) Z E hl.1 k_X7_99 v_X5_memberAt hf (fun r h' e => c_X5_memberAt l G h h' v1 a1 r e) rfl rfl (Nat.le_of_ble_eq_true rfl) (zRm_of rfl (Nat.zero_le _) (Nat.zero_le _)) dX7_leastRest_5 (fun w2 h3 H locs hf E => ?_)
  refine z_ifnonnull (tgt := 13) Z dX7_leastRest_8 (by decide) hf (fun ex h9_8 => ?_) (fun v4 ex h9_8 => ?_)
  · subst ex
    have hf := h9_8
    refine lv_iconst (v := (-1)) Z.x Z.b dX7_leastRest_11 (by decide) ?_
    exact z_iret Z E hr dX7_leastRest_12 hf
  · subst ex
    have hf := h9_8
    refine lv_iload_n Z.x Z.b dX7_leastRest_13 rfl (lv_at hl 2 rfl) ?_
    refine lv_iconst (v := 0) Z.x Z.b dX7_leastRest_14 (by decide) ?_
    refine lv_iconst (v := 2) Z.x Z.b dX7_leastRest_15 (by decide) ?_
    refine z_Si (As := [.int a2, .int 0, .int 2]) Z E hl.1 k_X7_88 wt_X7_isWithin hf (fun r h' e => c_X7_isWithin l G h3 h' a2 0 2 r e) rfl rfl (Nat.le_of_ble_eq_true rfl) (zRm_of rfl (Nat.zero_le _) (Nat.zero_le _)) dX7_leastRest_16 (fun v5 h6 H locs hf E => ?_)
    refine lv_if_ne (tgt := 25) Z.x Z.b dX7_leastRest_19 (by decide) (fun c => ?_) (fun c => ?_)
    · have hf := zif_ hf c
      refine lv_aload_n Z.x Z.b dX7_leastRest_25 rfl (lv_at hl 0 rfl) ?_
      refine z_getR Z E q_X7_17 dX7_leastRest_26 hf (fun v7 hf => ?_)
      refine lv_iload_n Z.x Z.b dX7_leastRest_29 rfl (lv_at hl 1 rfl) ?_
      refine lv_null Z.x Z.b dX7_leastRest_30 ?_
      refine z_Vq (As := [.int a1, va_rf none]) Z E hl.1 k_X7_207 v_X5_dutiesOf hf (fun r h' e => c_X5_dutiesOf l G h6 h' v7 a1 none r e) rfl rfl (Nat.le_of_ble_eq_true rfl) (zRm_of rfl (Nat.zero_le _) (Nat.zero_le _)) dX7_leastRest_31 (fun w8 h9 H locs hf E => ?_)
      obtain ⟨v10, ex, h8_31⟩ := zopt_inv hf
      subst ex
      have hf := h8_31
      refine lv_astore_n (lv' := [(3, .ref v10), (0, .ref a0), (1, .int a1), (2, .int a2)]) Z.x Z.b dX7_leastRest_34 rfl hl (by decide) rfl (fun ls hl => ?_)
      refine lv_iload_n Z.x Z.b dX7_leastRest_35 rfl (lv_at hl 3 rfl) ?_
      refine lv_iconst (v := 2) Z.x Z.b dX7_leastRest_36 (by decide) ?_
      refine lv_icmp_ne (tgt := 45) Z.x Z.b dX7_leastRest_37 (by decide) (fun c => ?_) (fun c => ?_)
      · have hf := zif_ hf c
        refine lv_aload_n Z.x Z.b dX7_leastRest_45 rfl (lv_at hl 0 rfl) ?_
        refine z_Vi (As := []) Z E hl.1 k_X7_236 v_X0_firstHourOfLeastRest hf (fun r h' e => c_X0_firstHourOfLeastRest l G h9 h' v10 r e) rfl rfl (Nat.le_of_ble_eq_true rfl) (zRm_of rfl (Nat.zero_le _) (Nat.zero_le _)) dX7_leastRest_46 (fun v11 h12 H locs hf E => ?_)
        refine lv_istore (lv' := [(4, .int v11), (3, .ref v10), (0, .ref a0), (1, .int a1), (2, .int a2)]) Z.x Z.b dX7_leastRest_49 hl (by decide) rfl (fun ls hl => ?_)
        refine lv_iload_n Z.x Z.b dX7_leastRest_51 rfl (lv_at hl 4 rfl) ?_
        refine lv_iconst (v := 1) Z.x Z.b dX7_leastRest_52 (by decide) ?_
        refine lv_icmp_ne (tgt := 61) Z.x Z.b dX7_leastRest_53 (by decide) (fun c => ?_) (fun c => ?_)
        · have hf := zif_ hf c
          refine lv_aload_n Z.x Z.b dX7_leastRest_61 rfl (lv_at hl 1 rfl) ?_
          refine lv_iload Z.x Z.b dX7_leastRest_62 (lv_at hl 0 rfl) ?_
          refine lv_bipush (v := 24) Z.x Z.b dX7_leastRest_64 (by decide) ?_
          refine z_Vi (As := [.int v11, .int 24]) Z E hl.1 k_X7_230 v_X0_restIn hf (fun r h' e => c_X0_restIn l G h12 h' v10 v11 24 r e) rfl rfl (Nat.le_of_ble_eq_true rfl) (zRm_of rfl (Nat.zero_le _) (Nat.zero_le _)) dX7_leastRest_66 (fun v13 h14 H locs hf E => ?_)
          exact z_iret Z E hr dX7_leastRest_69 hf
        · have hf := zit hf c
          refine lv_iload Z.x Z.b dX7_leastRest_56 (lv_at hl 0 rfl) ?_
          refine lv_goto (tgt := 69) Z.x Z.b dX7_leastRest_58 (by decide) ?_
          exact z_iret Z E hr dX7_leastRest_69 hf
      · have hf := zit hf c
        refine lv_aload_n Z.x Z.b dX7_leastRest_40 rfl (lv_at hl 0 rfl) ?_
        refine z_Vi (As := []) Z E hl.1 k_X7_233 v_X0_leastLongRest hf (fun r h' e => c_X0_leastLongRest l G h9 h' v10 r e) rfl rfl (Nat.le_of_ble_eq_true rfl) (zRm_of rfl (Nat.zero_le _) (Nat.zero_le _)) dX7_leastRest_41 (fun v15 h16 H locs hf E => ?_)
        exact z_iret Z E hr dX7_leastRest_44 hf
    · have hf := zit hf c
      refine lv_bipush (v := (-2)) Z.x Z.b dX7_leastRest_22 (by decide) ?_
      exact z_iret Z E hr dX7_leastRest_24 hf
set_option maxHeartbeats 4000000 in
set_option maxRecDepth 20000 in
theorem c_X7_leastRest (l : Launch) (G : zG) (h : zHp) (h' : zHp) (a0 : Nat) (a1 : Int32) (a2 : Int32) (r : Int32) (hf : f_X7_leastRest a0 a1 a2 h = some (r, h')) : zM0 l yX7_leastRest cX7_leastRest 5 (some .int) rm_X7_leastRest G [.ref a0, .int a1, .int a2] h (zQi G r h') := by
  refine Met.ofW (cc := cX7_leastRest) (maxL := 5) (ret := (some .int)) (by decide) rfl ?_
  intro p e s m args below meth c s₁ B hml hv
  obtain ⟨rfl, hW⟩ := hv
  obtain ⟨Z, E, hr⟩ := zEnter (own := RX7) B hml rfl hW
  have hl := lv_entry ([.ref a0, .int a1, .int a2]) (n := 5) (Nat.le_of_ble_eq_true rfl)
  rw [lg_entry_eq]
  generalize (lg_sl ([.ref a0, .int a1, .int a2]) ++ List.replicate (5 - (lg_sl ([.ref a0, .int a1, .int a2])).length) Slot.unset).toArray = ls at hl ⊢
  have hl : lv_has ls 5 [(0, .ref a0), (1, .int a1), (2, .int a2)] := hl
  exact t_X7_leastRest (out := (r, h')) Z hr hf E hl
/-! FerryCrews.overtime(II)I -/
theorem dX7_overtime_0 : decode cX7_overtime 0 = .ok (.aload_n 0, 1) := by decide +kernel
theorem dX7_overtime_1 : decode cX7_overtime 1 = .ok (.getfield 17, 3) := by decide +kernel
theorem dX7_overtime_4 : decode cX7_overtime 4 = .ok (.iload_n 1, 1) := by decide +kernel
theorem dX7_overtime_5 : decode cX7_overtime 5 = .ok (.invokevirtual 99, 3) := by decide +kernel
theorem dX7_overtime_8 : decode cX7_overtime 8 = .ok (.ifnull 12, 3) := by decide +kernel
theorem dX7_overtime_11 : decode cX7_overtime 11 = .ok (.iload_n 2, 1) := by decide +kernel
theorem dX7_overtime_12 : decode cX7_overtime 12 = .ok (.iconst 0, 1) := by decide +kernel
theorem dX7_overtime_13 : decode cX7_overtime 13 = .ok (.iconst 5, 1) := by decide +kernel
theorem dX7_overtime_14 : decode cX7_overtime 14 = .ok (.invokestatic 88, 3) := by decide +kernel
theorem dX7_overtime_17 : decode cX7_overtime 17 = .ok (.ifCond .ne 5, 3) := by decide +kernel
theorem dX7_overtime_20 : decode cX7_overtime 20 = .ok (.iconst (-1), 1) := by decide +kernel
theorem dX7_overtime_21 : decode cX7_overtime 21 = .ok (.ireturn, 1) := by decide +kernel
theorem dX7_overtime_22 : decode cX7_overtime 22 = .ok (.aload_n 0, 1) := by decide +kernel
theorem dX7_overtime_23 : decode cX7_overtime 23 = .ok (.getfield 17, 3) := by decide +kernel
theorem dX7_overtime_26 : decode cX7_overtime 26 = .ok (.aload_n 0, 1) := by decide +kernel
theorem dX7_overtime_27 : decode cX7_overtime 27 = .ok (.getfield 17, 3) := by decide +kernel
theorem dX7_overtime_30 : decode cX7_overtime 30 = .ok (.iload_n 1, 1) := by decide +kernel
theorem dX7_overtime_31 : decode cX7_overtime 31 = .ok (.aconst_null, 1) := by decide +kernel
theorem dX7_overtime_32 : decode cX7_overtime 32 = .ok (.invokevirtual 207, 3) := by decide +kernel
theorem dX7_overtime_35 : decode cX7_overtime 35 = .ok (.iload_n 2, 1) := by decide +kernel
theorem dX7_overtime_36 : decode cX7_overtime 36 = .ok (.invokevirtual 239, 3) := by decide +kernel
theorem dX7_overtime_39 : decode cX7_overtime 39 = .ok (.ireturn, 1) := by decide +kernel
set_option maxRecDepth 20000 in
theorem wm_X7_239 : Cond.methodLink RX7 239 yX5_hoursBeyond ∈ zB := List.mem_filter.mpr ⟨List.mem_of_getElem? (i := 486) (by decide +kernel), by decide +kernel⟩
theorem k_X7_239 : zCal RX7 239 yX5_hoursBeyond cX5_hoursBeyond 4 (some .int) 2 := ⟨wm_X7_239, wi_X5, wc_X5_hoursBeyond, by decide +kernel, by decide +kernel, by decide +kernel⟩
def rm_X7_overtime : Room := { frames := 4, cells := 0, slots := 0, locals := 88 }
set_option maxHeartbeats 4000000 in
set_option maxRecDepth 20000 in
theorem t_X7_overtime {p : Program} {l : Launch} {e : Env} {s : State} {m : MethodId} {args : Array Value} {below : List Frame} {meth : Method} {c : Code} {G : zG} (Z : zF p s m args c meth cX7_overtime 3 RX7 G) (hr : meth.sig.returnType = (some .int)) {out : Int32 × zHp} {a0 : Nat} {a1 : Int32} {a2 : Int32} {h : zHp} {H : Heap} {locs : List Loc} {ls : Array Slot} (hf : f_X7_overtime a0 a1 a2 h = some out) (E : zE G s h H locs) (hl : lv_has ls 3 [(0, .ref a0), (1, .int a1), (2, .int a2)]) : W p l e rm_X7_overtime s m args below meth c H locs 0 0 (MQ below (zQi G out.1 out.2) args s 0 0 (zA G)) (F0 m 0 ls []) := by
  unfold f_X7_overtime at hf
  refine lv_aload_n Z.x Z.b dX7_overtime_0 rfl (lv_at hl 0 rfl) ?_
  refine z_getR Z E q_X7_17 dX7_overtime_1 hf (fun v1 hf => ?_)
  refine lv_iload_n Z.x Z.b dX7_overtime_4 rfl (lv_at hl 1 rfl) ?_
  refine z_Vq (As := [.int a1]) Z E hl.1 k_X7_99 v_X5_memberAt hf (fun r h' e => c_X5_memberAt l G h h' v1 a1 r e) rfl rfl (Nat.le_of_ble_eq_true rfl) (zRm_of rfl (Nat.zero_le _) (Nat.zero_le _)) dX7_overtime_5 (fun w2 h3 H locs hf E => ?_)
  refine z_ifnull (tgt := 20) Z dX7_overtime_8 (by decide) hf (fun ex h9_8 => ?_) (fun v4 ex h9_8 => ?_)
  · subst ex
    have hf := h9_8
    refine lv_iconst (v := (-1)) Z.x Z.b dX7_overtime_20 (by decide) ?_
    exact z_iret Z E hr dX7_overtime_21 hf
  · subst ex
    have hf := h9_8
    refine lv_iload_n Z.x Z.b dX7_overtime_11 rfl (lv_at hl 2 rfl) ?_
    refine lv_iconst (v := 0) Z.x Z.b dX7_overtime_12 (by decide) ?_
    refine lv_iconst (v := 5) Z.x Z.b dX7_overtime_13 (by decide) ?_
    refine z_Si (As := [.int a2, .int 0, .int 5]) Z E hl.1 k_X7_88 wt_X7_isWithin hf (fun r h' e => c_X7_isWithin l G h3 h' a2 0 5 r e) rfl rfl (Nat.le_of_ble_eq_true rfl) (zRm_of rfl (Nat.zero_le _) (Nat.zero_le _)) dX7_overtime_14 (fun v5 h6 H locs hf E => ?_)
    refine lv_if_ne (tgt := 22) Z.x Z.b dX7_overtime_17 (by decide) (fun c => ?_) (fun c => ?_)
    · have hf := zif_ hf c
      refine lv_aload_n Z.x Z.b dX7_overtime_22 rfl (lv_at hl 0 rfl) ?_
      refine z_getR Z E q_X7_17 dX7_overtime_23 hf (fun v7 hf => ?_)
      refine lv_aload_n Z.x Z.b dX7_overtime_26 rfl (lv_at hl 0 rfl) ?_
      refine z_getR Z E q_X7_17 dX7_overtime_27 hf (fun v8 hf => ?_)
      refine lv_iload_n Z.x Z.b dX7_overtime_30 rfl (lv_at hl 1 rfl) ?_
      refine lv_null Z.x Z.b dX7_overtime_31 ?_
      refine z_Vq (As := [.int a1, va_rf none]) Z E hl.1 k_X7_207 v_X5_dutiesOf hf (fun r h' e => c_X5_dutiesOf l G h6 h' v8 a1 none r e) rfl rfl (Nat.le_of_ble_eq_true rfl) (zRm_of rfl (Nat.zero_le _) (Nat.zero_le _)) dX7_overtime_32 (fun w9 h10 H locs hf E => ?_)
      obtain ⟨v11, ex, h8_32⟩ := zopt_inv hf
      subst ex
      have hf := h8_32
      refine lv_iload_n Z.x Z.b dX7_overtime_35 rfl (lv_at hl 2 rfl) ?_
      refine z_Vi (As := [.ref v11, .int a2]) Z E hl.1 k_X7_239 v_X5_hoursBeyond hf (fun r h' e => c_X5_hoursBeyond l G h10 h' v7 v11 a2 r e) rfl rfl (Nat.le_of_ble_eq_true rfl) (zRm_of rfl (Nat.zero_le _) (Nat.zero_le _)) dX7_overtime_36 (fun v12 h13 H locs hf E => ?_)
      exact z_iret Z E hr dX7_overtime_39 hf
    · have hf := zit hf c
      refine lv_iconst (v := (-1)) Z.x Z.b dX7_overtime_20 (by decide) ?_
      exact z_iret Z E hr dX7_overtime_21 hf
set_option maxHeartbeats 4000000 in
set_option maxRecDepth 20000 in
theorem c_X7_overtime (l : Launch) (G : zG) (h : zHp) (h' : zHp) (a0 : Nat) (a1 : Int32) (a2 : Int32) (r : Int32) (hf : f_X7_overtime a0 a1 a2 h = some (r, h')) : zM0 l yX7_overtime cX7_overtime 3 (some .int) rm_X7_overtime G [.ref a0, .int a1, .int a2] h (zQi G r h') := by
  refine Met.ofW (cc := cX7_overtime) (maxL := 3) (ret := (some .int)) (by decide) rfl ?_
  intro p e s m args below meth c s₁ B hml hv
  obtain ⟨rfl, hW⟩ := hv
  obtain ⟨Z, E, hr⟩ := zEnter (own := RX7) B hml rfl hW
  have hl := lv_entry ([.ref a0, .int a1, .int a2]) (n := 3) (Nat.le_of_ble_eq_true rfl)
  rw [lg_entry_eq]
  generalize (lg_sl ([.ref a0, .int a1, .int a2]) ++ List.replicate (3 - (lg_sl ([.ref a0, .int a1, .int a2])).length) Slot.unset).toArray = ls at hl ⊢
  have hl : lv_has ls 3 [(0, .ref a0), (1, .int a1), (2, .int a2)] := hl
  exact t_X7_overtime (out := (r, h')) Z hr hf E hl
/-! FerryCrews.count(I)I -/
theorem dX7_count_0 : decode cX7_count 0 = .ok (.iload_n 1, 1) := by decide +kernel
theorem dX7_count_1 : decode cX7_count 1 = .ok (.bipush 13, 2) := by decide +kernel
theorem dX7_count_3 : decode cX7_count 3 = .ok (.bipush 17, 2) := by decide +kernel
theorem dX7_count_5 : decode cX7_count 5 = .ok (.invokestatic 88, 3) := by decide +kernel
theorem dX7_count_8 : decode cX7_count 8 = .ok (.ifCond .eq 16, 3) := by decide +kernel
theorem dX7_count_11 : decode cX7_count 11 = .ok (.aload_n 0, 1) := by decide +kernel
theorem dX7_count_12 : decode cX7_count 12 = .ok (.getfield 17, 3) := by decide +kernel
theorem dX7_count_15 : decode cX7_count 15 = .ok (.getfield 164, 3) := by decide +kernel
theorem dX7_count_18 : decode cX7_count 18 = .ok (.iload_n 1, 1) := by decide +kernel
theorem dX7_count_19 : decode cX7_count 19 = .ok (.bipush 13, 2) := by decide +kernel
theorem dX7_count_21 : decode cX7_count 21 = .ok (.isub, 1) := by decide +kernel
theorem dX7_count_22 : decode cX7_count 22 = .ok (.iaload, 1) := by decide +kernel
theorem dX7_count_23 : decode cX7_count 23 = .ok (.ireturn, 1) := by decide +kernel
theorem dX7_count_24 : decode cX7_count 24 = .ok (.iload_n 1, 1) := by decide +kernel
theorem dX7_count_25 : decode cX7_count 25 = .ok (.tableswitch 174 0 12 #[67, 75, 83, 92, 101, 110, 118, 126, 134, 142, 150, 158, 166], 67) := by decide +kernel
theorem dX7_count_92 : decode cX7_count 92 = .ok (.aload_n 0, 1) := by decide +kernel
theorem dX7_count_93 : decode cX7_count 93 = .ok (.getfield 17, 3) := by decide +kernel
theorem dX7_count_96 : decode cX7_count 96 = .ok (.getfield 133, 3) := by decide +kernel
theorem dX7_count_99 : decode cX7_count 99 = .ok (.ireturn, 1) := by decide +kernel
theorem dX7_count_100 : decode cX7_count 100 = .ok (.aload_n 0, 1) := by decide +kernel
theorem dX7_count_101 : decode cX7_count 101 = .ok (.getfield 17, 3) := by decide +kernel
theorem dX7_count_104 : decode cX7_count 104 = .ok (.getfield 243, 3) := by decide +kernel
theorem dX7_count_107 : decode cX7_count 107 = .ok (.ireturn, 1) := by decide +kernel
theorem dX7_count_108 : decode cX7_count 108 = .ok (.aload_n 0, 1) := by decide +kernel
theorem dX7_count_109 : decode cX7_count 109 = .ok (.getfield 17, 3) := by decide +kernel
theorem dX7_count_112 : decode cX7_count 112 = .ok (.iconst 0, 1) := by decide +kernel
theorem dX7_count_113 : decode cX7_count 113 = .ok (.invokevirtual 246, 3) := by decide +kernel
theorem dX7_count_116 : decode cX7_count 116 = .ok (.ireturn, 1) := by decide +kernel
theorem dX7_count_117 : decode cX7_count 117 = .ok (.aload_n 0, 1) := by decide +kernel
theorem dX7_count_118 : decode cX7_count 118 = .ok (.getfield 17, 3) := by decide +kernel
theorem dX7_count_121 : decode cX7_count 121 = .ok (.iconst 1, 1) := by decide +kernel
theorem dX7_count_122 : decode cX7_count 122 = .ok (.invokevirtual 246, 3) := by decide +kernel
theorem dX7_count_125 : decode cX7_count 125 = .ok (.ireturn, 1) := by decide +kernel
theorem dX7_count_126 : decode cX7_count 126 = .ok (.aload_n 0, 1) := by decide +kernel
theorem dX7_count_127 : decode cX7_count 127 = .ok (.getfield 17, 3) := by decide +kernel
theorem dX7_count_130 : decode cX7_count 130 = .ok (.iconst 2, 1) := by decide +kernel
theorem dX7_count_131 : decode cX7_count 131 = .ok (.invokevirtual 246, 3) := by decide +kernel
theorem dX7_count_134 : decode cX7_count 134 = .ok (.ireturn, 1) := by decide +kernel
theorem dX7_count_135 : decode cX7_count 135 = .ok (.aload_n 0, 1) := by decide +kernel
theorem dX7_count_136 : decode cX7_count 136 = .ok (.getfield 17, 3) := by decide +kernel
theorem dX7_count_139 : decode cX7_count 139 = .ok (.getfield 92, 3) := by decide +kernel
theorem dX7_count_142 : decode cX7_count 142 = .ok (.ireturn, 1) := by decide +kernel
theorem dX7_count_143 : decode cX7_count 143 = .ok (.aload_n 0, 1) := by decide +kernel
theorem dX7_count_144 : decode cX7_count 144 = .ok (.getfield 17, 3) := by decide +kernel
theorem dX7_count_147 : decode cX7_count 147 = .ok (.invokevirtual 249, 3) := by decide +kernel
theorem dX7_count_150 : decode cX7_count 150 = .ok (.ireturn, 1) := by decide +kernel
theorem dX7_count_151 : decode cX7_count 151 = .ok (.aload_n 0, 1) := by decide +kernel
theorem dX7_count_152 : decode cX7_count 152 = .ok (.getfield 17, 3) := by decide +kernel
theorem dX7_count_155 : decode cX7_count 155 = .ok (.invokevirtual 252, 3) := by decide +kernel
theorem dX7_count_158 : decode cX7_count 158 = .ok (.ireturn, 1) := by decide +kernel
theorem dX7_count_159 : decode cX7_count 159 = .ok (.aload_n 0, 1) := by decide +kernel
theorem dX7_count_160 : decode cX7_count 160 = .ok (.getfield 17, 3) := by decide +kernel
theorem dX7_count_163 : decode cX7_count 163 = .ok (.invokevirtual 255, 3) := by decide +kernel
theorem dX7_count_166 : decode cX7_count 166 = .ok (.ireturn, 1) := by decide +kernel
theorem dX7_count_167 : decode cX7_count 167 = .ok (.aload_n 0, 1) := by decide +kernel
theorem dX7_count_168 : decode cX7_count 168 = .ok (.getfield 17, 3) := by decide +kernel
theorem dX7_count_171 : decode cX7_count 171 = .ok (.invokevirtual 258, 3) := by decide +kernel
theorem dX7_count_174 : decode cX7_count 174 = .ok (.ireturn, 1) := by decide +kernel
theorem dX7_count_175 : decode cX7_count 175 = .ok (.aload_n 0, 1) := by decide +kernel
theorem dX7_count_176 : decode cX7_count 176 = .ok (.getfield 17, 3) := by decide +kernel
theorem dX7_count_179 : decode cX7_count 179 = .ok (.invokevirtual 261, 3) := by decide +kernel
theorem dX7_count_182 : decode cX7_count 182 = .ok (.ireturn, 1) := by decide +kernel
theorem dX7_count_183 : decode cX7_count 183 = .ok (.aload_n 0, 1) := by decide +kernel
theorem dX7_count_184 : decode cX7_count 184 = .ok (.getfield 30, 3) := by decide +kernel
theorem dX7_count_187 : decode cX7_count 187 = .ok (.getfield 177, 3) := by decide +kernel
theorem dX7_count_190 : decode cX7_count 190 = .ok (.ireturn, 1) := by decide +kernel
theorem dX7_count_191 : decode cX7_count 191 = .ok (.aload_n 0, 1) := by decide +kernel
theorem dX7_count_192 : decode cX7_count 192 = .ok (.getfield 37, 3) := by decide +kernel
theorem dX7_count_195 : decode cX7_count 195 = .ok (.getfield 174, 3) := by decide +kernel
theorem dX7_count_198 : decode cX7_count 198 = .ok (.ireturn, 1) := by decide +kernel
theorem dX7_count_199 : decode cX7_count 199 = .ok (.bipush (-2), 2) := by decide +kernel
theorem dX7_count_201 : decode cX7_count 201 = .ok (.ireturn, 1) := by decide +kernel
set_option maxRecDepth 20000 in
theorem wf_X7_243 : Cond.fieldLink RX7 243 RX5 "sailingCount" "I" ∈ zB := List.mem_filter.mpr ⟨List.mem_of_getElem? (i := 150) (by decide +kernel), by decide +kernel⟩
theorem q_X7_243 : zFld RX7 243 5 3 := ⟨RX5, TX5, 8, rfl, by decide, iX5, wf_X7_243, rfl⟩
set_option maxRecDepth 20000 in
theorem wc_X5_sailingsThatAre : Cond.code yX5_sailingsThatAre cX5_sailingsThatAre 7 (some .int) ∈ zB := List.mem_filter.mpr ⟨List.mem_of_getElem? (i := 338) (by decide +kernel), by decide +kernel⟩
set_option maxRecDepth 20000 in
theorem wm_X7_246 : Cond.methodLink RX7 246 yX5_sailingsThatAre ∈ zB := List.mem_filter.mpr ⟨List.mem_of_getElem? (i := 335) (by decide +kernel), by decide +kernel⟩
theorem k_X7_246 : zCal RX7 246 yX5_sailingsThatAre cX5_sailingsThatAre 7 (some .int) 1 := ⟨wm_X7_246, wi_X5, wc_X5_sailingsThatAre, by decide +kernel, by decide +kernel, by decide +kernel⟩
set_option maxRecDepth 20000 in
theorem wn_X5_sailingsThatAre : Cond.instanceMethod yX5_sailingsThatAre ∈ zB := List.mem_filter.mpr ⟨List.mem_of_getElem? (i := 336) (by decide +kernel), by decide +kernel⟩
set_option maxRecDepth 20000 in
theorem ws_X5_sailingsThatAre : Cond.selects RX5 yX5_sailingsThatAre yX5_sailingsThatAre ∈ zB := List.mem_filter.mpr ⟨List.mem_of_getElem? (i := 337) (by decide +kernel), by decide +kernel⟩
theorem v_X5_sailingsThatAre : zVir yX5_sailingsThatAre 5 := ⟨wn_X5_sailingsThatAre, ws_X5_sailingsThatAre, TX5, 8, rfl⟩
set_option maxRecDepth 20000 in
theorem wc_X5_membersSickNow : Cond.code yX5_membersSickNow cX5_membersSickNow 6 (some .int) ∈ zB := List.mem_filter.mpr ⟨List.mem_of_getElem? (i := 342) (by decide +kernel), by decide +kernel⟩
set_option maxRecDepth 20000 in
theorem wm_X7_249 : Cond.methodLink RX7 249 yX5_membersSickNow ∈ zB := List.mem_filter.mpr ⟨List.mem_of_getElem? (i := 339) (by decide +kernel), by decide +kernel⟩
theorem k_X7_249 : zCal RX7 249 yX5_membersSickNow cX5_membersSickNow 6 (some .int) 0 := ⟨wm_X7_249, wi_X5, wc_X5_membersSickNow, by decide +kernel, by decide +kernel, by decide +kernel⟩
set_option maxRecDepth 20000 in
theorem wn_X5_membersSickNow : Cond.instanceMethod yX5_membersSickNow ∈ zB := List.mem_filter.mpr ⟨List.mem_of_getElem? (i := 340) (by decide +kernel), by decide +kernel⟩
set_option maxRecDepth 20000 in
theorem ws_X5_membersSickNow : Cond.selects RX5 yX5_membersSickNow yX5_membersSickNow ∈ zB := List.mem_filter.mpr ⟨List.mem_of_getElem? (i := 341) (by decide +kernel), by decide +kernel⟩
theorem v_X5_membersSickNow : zVir yX5_membersSickNow 5 := ⟨wn_X5_membersSickNow, ws_X5_membersSickNow, TX5, 8, rfl⟩
set_option maxRecDepth 20000 in
theorem wc_X5_freeOpenPlaces : Cond.code yX5_freeOpenPlaces cX5_freeOpenPlaces 6 (some .int) ∈ zB := List.mem_filter.mpr ⟨List.mem_of_getElem? (i := 346) (by decide +kernel), by decide +kernel⟩
set_option maxRecDepth 20000 in
theorem wm_X7_252 : Cond.methodLink RX7 252 yX5_freeOpenPlaces ∈ zB := List.mem_filter.mpr ⟨List.mem_of_getElem? (i := 343) (by decide +kernel), by decide +kernel⟩
theorem k_X7_252 : zCal RX7 252 yX5_freeOpenPlaces cX5_freeOpenPlaces 6 (some .int) 0 := ⟨wm_X7_252, wi_X5, wc_X5_freeOpenPlaces, by decide +kernel, by decide +kernel, by decide +kernel⟩
set_option maxRecDepth 20000 in
theorem wn_X5_freeOpenPlaces : Cond.instanceMethod yX5_freeOpenPlaces ∈ zB := List.mem_filter.mpr ⟨List.mem_of_getElem? (i := 344) (by decide +kernel), by decide +kernel⟩
set_option maxRecDepth 20000 in
theorem ws_X5_freeOpenPlaces : Cond.selects RX5 yX5_freeOpenPlaces yX5_freeOpenPlaces ∈ zB := List.mem_filter.mpr ⟨List.mem_of_getElem? (i := 345) (by decide +kernel), by decide +kernel⟩
theorem v_X5_freeOpenPlaces : zVir yX5_freeOpenPlaces 5 := ⟨wn_X5_freeOpenPlaces, ws_X5_freeOpenPlaces, TX5, 8, rfl⟩
set_option maxRecDepth 20000 in
theorem wc_X5_takenOpenPlaces : Cond.code yX5_takenOpenPlaces cX5_takenOpenPlaces 6 (some .int) ∈ zB := List.mem_filter.mpr ⟨List.mem_of_getElem? (i := 366) (by decide +kernel), by decide +kernel⟩
set_option maxRecDepth 20000 in
theorem wm_X7_255 : Cond.methodLink RX7 255 yX5_takenOpenPlaces ∈ zB := List.mem_filter.mpr ⟨List.mem_of_getElem? (i := 363) (by decide +kernel), by decide +kernel⟩
theorem k_X7_255 : zCal RX7 255 yX5_takenOpenPlaces cX5_takenOpenPlaces 6 (some .int) 0 := ⟨wm_X7_255, wi_X5, wc_X5_takenOpenPlaces, by decide +kernel, by decide +kernel, by decide +kernel⟩
set_option maxRecDepth 20000 in
theorem wn_X5_takenOpenPlaces : Cond.instanceMethod yX5_takenOpenPlaces ∈ zB := List.mem_filter.mpr ⟨List.mem_of_getElem? (i := 364) (by decide +kernel), by decide +kernel⟩
set_option maxRecDepth 20000 in
theorem ws_X5_takenOpenPlaces : Cond.selects RX5 yX5_takenOpenPlaces yX5_takenOpenPlaces ∈ zB := List.mem_filter.mpr ⟨List.mem_of_getElem? (i := 365) (by decide +kernel), by decide +kernel⟩
theorem v_X5_takenOpenPlaces : zVir yX5_takenOpenPlaces 5 := ⟨wn_X5_takenOpenPlaces, ws_X5_takenOpenPlaces, TX5, 8, rfl⟩
set_option maxRecDepth 20000 in
theorem wc_X5_allCovers : Cond.code yX5_allCovers cX5_allCovers 6 (some .int) ∈ zB := List.mem_filter.mpr ⟨List.mem_of_getElem? (i := 371) (by decide +kernel), by decide +kernel⟩
set_option maxRecDepth 20000 in
theorem wm_X7_258 : Cond.methodLink RX7 258 yX5_allCovers ∈ zB := List.mem_filter.mpr ⟨List.mem_of_getElem? (i := 368) (by decide +kernel), by decide +kernel⟩
theorem k_X7_258 : zCal RX7 258 yX5_allCovers cX5_allCovers 6 (some .int) 0 := ⟨wm_X7_258, wi_X5, wc_X5_allCovers, by decide +kernel, by decide +kernel, by decide +kernel⟩
set_option maxRecDepth 20000 in
theorem wn_X5_allCovers : Cond.instanceMethod yX5_allCovers ∈ zB := List.mem_filter.mpr ⟨List.mem_of_getElem? (i := 369) (by decide +kernel), by decide +kernel⟩
set_option maxRecDepth 20000 in
theorem ws_X5_allCovers : Cond.selects RX5 yX5_allCovers yX5_allCovers ∈ zB := List.mem_filter.mpr ⟨List.mem_of_getElem? (i := 370) (by decide +kernel), by decide +kernel⟩
theorem v_X5_allCovers : zVir yX5_allCovers 5 := ⟨wn_X5_allCovers, ws_X5_allCovers, TX5, 8, rfl⟩
set_option maxRecDepth 20000 in
theorem wc_X5_allHoursBeyond : Cond.code yX5_allHoursBeyond cX5_allHoursBeyond 5 (some .int) ∈ zB := List.mem_filter.mpr ⟨List.mem_of_getElem? (i := 375) (by decide +kernel), by decide +kernel⟩
set_option maxRecDepth 20000 in
theorem wm_X7_261 : Cond.methodLink RX7 261 yX5_allHoursBeyond ∈ zB := List.mem_filter.mpr ⟨List.mem_of_getElem? (i := 372) (by decide +kernel), by decide +kernel⟩
theorem k_X7_261 : zCal RX7 261 yX5_allHoursBeyond cX5_allHoursBeyond 5 (some .int) 0 := ⟨wm_X7_261, wi_X5, wc_X5_allHoursBeyond, by decide +kernel, by decide +kernel, by decide +kernel⟩
set_option maxRecDepth 20000 in
theorem wn_X5_allHoursBeyond : Cond.instanceMethod yX5_allHoursBeyond ∈ zB := List.mem_filter.mpr ⟨List.mem_of_getElem? (i := 373) (by decide +kernel), by decide +kernel⟩
set_option maxRecDepth 20000 in
theorem ws_X5_allHoursBeyond : Cond.selects RX5 yX5_allHoursBeyond yX5_allHoursBeyond ∈ zB := List.mem_filter.mpr ⟨List.mem_of_getElem? (i := 374) (by decide +kernel), by decide +kernel⟩
theorem v_X5_allHoursBeyond : zVir yX5_allHoursBeyond 5 := ⟨wn_X5_allHoursBeyond, ws_X5_allHoursBeyond, TX5, 8, rfl⟩
theorem q_X7_37 : zFld RX7 37 7 4 := ⟨RX7, TX7, 6, rfl, by decide, iX7, wf_X7_37, rfl⟩
set_option maxRecDepth 20000 in
theorem wf_X7_174 : Cond.fieldLink RX7 174 RX6 "length" "I" ∈ zB := List.mem_filter.mpr ⟨List.mem_of_getElem? (i := 197) (by decide +kernel), by decide +kernel⟩
theorem q_X7_174 : zFld RX7 174 6 1 := ⟨RX6, TX6, 8, rfl, by decide, iX6, wf_X7_174, rfl⟩
def rm_X7_count : Room := { frames := 5, cells := 0, slots := 0, locals := 112 }
set_option maxHeartbeats 4000000 in
set_option maxRecDepth 20000 in
theorem t_X7_count {p : Program} {l : Launch} {e : Env} {s : State} {m : MethodId} {args : Array Value} {below : List Frame} {meth : Method} {c : Code} {G : zG} (Z : zF p s m args c meth cX7_count 2 RX7 G) (hr : meth.sig.returnType = (some .int)) {out : Int32 × zHp} {a0 : Nat} {a1 : Int32} {h : zHp} {H : Heap} {locs : List Loc} {ls : Array Slot} (hf : f_X7_count a0 a1 h = some out) (E : zE G s h H locs) (hl : lv_has ls 2 [(0, .ref a0), (1, .int a1)]) : W p l e rm_X7_count s m args below meth c H locs 0 0 (MQ below (zQi G out.1 out.2) args s 0 0 (zA G)) (F0 m 0 ls []) := by
  unfold f_X7_count at hf
  refine lv_iload_n Z.x Z.b dX7_count_0 rfl (lv_at hl 1 rfl) ?_
  refine lv_bipush (v := 13) Z.x Z.b dX7_count_1 (by decide) ?_
  refine lv_bipush (v := 17) Z.x Z.b dX7_count_3 (by decide) ?_
  refine z_Si (As := [.int a1, .int 13, .int 17]) Z E hl.1 k_X7_88 wt_X7_isWithin hf (fun r h' e => c_X7_isWithin l G h h' a1 13 17 r e) rfl rfl (Nat.le_of_ble_eq_true rfl) (zRm_of rfl (Nat.zero_le _) (Nat.zero_le _)) dX7_count_5 (fun v1 h2 H locs hf E => ?_)
  refine lv_if_eq (tgt := 24) Z.x Z.b dX7_count_8 (by decide) (fun c => ?_) (fun c => ?_)
  · have hf := zit hf c
    refine lv_iload_n Z.x Z.b dX7_count_24 rfl (lv_at hl 1 rfl) ?_
    by_cases c0 : a1 = 0
    · have hf := zit hf c0
      refine lv_tableIn (tgt := 92) Z.x Z.b dX7_count_25 (by rw [c0]; decide) (by rw [c0]; decide) (by rw [c0]; rfl) (by decide) ?_
      refine lv_aload_n Z.x Z.b dX7_count_92 rfl (lv_at hl 0 rfl) ?_
      refine z_getR Z E q_X7_17 dX7_count_93 hf (fun v3 hf => ?_)
      refine z_getI Z E q_X7_133 dX7_count_96 hf (fun v4 hf => ?_)
      exact z_iret Z E hr dX7_count_99 hf
    · have hf := zif_ hf c0
      by_cases c1 : a1 = 1
      · have hf := zit hf c1
        refine lv_tableIn (tgt := 100) Z.x Z.b dX7_count_25 (by rw [c1]; decide) (by rw [c1]; decide) (by rw [c1]; rfl) (by decide) ?_
        refine lv_aload_n Z.x Z.b dX7_count_100 rfl (lv_at hl 0 rfl) ?_
        refine z_getR Z E q_X7_17 dX7_count_101 hf (fun v5 hf => ?_)
        refine z_getI Z E q_X7_243 dX7_count_104 hf (fun v6 hf => ?_)
        exact z_iret Z E hr dX7_count_107 hf
      · have hf := zif_ hf c1
        by_cases c2 : a1 = 2
        · have hf := zit hf c2
          refine lv_tableIn (tgt := 108) Z.x Z.b dX7_count_25 (by rw [c2]; decide) (by rw [c2]; decide) (by rw [c2]; rfl) (by decide) ?_
          refine lv_aload_n Z.x Z.b dX7_count_108 rfl (lv_at hl 0 rfl) ?_
          refine z_getR Z E q_X7_17 dX7_count_109 hf (fun v7 hf => ?_)
          refine lv_iconst (v := 0) Z.x Z.b dX7_count_112 (by decide) ?_
          refine z_Vi (As := [.int 0]) Z E hl.1 k_X7_246 v_X5_sailingsThatAre hf (fun r h' e => c_X5_sailingsThatAre l G h2 h' v7 0 r e) rfl rfl (Nat.le_of_ble_eq_true rfl) (zRm_of rfl (Nat.zero_le _) (Nat.zero_le _)) dX7_count_113 (fun v8 h9 H locs hf E => ?_)
          exact z_iret Z E hr dX7_count_116 hf
        · have hf := zif_ hf c2
          by_cases c3 : a1 = 3
          · have hf := zit hf c3
            refine lv_tableIn (tgt := 117) Z.x Z.b dX7_count_25 (by rw [c3]; decide) (by rw [c3]; decide) (by rw [c3]; rfl) (by decide) ?_
            refine lv_aload_n Z.x Z.b dX7_count_117 rfl (lv_at hl 0 rfl) ?_
            refine z_getR Z E q_X7_17 dX7_count_118 hf (fun v10 hf => ?_)
            refine lv_iconst (v := 1) Z.x Z.b dX7_count_121 (by decide) ?_
            refine z_Vi (As := [.int 1]) Z E hl.1 k_X7_246 v_X5_sailingsThatAre hf (fun r h' e => c_X5_sailingsThatAre l G h2 h' v10 1 r e) rfl rfl (Nat.le_of_ble_eq_true rfl) (zRm_of rfl (Nat.zero_le _) (Nat.zero_le _)) dX7_count_122 (fun v11 h12 H locs hf E => ?_)
            exact z_iret Z E hr dX7_count_125 hf
          · have hf := zif_ hf c3
            by_cases c4 : a1 = 4
            · have hf := zit hf c4
              refine lv_tableIn (tgt := 126) Z.x Z.b dX7_count_25 (by rw [c4]; decide) (by rw [c4]; decide) (by rw [c4]; rfl) (by decide) ?_
              refine lv_aload_n Z.x Z.b dX7_count_126 rfl (lv_at hl 0 rfl) ?_
              refine z_getR Z E q_X7_17 dX7_count_127 hf (fun v13 hf => ?_)
              refine lv_iconst (v := 2) Z.x Z.b dX7_count_130 (by decide) ?_
              refine z_Vi (As := [.int 2]) Z E hl.1 k_X7_246 v_X5_sailingsThatAre hf (fun r h' e => c_X5_sailingsThatAre l G h2 h' v13 2 r e) rfl rfl (Nat.le_of_ble_eq_true rfl) (zRm_of rfl (Nat.zero_le _) (Nat.zero_le _)) dX7_count_131 (fun v14 h15 H locs hf E => ?_)
              exact z_iret Z E hr dX7_count_134 hf
            · have hf := zif_ hf c4
              by_cases c5 : a1 = 5
              · have hf := zit hf c5
                refine lv_tableIn (tgt := 135) Z.x Z.b dX7_count_25 (by rw [c5]; decide) (by rw [c5]; decide) (by rw [c5]; rfl) (by decide) ?_
                refine lv_aload_n Z.x Z.b dX7_count_135 rfl (lv_at hl 0 rfl) ?_
                refine z_getR Z E q_X7_17 dX7_count_136 hf (fun v16 hf => ?_)
                refine z_getI Z E q_X7_92 dX7_count_139 hf (fun v17 hf => ?_)
                exact z_iret Z E hr dX7_count_142 hf
              · have hf := zif_ hf c5
                by_cases c6 : a1 = 6
                · have hf := zit hf c6
                  refine lv_tableIn (tgt := 143) Z.x Z.b dX7_count_25 (by rw [c6]; decide) (by rw [c6]; decide) (by rw [c6]; rfl) (by decide) ?_
                  refine lv_aload_n Z.x Z.b dX7_count_143 rfl (lv_at hl 0 rfl) ?_
                  refine z_getR Z E q_X7_17 dX7_count_144 hf (fun v18 hf => ?_)
                  refine z_Vi (As := []) Z E hl.1 k_X7_249 v_X5_membersSickNow hf (fun r h' e => c_X5_membersSickNow l G h2 h' v18 r e) rfl rfl (Nat.le_of_ble_eq_true rfl) (zRm_of rfl (Nat.zero_le _) (Nat.zero_le _)) dX7_count_147 (fun v19 h20 H locs hf E => ?_)
                  exact z_iret Z E hr dX7_count_150 hf
                · have hf := zif_ hf c6
                  by_cases c7 : a1 = 7
                  · have hf := zit hf c7
                    refine lv_tableIn (tgt := 151) Z.x Z.b dX7_count_25 (by rw [c7]; decide) (by rw [c7]; decide) (by rw [c7]; rfl) (by decide) ?_
                    refine lv_aload_n Z.x Z.b dX7_count_151 rfl (lv_at hl 0 rfl) ?_
                    refine z_getR Z E q_X7_17 dX7_count_152 hf (fun v21 hf => ?_)
                    refine z_Vi (As := []) Z E hl.1 k_X7_252 v_X5_freeOpenPlaces hf (fun r h' e => c_X5_freeOpenPlaces l G h2 h' v21 r e) rfl rfl (Nat.le_of_ble_eq_true rfl) (zRm_of rfl (Nat.zero_le _) (Nat.zero_le _)) dX7_count_155 (fun v22 h23 H locs hf E => ?_)
                    exact z_iret Z E hr dX7_count_158 hf
                  · have hf := zif_ hf c7
                    by_cases c8 : a1 = 8
                    · have hf := zit hf c8
                      refine lv_tableIn (tgt := 159) Z.x Z.b dX7_count_25 (by rw [c8]; decide) (by rw [c8]; decide) (by rw [c8]; rfl) (by decide) ?_
                      refine lv_aload_n Z.x Z.b dX7_count_159 rfl (lv_at hl 0 rfl) ?_
                      refine z_getR Z E q_X7_17 dX7_count_160 hf (fun v24 hf => ?_)
                      refine z_Vi (As := []) Z E hl.1 k_X7_255 v_X5_takenOpenPlaces hf (fun r h' e => c_X5_takenOpenPlaces l G h2 h' v24 r e) rfl rfl (Nat.le_of_ble_eq_true rfl) (zRm_of rfl (Nat.zero_le _) (Nat.zero_le _)) dX7_count_163 (fun v25 h26 H locs hf E => ?_)
                      exact z_iret Z E hr dX7_count_166 hf
                    · have hf := zif_ hf c8
                      by_cases c9 : a1 = 9
                      · have hf := zit hf c9
                        refine lv_tableIn (tgt := 167) Z.x Z.b dX7_count_25 (by rw [c9]; decide) (by rw [c9]; decide) (by rw [c9]; rfl) (by decide) ?_
                        refine lv_aload_n Z.x Z.b dX7_count_167 rfl (lv_at hl 0 rfl) ?_
                        refine z_getR Z E q_X7_17 dX7_count_168 hf (fun v27 hf => ?_)
                        refine z_Vi (As := []) Z E hl.1 k_X7_258 v_X5_allCovers hf (fun r h' e => c_X5_allCovers l G h2 h' v27 r e) rfl rfl (Nat.le_of_ble_eq_true rfl) (zRm_of rfl (Nat.zero_le _) (Nat.zero_le _)) dX7_count_171 (fun v28 h29 H locs hf E => ?_)
                        exact z_iret Z E hr dX7_count_174 hf
                      · have hf := zif_ hf c9
                        by_cases c10 : a1 = 10
                        · have hf := zit hf c10
                          refine lv_tableIn (tgt := 175) Z.x Z.b dX7_count_25 (by rw [c10]; decide) (by rw [c10]; decide) (by rw [c10]; rfl) (by decide) ?_
                          refine lv_aload_n Z.x Z.b dX7_count_175 rfl (lv_at hl 0 rfl) ?_
                          refine z_getR Z E q_X7_17 dX7_count_176 hf (fun v30 hf => ?_)
                          refine z_Vi (As := []) Z E hl.1 k_X7_261 v_X5_allHoursBeyond hf (fun r h' e => c_X5_allHoursBeyond l G h2 h' v30 r e) rfl rfl (Nat.le_of_ble_eq_true rfl) (zRm_of rfl (Nat.zero_le _) (Nat.zero_le _)) dX7_count_179 (fun v31 h32 H locs hf E => ?_)
                          exact z_iret Z E hr dX7_count_182 hf
                        · have hf := zif_ hf c10
                          by_cases c11 : a1 = 11
                          · have hf := zit hf c11
                            refine lv_tableIn (tgt := 183) Z.x Z.b dX7_count_25 (by rw [c11]; decide) (by rw [c11]; decide) (by rw [c11]; rfl) (by decide) ?_
                            refine lv_aload_n Z.x Z.b dX7_count_183 rfl (lv_at hl 0 rfl) ?_
                            refine z_getR Z E q_X7_30 dX7_count_184 hf (fun v33 hf => ?_)
                            refine z_getI Z E q_X7_177 dX7_count_187 hf (fun v34 hf => ?_)
                            exact z_iret Z E hr dX7_count_190 hf
                          · have hf := zif_ hf c11
                            by_cases c12 : a1 = 12
                            · have hf := zit hf c12
                              refine lv_tableIn (tgt := 191) Z.x Z.b dX7_count_25 (by rw [c12]; decide) (by rw [c12]; decide) (by rw [c12]; rfl) (by decide) ?_
                              refine lv_aload_n Z.x Z.b dX7_count_191 rfl (lv_at hl 0 rfl) ?_
                              refine z_getR Z E q_X7_37 dX7_count_192 hf (fun v35 hf => ?_)
                              refine z_getI Z E q_X7_174 dX7_count_195 hf (fun v36 hf => ?_)
                              exact z_iret Z E hr dX7_count_198 hf
                            · have hf := zif_ hf c12
                              have n0 := zsw (k := 0) c0 (by decide)
                              have n1 := zsw (k := 1) c1 (by decide)
                              have n2 := zsw (k := 2) c2 (by decide)
                              have n3 := zsw (k := 3) c3 (by decide)
                              have n4 := zsw (k := 4) c4 (by decide)
                              have n5 := zsw (k := 5) c5 (by decide)
                              have n6 := zsw (k := 6) c6 (by decide)
                              have n7 := zsw (k := 7) c7 (by decide)
                              have n8 := zsw (k := 8) c8 (by decide)
                              have n9 := zsw (k := 9) c9 (by decide)
                              have n10 := zsw (k := 10) c10 (by decide)
                              have n11 := zsw (k := 11) c11 (by decide)
                              have n12 := zsw (k := 12) c12 (by decide)
                              refine lv_tableOut (tgt := 199) Z.x Z.b dX7_count_25 (by omega) (by decide) ?_
                              refine lv_bipush (v := (-2)) Z.x Z.b dX7_count_199 (by decide) ?_
                              exact z_iret Z E hr dX7_count_201 hf
  · have hf := zif_ hf c
    refine lv_aload_n Z.x Z.b dX7_count_11 rfl (lv_at hl 0 rfl) ?_
    refine z_getR Z E q_X7_17 dX7_count_12 hf (fun v37 hf => ?_)
    refine z_getR Z E q_X7_164 dX7_count_15 hf (fun v38 hf => ?_)
    refine lv_iload_n Z.x Z.b dX7_count_18 rfl (lv_at hl 1 rfl) ?_
    refine lv_bipush (v := 13) Z.x Z.b dX7_count_19 (by decide) ?_
    refine lv_isub Z.x Z.b dX7_count_21 ?_
    refine z_iald Z E dX7_count_22 hf (fun v39 hf => ?_)
    exact z_iret Z E hr dX7_count_23 hf
set_option maxHeartbeats 4000000 in
set_option maxRecDepth 20000 in
theorem c_X7_count (l : Launch) (G : zG) (h : zHp) (h' : zHp) (a0 : Nat) (a1 : Int32) (r : Int32) (hf : f_X7_count a0 a1 h = some (r, h')) : zM0 l yX7_count cX7_count 2 (some .int) rm_X7_count G [.ref a0, .int a1] h (zQi G r h') := by
  refine Met.ofW (cc := cX7_count) (maxL := 2) (ret := (some .int)) (by decide) rfl ?_
  intro p e s m args below meth c s₁ B hml hv
  obtain ⟨rfl, hW⟩ := hv
  obtain ⟨Z, E, hr⟩ := zEnter (own := RX7) B hml rfl hW
  have hl := lv_entry ([.ref a0, .int a1]) (n := 2) (Nat.le_of_ble_eq_true rfl)
  rw [lg_entry_eq]
  generalize (lg_sl ([.ref a0, .int a1]) ++ List.replicate (2 - (lg_sl ([.ref a0, .int a1])).length) Slot.unset).toArray = ls at hl ⊢
  have hl : lv_has ls 2 [(0, .ref a0), (1, .int a1)] := hl
  exact t_X7_count (out := (r, h')) Z hr hf E hl
/-! FerryCrews.why(III)I -/
theorem dX7_why_0 : decode cX7_why 0 = .ok (.aload_n 0, 1) := by decide +kernel
theorem dX7_why_1 : decode cX7_why 1 = .ok (.getfield 17, 3) := by decide +kernel
theorem dX7_why_4 : decode cX7_why 4 = .ok (.iload_n 2, 1) := by decide +kernel
theorem dX7_why_5 : decode cX7_why 5 = .ok (.invokevirtual 71, 3) := by decide +kernel
theorem dX7_why_8 : decode cX7_why 8 = .ok (.astore 4, 2) := by decide +kernel
theorem dX7_why_10 : decode cX7_why 10 = .ok (.aload_n 0, 1) := by decide +kernel
theorem dX7_why_11 : decode cX7_why 11 = .ok (.getfield 17, 3) := by decide +kernel
theorem dX7_why_14 : decode cX7_why 14 = .ok (.iload_n 1, 1) := by decide +kernel
theorem dX7_why_15 : decode cX7_why 15 = .ok (.invokevirtual 99, 3) := by decide +kernel
theorem dX7_why_18 : decode cX7_why 18 = .ok (.ifnull 15, 3) := by decide +kernel
theorem dX7_why_21 : decode cX7_why 21 = .ok (.aload 4, 2) := by decide +kernel
theorem dX7_why_23 : decode cX7_why 23 = .ok (.ifnull 10, 3) := by decide +kernel
theorem dX7_why_26 : decode cX7_why 26 = .ok (.iload_n 3, 1) := by decide +kernel
theorem dX7_why_27 : decode cX7_why 27 = .ok (.invokestatic 84, 3) := by decide +kernel
theorem dX7_why_30 : decode cX7_why 30 = .ok (.ifCond .ne 5, 3) := by decide +kernel
theorem dX7_why_33 : decode cX7_why 33 = .ok (.iconst (-1), 1) := by decide +kernel
theorem dX7_why_34 : decode cX7_why 34 = .ok (.ireturn, 1) := by decide +kernel
theorem dX7_why_35 : decode cX7_why 35 = .ok (.aload_n 0, 1) := by decide +kernel
theorem dX7_why_36 : decode cX7_why 36 = .ok (.getfield 17, 3) := by decide +kernel
theorem dX7_why_39 : decode cX7_why 39 = .ok (.iload_n 1, 1) := by decide +kernel
theorem dX7_why_40 : decode cX7_why 40 = .ok (.aload 4, 2) := by decide +kernel
theorem dX7_why_42 : decode cX7_why 42 = .ok (.iload_n 3, 1) := by decide +kernel
theorem dX7_why_43 : decode cX7_why 43 = .ok (.invokevirtual 136, 3) := by decide +kernel
theorem dX7_why_46 : decode cX7_why 46 = .ok (.ireturn, 1) := by decide +kernel
def rm_X7_why : Room := { frames := 5, cells := 0, slots := 0, locals := 113 }
set_option maxHeartbeats 4000000 in
set_option maxRecDepth 20000 in
theorem t_X7_why {p : Program} {l : Launch} {e : Env} {s : State} {m : MethodId} {args : Array Value} {below : List Frame} {meth : Method} {c : Code} {G : zG} (Z : zF p s m args c meth cX7_why 5 RX7 G) (hr : meth.sig.returnType = (some .int)) {out : Int32 × zHp} {a0 : Nat} {a1 : Int32} {a2 : Int32} {a3 : Int32} {h : zHp} {H : Heap} {locs : List Loc} {ls : Array Slot} (hf : f_X7_why a0 a1 a2 a3 h = some out) (E : zE G s h H locs) (hl : lv_has ls 5 [(0, .ref a0), (1, .int a1), (2, .int a2), (3, .int a3)]) : W p l e rm_X7_why s m args below meth c H locs 0 0 (MQ below (zQi G out.1 out.2) args s 0 0 (zA G)) (F0 m 0 ls []) := by
  unfold f_X7_why at hf
  refine lv_aload_n Z.x Z.b dX7_why_0 rfl (lv_at hl 0 rfl) ?_
  refine z_getR Z E q_X7_17 dX7_why_1 hf (fun v1 hf => ?_)
  refine lv_iload_n Z.x Z.b dX7_why_4 rfl (lv_at hl 2 rfl) ?_
  refine z_Vq (As := [.int a2]) Z E hl.1 k_X7_71 v_X5_sailingAt hf (fun r h' e => c_X5_sailingAt l G h h' v1 a2 r e) rfl rfl (Nat.le_of_ble_eq_true rfl) (zRm_of rfl (Nat.zero_le _) (Nat.zero_le _)) dX7_why_5 (fun w2 h3 H locs hf E => ?_)
  refine z_astore (lv' := [(4, va_rf w2), (0, .ref a0), (1, .int a1), (2, .int a2), (3, .int a3)]) Z (x := w2) dX7_why_8 hl (by decide) (by cases w2 <;> rfl) (fun ls hl => ?_)
  refine lv_aload_n Z.x Z.b dX7_why_10 rfl (lv_at hl 1 rfl) ?_
  refine z_getR Z E q_X7_17 dX7_why_11 hf (fun v4 hf => ?_)
  refine lv_iload_n Z.x Z.b dX7_why_14 rfl (lv_at hl 2 rfl) ?_
  refine z_Vq (As := [.int a1]) Z E hl.1 k_X7_99 v_X5_memberAt hf (fun r h' e => c_X5_memberAt l G h3 h' v4 a1 r e) rfl rfl (Nat.le_of_ble_eq_true rfl) (zRm_of rfl (Nat.zero_le _) (Nat.zero_le _)) dX7_why_15 (fun w5 h6 H locs hf E => ?_)
  refine z_ifnull (tgt := 33) Z dX7_why_18 (by decide) hf (fun ex h9_18 => ?_) (fun v7 ex h9_18 => ?_)
  · subst ex
    have hf := h9_18
    refine lv_iconst (v := (-1)) Z.x Z.b dX7_why_33 (by decide) ?_
    exact z_iret Z E hr dX7_why_34 hf
  · subst ex
    have hf := h9_18
    refine z_aload Z (x := w2) dX7_why_21 (lv_at hl 0 rfl) ?_
    refine z_ifnull (tgt := 33) Z dX7_why_23 (by decide) hf (fun ex h9_23 => ?_) (fun v8 ex h9_23 => ?_)
    · subst ex
      have hf := h9_23
      refine lv_iconst (v := (-1)) Z.x Z.b dX7_why_33 (by decide) ?_
      exact z_iret Z E hr dX7_why_34 hf
    · subst ex
      have hf := h9_23
      refine lv_iload_n Z.x Z.b dX7_why_26 rfl (lv_at hl 4 rfl) ?_
      refine z_Si (As := [.int a3]) Z E hl.1 k_X7_84 wt_X7_isRole hf (fun r h' e => c_X7_isRole l G h6 h' a3 r e) rfl rfl (Nat.le_of_ble_eq_true rfl) (zRm_of rfl (Nat.zero_le _) (Nat.zero_le _)) dX7_why_27 (fun v9 h10 H locs hf E => ?_)
      refine lv_if_ne (tgt := 35) Z.x Z.b dX7_why_30 (by decide) (fun c => ?_) (fun c => ?_)
      · have hf := zif_ hf c
        refine lv_aload_n Z.x Z.b dX7_why_35 rfl (lv_at hl 1 rfl) ?_
        refine z_getR Z E q_X7_17 dX7_why_36 hf (fun v11 hf => ?_)
        refine lv_iload_n Z.x Z.b dX7_why_39 rfl (lv_at hl 2 rfl) ?_
        refine lv_aload Z.x Z.b dX7_why_40 (lv_at hl 0 rfl) ?_
        refine lv_iload_n Z.x Z.b dX7_why_42 rfl (lv_at hl 4 rfl) ?_
        refine z_Vi (As := [.int a1, .ref v8, .int a3]) Z E hl.1 k_X7_136 v_X5_reasonAgainst hf (fun r h' e => c_X5_reasonAgainst l G h10 h' v11 a1 v8 a3 r e) rfl rfl (Nat.le_of_ble_eq_true rfl) (zRm_of rfl (Nat.zero_le _) (Nat.zero_le _)) dX7_why_43 (fun v12 h13 H locs hf E => ?_)
        exact z_iret Z E hr dX7_why_46 hf
      · have hf := zit hf c
        refine lv_iconst (v := (-1)) Z.x Z.b dX7_why_33 (by decide) ?_
        exact z_iret Z E hr dX7_why_34 hf
set_option maxHeartbeats 4000000 in
set_option maxRecDepth 20000 in
theorem c_X7_why (l : Launch) (G : zG) (h : zHp) (h' : zHp) (a0 : Nat) (a1 : Int32) (a2 : Int32) (a3 : Int32) (r : Int32) (hf : f_X7_why a0 a1 a2 a3 h = some (r, h')) : zM0 l yX7_why cX7_why 5 (some .int) rm_X7_why G [.ref a0, .int a1, .int a2, .int a3] h (zQi G r h') := by
  refine Met.ofW (cc := cX7_why) (maxL := 5) (ret := (some .int)) (by decide) rfl ?_
  intro p e s m args below meth c s₁ B hml hv
  obtain ⟨rfl, hW⟩ := hv
  obtain ⟨Z, E, hr⟩ := zEnter (own := RX7) B hml rfl hW
  have hl := lv_entry ([.ref a0, .int a1, .int a2, .int a3]) (n := 5) (Nat.le_of_ble_eq_true rfl)
  rw [lg_entry_eq]
  generalize (lg_sl ([.ref a0, .int a1, .int a2, .int a3]) ++ List.replicate (5 - (lg_sl ([.ref a0, .int a1, .int a2, .int a3])).length) Slot.unset).toArray = ls at hl ⊢
  have hl : lv_has ls 5 [(0, .ref a0), (1, .int a1), (2, .int a2), (3, .int a3)] := hl
  exact t_X7_why (out := (r, h')) Z hr hf E hl
/-! FerryCrewsLaw.low(II)I -/
theorem dL_low_0 : decode cL_low 0 = .ok (.iload_n 0, 1) := by decide +kernel
theorem dL_low_1 : decode cL_low 1 = .ok (.ldc 8, 2) := by decide +kernel
theorem dL_low_3 : decode cL_low 3 = .ok (.iand, 1) := by decide +kernel
theorem dL_low_4 : decode cL_low 4 = .ok (.iload_n 1, 1) := by decide +kernel
theorem dL_low_5 : decode cL_low 5 = .ok (.irem, 1) := by decide +kernel
theorem dL_low_6 : decode cL_low 6 = .ok (.ireturn, 1) := by decide +kernel
set_option maxRecDepth 20000 in
theorem wd_L_8 : Cond.constant RL 8 2147483647 ∈ zB := List.mem_filter.mpr ⟨List.mem_of_getElem? (i := 437) (by decide +kernel), by decide +kernel⟩
def rm_L_low : Room := { frames := 0, cells := 0, slots := 0, locals := 0 }
set_option maxHeartbeats 4000000 in
set_option maxRecDepth 20000 in
theorem t_L_low {p : Program} {l : Launch} {e : Env} {s : State} {m : MethodId} {args : Array Value} {below : List Frame} {meth : Method} {c : Code} {G : zG} (Z : zF p s m args c meth cL_low 2 RL G) (hr : meth.sig.returnType = (some .int)) {out : Int32 × zHp} {a0 : Int32} {a1 : Int32} {h : zHp} {H : Heap} {locs : List Loc} {ls : Array Slot} (hf : f_L_low a0 a1 h = some out) (E : zE G s h H locs) (hl : lv_has ls 2 [(0, .int a0), (1, .int a1)]) : W p l e rm_L_low s m args below meth c H locs 0 0 (MQ below (zQi G out.1 out.2) args s 0 0 (zA G)) (F0 m 0 ls []) := by
  unfold f_L_low at hf
  refine lv_iload_n Z.x Z.b dL_low_0 rfl (lv_at hl 0 rfl) ?_
  refine lv_ldc (v := 2147483647) Z.x Z.b Z.ow (Z.ts _ wd_L_8) dL_low_1 ?_
  refine lv_iand Z.x Z.b dL_low_3 ?_
  refine lv_iload_n Z.x Z.b dL_low_4 rfl (lv_at hl 1 rfl) ?_
  refine z_irem Z dL_low_5 hf (fun v1 hf => ?_)
  exact z_iret Z E hr dL_low_6 hf
set_option maxHeartbeats 4000000 in
set_option maxRecDepth 20000 in
theorem c_L_low (l : Launch) (G : zG) (h : zHp) (h' : zHp) (a0 : Int32) (a1 : Int32) (r : Int32) (hf : f_L_low a0 a1 h = some (r, h')) : zM0 l yL_low cL_low 2 (some .int) rm_L_low G [.int a0, .int a1] h (zQi G r h') := by
  refine Met.ofW (cc := cL_low) (maxL := 2) (ret := (some .int)) (by decide) rfl ?_
  intro p e s m args below meth c s₁ B hml hv
  obtain ⟨rfl, hW⟩ := hv
  obtain ⟨Z, E, hr⟩ := zEnter (own := RL) B hml rfl hW
  have hl := lv_entry ([.int a0, .int a1]) (n := 2) (Nat.le_of_ble_eq_true rfl)
  rw [lg_entry_eq]
  generalize (lg_sl ([.int a0, .int a1]) ++ List.replicate (2 - (lg_sl ([.int a0, .int a1])).length) Slot.unset).toArray = ls at hl ⊢
  have hl : lv_has ls 2 [(0, .int a0), (1, .int a1)] := hl
  exact t_L_low (out := (r, h')) Z hr hf E hl
