/-! FerryCrews$State.dutiesOf(ILFerryCrews$Sailing;)LFerryCrews$Duties; -/
theorem dX5_dutiesOf_0 : decode cX5_dutiesOf 0 = .ok (.aload_n 0, 1) := by decide +kernel
theorem dX5_dutiesOf_1 : decode cX5_dutiesOf 1 = .ok (.getfield 33, 3) := by decide +kernel
theorem dX5_dutiesOf_4 : decode cX5_dutiesOf 4 = .ok (.invokevirtual 117, 3) := by decide +kernel
theorem dX5_dutiesOf_7 : decode cX5_dutiesOf 7 = .ok (.aload_n 0, 1) := by decide +kernel
theorem dX5_dutiesOf_8 : decode cX5_dutiesOf 8 = .ok (.getfield 17, 3) := by decide +kernel
theorem dX5_dutiesOf_11 : decode cX5_dutiesOf 11 = .ok (.astore_n 3, 1) := by decide +kernel
theorem dX5_dutiesOf_12 : decode cX5_dutiesOf 12 = .ok (.aload_n 3, 1) := by decide +kernel
theorem dX5_dutiesOf_13 : decode cX5_dutiesOf 13 = .ok (.arraylength, 1) := by decide +kernel
theorem dX5_dutiesOf_14 : decode cX5_dutiesOf 14 = .ok (.istore 4, 2) := by decide +kernel
theorem dX5_dutiesOf_16 : decode cX5_dutiesOf 16 = .ok (.iconst 0, 1) := by decide +kernel
theorem dX5_dutiesOf_17 : decode cX5_dutiesOf 17 = .ok (.istore 5, 2) := by decide +kernel
theorem dX5_dutiesOf_19 : decode cX5_dutiesOf 19 = .ok (.iload 5, 2) := by decide +kernel
theorem dX5_dutiesOf_21 : decode cX5_dutiesOf 21 = .ok (.iload 4, 2) := by decide +kernel
theorem dX5_dutiesOf_23 : decode cX5_dutiesOf 23 = .ok (.if_icmp .ge 39, 3) := by decide +kernel
theorem dX5_dutiesOf_26 : decode cX5_dutiesOf 26 = .ok (.aload_n 3, 1) := by decide +kernel
theorem dX5_dutiesOf_27 : decode cX5_dutiesOf 27 = .ok (.iload 5, 2) := by decide +kernel
theorem dX5_dutiesOf_29 : decode cX5_dutiesOf 29 = .ok (.aaload, 1) := by decide +kernel
theorem dX5_dutiesOf_30 : decode cX5_dutiesOf 30 = .ok (.astore 6, 2) := by decide +kernel
theorem dX5_dutiesOf_32 : decode cX5_dutiesOf 32 = .ok (.aload 6, 2) := by decide +kernel
theorem dX5_dutiesOf_34 : decode cX5_dutiesOf 34 = .ok (.aload_n 2, 1) := by decide +kernel
theorem dX5_dutiesOf_35 : decode cX5_dutiesOf 35 = .ok (.if_acmp .eq 12, 3) := by decide +kernel
theorem dX5_dutiesOf_38 : decode cX5_dutiesOf 38 = .ok (.aload 6, 2) := by decide +kernel
theorem dX5_dutiesOf_40 : decode cX5_dutiesOf 40 = .ok (.iload_n 1, 1) := by decide +kernel
theorem dX5_dutiesOf_41 : decode cX5_dutiesOf 41 = .ok (.invokevirtual 122, 3) := by decide +kernel
theorem dX5_dutiesOf_44 : decode cX5_dutiesOf 44 = .ok (.ifCond .eq 12, 3) := by decide +kernel
theorem dX5_dutiesOf_47 : decode cX5_dutiesOf 47 = .ok (.aload_n 0, 1) := by decide +kernel
theorem dX5_dutiesOf_48 : decode cX5_dutiesOf 48 = .ok (.getfield 33, 3) := by decide +kernel
theorem dX5_dutiesOf_51 : decode cX5_dutiesOf 51 = .ok (.aload 6, 2) := by decide +kernel
theorem dX5_dutiesOf_53 : decode cX5_dutiesOf 53 = .ok (.invokevirtual 125, 3) := by decide +kernel
theorem dX5_dutiesOf_56 : decode cX5_dutiesOf 56 = .ok (.iinc 5 1, 3) := by decide +kernel
theorem dX5_dutiesOf_59 : decode cX5_dutiesOf 59 = .ok (.goto (-40), 3) := by decide +kernel
theorem dX5_dutiesOf_62 : decode cX5_dutiesOf 62 = .ok (.aload_n 0, 1) := by decide +kernel
theorem dX5_dutiesOf_63 : decode cX5_dutiesOf 63 = .ok (.getfield 9, 3) := by decide +kernel
theorem dX5_dutiesOf_66 : decode cX5_dutiesOf 66 = .ok (.iconst 3, 1) := by decide +kernel
theorem dX5_dutiesOf_67 : decode cX5_dutiesOf 67 = .ok (.iaload, 1) := by decide +kernel
theorem dX5_dutiesOf_68 : decode cX5_dutiesOf 68 = .ok (.iconst 1, 1) := by decide +kernel
theorem dX5_dutiesOf_69 : decode cX5_dutiesOf 69 = .ok (.if_icmp .ne 58, 3) := by decide +kernel
theorem dX5_dutiesOf_72 : decode cX5_dutiesOf 72 = .ok (.aload_n 0, 1) := by decide +kernel
theorem dX5_dutiesOf_73 : decode cX5_dutiesOf 73 = .ok (.getfield 17, 3) := by decide +kernel
theorem dX5_dutiesOf_76 : decode cX5_dutiesOf 76 = .ok (.astore_n 3, 1) := by decide +kernel
theorem dX5_dutiesOf_77 : decode cX5_dutiesOf 77 = .ok (.aload_n 3, 1) := by decide +kernel
theorem dX5_dutiesOf_78 : decode cX5_dutiesOf 78 = .ok (.arraylength, 1) := by decide +kernel
theorem dX5_dutiesOf_79 : decode cX5_dutiesOf 79 = .ok (.istore 4, 2) := by decide +kernel
theorem dX5_dutiesOf_81 : decode cX5_dutiesOf 81 = .ok (.iconst 0, 1) := by decide +kernel
theorem dX5_dutiesOf_82 : decode cX5_dutiesOf 82 = .ok (.istore 5, 2) := by decide +kernel
theorem dX5_dutiesOf_84 : decode cX5_dutiesOf 84 = .ok (.iload 5, 2) := by decide +kernel
theorem dX5_dutiesOf_86 : decode cX5_dutiesOf 86 = .ok (.iload 4, 2) := by decide +kernel
theorem dX5_dutiesOf_88 : decode cX5_dutiesOf 88 = .ok (.if_icmp .ge 39, 3) := by decide +kernel
theorem dX5_dutiesOf_91 : decode cX5_dutiesOf 91 = .ok (.aload_n 3, 1) := by decide +kernel
theorem dX5_dutiesOf_92 : decode cX5_dutiesOf 92 = .ok (.iload 5, 2) := by decide +kernel
theorem dX5_dutiesOf_94 : decode cX5_dutiesOf 94 = .ok (.aaload, 1) := by decide +kernel
theorem dX5_dutiesOf_95 : decode cX5_dutiesOf 95 = .ok (.astore 6, 2) := by decide +kernel
theorem dX5_dutiesOf_97 : decode cX5_dutiesOf 97 = .ok (.aload 6, 2) := by decide +kernel
theorem dX5_dutiesOf_99 : decode cX5_dutiesOf 99 = .ok (.aload_n 2, 1) := by decide +kernel
theorem dX5_dutiesOf_100 : decode cX5_dutiesOf 100 = .ok (.if_acmp .eq 12, 3) := by decide +kernel
theorem dX5_dutiesOf_103 : decode cX5_dutiesOf 103 = .ok (.aload 6, 2) := by decide +kernel
theorem dX5_dutiesOf_105 : decode cX5_dutiesOf 105 = .ok (.iload_n 1, 1) := by decide +kernel
theorem dX5_dutiesOf_106 : decode cX5_dutiesOf 106 = .ok (.invokevirtual 122, 3) := by decide +kernel
theorem dX5_dutiesOf_109 : decode cX5_dutiesOf 109 = .ok (.ifCond .eq 12, 3) := by decide +kernel
theorem dX5_dutiesOf_112 : decode cX5_dutiesOf 112 = .ok (.aload_n 0, 1) := by decide +kernel
theorem dX5_dutiesOf_113 : decode cX5_dutiesOf 113 = .ok (.getfield 33, 3) := by decide +kernel
theorem dX5_dutiesOf_116 : decode cX5_dutiesOf 116 = .ok (.aload 6, 2) := by decide +kernel
theorem dX5_dutiesOf_118 : decode cX5_dutiesOf 118 = .ok (.invokevirtual 128, 3) := by decide +kernel
theorem dX5_dutiesOf_121 : decode cX5_dutiesOf 121 = .ok (.iinc 5 1, 3) := by decide +kernel
theorem dX5_dutiesOf_124 : decode cX5_dutiesOf 124 = .ok (.goto (-40), 3) := by decide +kernel
theorem dX5_dutiesOf_127 : decode cX5_dutiesOf 127 = .ok (.aload_n 0, 1) := by decide +kernel
theorem dX5_dutiesOf_128 : decode cX5_dutiesOf 128 = .ok (.getfield 33, 3) := by decide +kernel
theorem dX5_dutiesOf_131 : decode cX5_dutiesOf 131 = .ok (.areturn, 1) := by decide +kernel
theorem q_X5_33 : zFld RX5 33 5 0 := ⟨RX5, TX5, 8, rfl, by decide, iX5, wf_X5_33, rfl⟩
set_option maxRecDepth 20000 in
theorem wc_X0_clear : Cond.code yX0_clear cX0_clear 2 none ∈ zB := List.mem_filter.mpr ⟨List.mem_of_getElem? (i := 305) (by decide +kernel), by decide +kernel⟩
set_option maxRecDepth 20000 in
theorem wm_X5_117 : Cond.methodLink RX5 117 yX0_clear ∈ zB := List.mem_filter.mpr ⟨List.mem_of_getElem? (i := 302) (by decide +kernel), by decide +kernel⟩
theorem k_X5_117 : zCal RX5 117 yX0_clear cX0_clear 2 none 0 := ⟨wm_X5_117, wi_X0, wc_X0_clear, by decide +kernel, by decide +kernel, by decide +kernel⟩
set_option maxRecDepth 20000 in
theorem wn_X0_clear : Cond.instanceMethod yX0_clear ∈ zB := List.mem_filter.mpr ⟨List.mem_of_getElem? (i := 303) (by decide +kernel), by decide +kernel⟩
set_option maxRecDepth 20000 in
theorem ws_X0_clear : Cond.selects RX0 yX0_clear yX0_clear ∈ zB := List.mem_filter.mpr ⟨List.mem_of_getElem? (i := 304) (by decide +kernel), by decide +kernel⟩
theorem v_X0_clear : zVir yX0_clear 0 := ⟨wn_X0_clear, ws_X0_clear, TX0, 4, rfl⟩
set_option maxRecDepth 20000 in
theorem wc_X4_seats : Cond.code yX4_seats cX4_seats 2 (some .boolean) ∈ zB := List.mem_filter.mpr ⟨List.mem_of_getElem? (i := 309) (by decide +kernel), by decide +kernel⟩
set_option maxRecDepth 20000 in
theorem wm_X5_122 : Cond.methodLink RX5 122 yX4_seats ∈ zB := List.mem_filter.mpr ⟨List.mem_of_getElem? (i := 306) (by decide +kernel), by decide +kernel⟩
theorem k_X5_122 : zCal RX5 122 yX4_seats cX4_seats 2 (some .boolean) 1 := ⟨wm_X5_122, wi_X4, wc_X4_seats, by decide +kernel, by decide +kernel, by decide +kernel⟩
set_option maxRecDepth 20000 in
theorem wn_X4_seats : Cond.instanceMethod yX4_seats ∈ zB := List.mem_filter.mpr ⟨List.mem_of_getElem? (i := 307) (by decide +kernel), by decide +kernel⟩
set_option maxRecDepth 20000 in
theorem ws_X4_seats : Cond.selects RX4 yX4_seats yX4_seats ∈ zB := List.mem_filter.mpr ⟨List.mem_of_getElem? (i := 308) (by decide +kernel), by decide +kernel⟩
theorem v_X4_seats : zVir yX4_seats 4 := ⟨wn_X4_seats, ws_X4_seats, TX4, 9, rfl⟩
set_option maxRecDepth 20000 in
theorem wc_X0_addHandover : Cond.code yX0_addHandover cX0_addHandover 3 none ∈ zB := List.mem_filter.mpr ⟨List.mem_of_getElem? (i := 326) (by decide +kernel), by decide +kernel⟩
set_option maxRecDepth 20000 in
theorem wm_X5_128 : Cond.methodLink RX5 128 yX0_addHandover ∈ zB := List.mem_filter.mpr ⟨List.mem_of_getElem? (i := 323) (by decide +kernel), by decide +kernel⟩
theorem k_X5_128 : zCal RX5 128 yX0_addHandover cX0_addHandover 3 none 1 := ⟨wm_X5_128, wi_X0, wc_X0_addHandover, by decide +kernel, by decide +kernel, by decide +kernel⟩
set_option maxRecDepth 20000 in
theorem wn_X0_addHandover : Cond.instanceMethod yX0_addHandover ∈ zB := List.mem_filter.mpr ⟨List.mem_of_getElem? (i := 324) (by decide +kernel), by decide +kernel⟩
set_option maxRecDepth 20000 in
theorem ws_X0_addHandover : Cond.selects RX0 yX0_addHandover yX0_addHandover ∈ zB := List.mem_filter.mpr ⟨List.mem_of_getElem? (i := 325) (by decide +kernel), by decide +kernel⟩
theorem v_X0_addHandover : zVir yX0_addHandover 0 := ⟨wn_X0_addHandover, ws_X0_addHandover, TX0, 4, rfl⟩
set_option maxRecDepth 20000 in
theorem wc_X0_addSailing : Cond.code yX0_addSailing cX0_addSailing 3 none ∈ zB := List.mem_filter.mpr ⟨List.mem_of_getElem? (i := 318) (by decide +kernel), by decide +kernel⟩
set_option maxRecDepth 20000 in
theorem wm_X5_125 : Cond.methodLink RX5 125 yX0_addSailing ∈ zB := List.mem_filter.mpr ⟨List.mem_of_getElem? (i := 315) (by decide +kernel), by decide +kernel⟩
theorem k_X5_125 : zCal RX5 125 yX0_addSailing cX0_addSailing 3 none 1 := ⟨wm_X5_125, wi_X0, wc_X0_addSailing, by decide +kernel, by decide +kernel, by decide +kernel⟩
set_option maxRecDepth 20000 in
theorem wn_X0_addSailing : Cond.instanceMethod yX0_addSailing ∈ zB := List.mem_filter.mpr ⟨List.mem_of_getElem? (i := 316) (by decide +kernel), by decide +kernel⟩
set_option maxRecDepth 20000 in
theorem ws_X0_addSailing : Cond.selects RX0 yX0_addSailing yX0_addSailing ∈ zB := List.mem_filter.mpr ⟨List.mem_of_getElem? (i := 317) (by decide +kernel), by decide +kernel⟩
theorem v_X0_addSailing : zVir yX0_addSailing 0 := ⟨wn_X0_addSailing, ws_X0_addSailing, TX0, 4, rfl⟩
def rm_X5_dutiesOf : Room := { frames := 3, cells := 0, slots := 0, locals := 62 }
set_option maxHeartbeats 4000000 in
set_option maxRecDepth 20000 in
theorem t_X5_dutiesOf_121 {p : Program} {l : Launch} {e : Env} {s : State} {m : MethodId} {args : Array Value} {below : List Frame} {meth : Method} {c : Code} {G : zG} (Z : zF p s m args c meth cX5_dutiesOf 7 RX5 G) (hr : meth.sig.returnType = (some (.object "FerryCrews$Duties"))) {out : Option Nat × zHp} {r84 : Nat → Int32 → Option Nat → Nat → Int32 → Int32 → zHp → Option (Option Nat × zHp)} (k84 : ∀ {a0 : Nat} {a1 : Int32} {a2 : Option Nat} {a3 : Nat} {a4 : Int32} {a5 : Int32} {h : zHp} {H : Heap} {locs : List Loc} {ls : Array Slot}, r84 a0 a1 a2 a3 a4 a5 h = some out → zE G s h H locs → lv_has ls 7 [(0, .ref a0), (1, .int a1), (2, va_rf a2), (3, .ref a3), (4, .int a4), (5, .int a5)] → W p l e rm_X5_dutiesOf s m args below meth c H locs 0 0 (MQ below (zQq G out.1 out.2) args s 0 0 (zA G)) (F0 m 84 ls [])) {a0 : Nat} {a1 : Int32} {a2 : Option Nat} {a3 : Nat} {a4 : Int32} {a5 : Int32} {h : zHp} {H : Heap} {locs : List Loc} {ls : Array Slot} (hf : f_X5_dutiesOf_121 r84 a0 a1 a2 a3 a4 a5 h = some out) (E : zE G s h H locs) (hl : lv_has ls 7 [(0, .ref a0), (1, .int a1), (2, va_rf a2), (3, .ref a3), (4, .int a4), (5, .int a5)]) : W p l e rm_X5_dutiesOf s m args below meth c H locs 0 0 (MQ below (zQq G out.1 out.2) args s 0 0 (zA G)) (F0 m 121 ls []) := by
  unfold f_X5_dutiesOf_121 at hf
  refine lv_iinc (v := (a5 + 1)) (lv' := [(5, .int (a5 + 1)), (0, .ref a0), (1, .int a1), (2, va_rf a2), (3, .ref a3), (4, .int a4)]) Z.x Z.b dX5_dutiesOf_121 hl (k := 5) rfl rfl (by decide) (by cases a2 <;> rfl) (fun ls hl => ?_)
  refine lv_goto (tgt := 84) Z.x Z.b dX5_dutiesOf_124 (by decide) ?_
  exact k84 hf E (lv_sub hl [1, 2, 3, 4, 5, 0] rfl)
set_option maxHeartbeats 4000000 in
set_option maxRecDepth 20000 in
theorem t_X5_dutiesOf_112 {p : Program} {l : Launch} {e : Env} {s : State} {m : MethodId} {args : Array Value} {below : List Frame} {meth : Method} {c : Code} {G : zG} (Z : zF p s m args c meth cX5_dutiesOf 7 RX5 G) (hr : meth.sig.returnType = (some (.object "FerryCrews$Duties"))) {out : Option Nat × zHp} {r84 : Nat → Int32 → Option Nat → Nat → Int32 → Int32 → zHp → Option (Option Nat × zHp)} (k84 : ∀ {a0 : Nat} {a1 : Int32} {a2 : Option Nat} {a3 : Nat} {a4 : Int32} {a5 : Int32} {h : zHp} {H : Heap} {locs : List Loc} {ls : Array Slot}, r84 a0 a1 a2 a3 a4 a5 h = some out → zE G s h H locs → lv_has ls 7 [(0, .ref a0), (1, .int a1), (2, va_rf a2), (3, .ref a3), (4, .int a4), (5, .int a5)] → W p l e rm_X5_dutiesOf s m args below meth c H locs 0 0 (MQ below (zQq G out.1 out.2) args s 0 0 (zA G)) (F0 m 84 ls [])) {a0 : Nat} {a1 : Int32} {a2 : Option Nat} {a3 : Nat} {a4 : Int32} {a5 : Int32} {a6 : Nat} {h : zHp} {H : Heap} {locs : List Loc} {ls : Array Slot} (hf : f_X5_dutiesOf_112 r84 a0 a1 a2 a3 a4 a5 a6 h = some out) (E : zE G s h H locs) (hl : lv_has ls 7 [(0, .ref a0), (1, .int a1), (2, va_rf a2), (3, .ref a3), (4, .int a4), (5, .int a5), (6, .ref a6)]) : W p l e rm_X5_dutiesOf s m args below meth c H locs 0 0 (MQ below (zQq G out.1 out.2) args s 0 0 (zA G)) (F0 m 112 ls []) := by
  unfold f_X5_dutiesOf_112 at hf
  refine lv_aload_n Z.x Z.b dX5_dutiesOf_112 rfl (lv_at hl 0 rfl) ?_
  refine z_getR Z E q_X5_33 dX5_dutiesOf_113 hf (fun v1 hf => ?_)
  refine lv_aload Z.x Z.b dX5_dutiesOf_116 (lv_at hl 6 rfl) ?_
  refine z_Vv (As := [.ref a6]) Z E hl.1 k_X5_128 v_X0_addHandover hf (fun h' e => c_X0_addHandover l G h h' v1 a6 e) rfl rfl (Nat.le_of_ble_eq_true rfl) (zRm_of rfl (Nat.zero_le _) (Nat.zero_le _)) dX5_dutiesOf_118 (fun h2 H locs hf E => ?_)
  exact t_X5_dutiesOf_121 Z hr k84 hf E (lv_sub hl [0, 1, 2, 3, 4, 5] rfl)
set_option maxHeartbeats 4000000 in
set_option maxRecDepth 20000 in
theorem t_X5_dutiesOf_84_body {p : Program} {l : Launch} {e : Env} {s : State} {m : MethodId} {args : Array Value} {below : List Frame} {meth : Method} {c : Code} {G : zG} (Z : zF p s m args c meth cX5_dutiesOf 7 RX5 G) (hr : meth.sig.returnType = (some (.object "FerryCrews$Duties"))) {out : Option Nat × zHp} {r84 : Nat → Int32 → Option Nat → Nat → Int32 → Int32 → zHp → Option (Option Nat × zHp)} (k84 : ∀ {a0 : Nat} {a1 : Int32} {a2 : Option Nat} {a3 : Nat} {a4 : Int32} {a5 : Int32} {h : zHp} {H : Heap} {locs : List Loc} {ls : Array Slot}, r84 a0 a1 a2 a3 a4 a5 h = some out → zE G s h H locs → lv_has ls 7 [(0, .ref a0), (1, .int a1), (2, va_rf a2), (3, .ref a3), (4, .int a4), (5, .int a5)] → W p l e rm_X5_dutiesOf s m args below meth c H locs 0 0 (MQ below (zQq G out.1 out.2) args s 0 0 (zA G)) (F0 m 84 ls [])) {a0 : Nat} {a1 : Int32} {a2 : Option Nat} {a3 : Nat} {a4 : Int32} {a5 : Int32} {h : zHp} {H : Heap} {locs : List Loc} {ls : Array Slot} (hf : f_X5_dutiesOf_84_body r84 a0 a1 a2 a3 a4 a5 h = some out) (E : zE G s h H locs) (hl : lv_has ls 7 [(0, .ref a0), (1, .int a1), (2, va_rf a2), (3, .ref a3), (4, .int a4), (5, .int a5)]) : W p l e rm_X5_dutiesOf s m args below meth c H locs 0 0 (MQ below (zQq G out.1 out.2) args s 0 0 (zA G)) (F0 m 84 ls []) := by
  unfold f_X5_dutiesOf_84_body at hf
  refine lv_iload Z.x Z.b dX5_dutiesOf_84 (lv_at hl 5 rfl) ?_
  refine lv_iload Z.x Z.b dX5_dutiesOf_86 (lv_at hl 4 rfl) ?_
  refine lv_icmp_ge (tgt := 127) Z.x Z.b dX5_dutiesOf_88 (by decide) (fun c => ?_) (fun c => ?_)
  · have hf := zit hf c
    refine lv_aload_n Z.x Z.b dX5_dutiesOf_127 rfl (lv_at hl 0 rfl) ?_
    refine z_getR Z E q_X5_33 dX5_dutiesOf_128 hf (fun v1 hf => ?_)
    exact z_aret (v := (some v1)) Z E hr dX5_dutiesOf_131 hf
  · have hf := zif_ hf c
    refine lv_aload_n Z.x Z.b dX5_dutiesOf_91 rfl (lv_at hl 3 rfl) ?_
    refine lv_iload Z.x Z.b dX5_dutiesOf_92 (lv_at hl 5 rfl) ?_
    refine z_aald (kd := 2) Z E rfl dX5_dutiesOf_94 hf (fun v2 hf => ?_)
    refine lv_astore (lv' := [(6, .ref v2), (0, .ref a0), (1, .int a1), (2, va_rf a2), (3, .ref a3), (4, .int a4), (5, .int a5)]) Z.x Z.b dX5_dutiesOf_95 hl (by decide) (by cases a2 <;> rfl) (fun ls hl => ?_)
    refine lv_aload Z.x Z.b dX5_dutiesOf_97 (lv_at hl 0 rfl) ?_
    refine z_aload_n Z (x := a2) dX5_dutiesOf_99 rfl (lv_at hl 3 rfl) ?_
    refine lv_acmp_eq (rx := (some v2)) (ry := a2) (tgt := 112) Z.x Z.b dX5_dutiesOf_100 (by decide) (fun c => ?_) (fun c => ?_)
    · have hf := zit hf c
      exact t_X5_dutiesOf_112 Z hr k84 hf E (lv_sub hl [1, 2, 3, 4, 5, 6, 0] rfl)
    · have hf := zif_ hf c
      refine lv_aload Z.x Z.b dX5_dutiesOf_103 (lv_at hl 0 rfl) ?_
      refine lv_iload_n Z.x Z.b dX5_dutiesOf_105 rfl (lv_at hl 2 rfl) ?_
      refine z_Vi (As := [.int a1]) Z E hl.1 k_X5_122 v_X4_seats hf (fun r h' e => c_X4_seats l G h h' v2 a1 r e) rfl rfl (Nat.le_of_ble_eq_true rfl) (zRm_of rfl (Nat.zero_le _) (Nat.zero_le _)) dX5_dutiesOf_106 (fun v3 h4 H locs hf E => ?_)
      refine lv_if_eq (tgt := 121) Z.x Z.b dX5_dutiesOf_109 (by decide) (fun c => ?_) (fun c => ?_)
      · have hf := zit hf c
        exact t_X5_dutiesOf_121 Z hr k84 hf E (lv_sub hl [1, 2, 3, 4, 5, 6] rfl)
      · have hf := zif_ hf c
        exact t_X5_dutiesOf_112 Z hr k84 hf E (lv_sub hl [1, 2, 3, 4, 5, 6, 0] rfl)
theorem t_X5_dutiesOf_84 {p : Program} {l : Launch} {e : Env} {s : State} {m : MethodId} {args : Array Value} {below : List Frame} {meth : Method} {c : Code} {G : zG} (Z : zF p s m args c meth cX5_dutiesOf 7 RX5 G) (hr : meth.sig.returnType = (some (.object "FerryCrews$Duties"))) {out : Option Nat × zHp} : ∀ (n : Nat), ∀ {a0 : Nat} {a1 : Int32} {a2 : Option Nat} {a3 : Nat} {a4 : Int32} {a5 : Int32} {h : zHp} {H : Heap} {locs : List Loc} {ls : Array Slot}, f_X5_dutiesOf_84 n a0 a1 a2 a3 a4 a5 h = some out → zE G s h H locs → lv_has ls 7 [(0, .ref a0), (1, .int a1), (2, va_rf a2), (3, .ref a3), (4, .int a4), (5, .int a5)] → W p l e rm_X5_dutiesOf s m args below meth c H locs 0 0 (MQ below (zQq G out.1 out.2) args s 0 0 (zA G)) (F0 m 84 ls [])
  | 0 => fun hf => by cases hf
  | n + 1 => fun hf E hl => t_X5_dutiesOf_84_body Z hr (r84 := f_X5_dutiesOf_84 n) (t_X5_dutiesOf_84 Z hr n) hf E hl
set_option maxHeartbeats 4000000 in
set_option maxRecDepth 20000 in
theorem t_X5_dutiesOf_56 {p : Program} {l : Launch} {e : Env} {s : State} {m : MethodId} {args : Array Value} {below : List Frame} {meth : Method} {c : Code} {G : zG} (Z : zF p s m args c meth cX5_dutiesOf 7 RX5 G) (hr : meth.sig.returnType = (some (.object "FerryCrews$Duties"))) {out : Option Nat × zHp} {r19 : Nat → Int32 → Option Nat → Nat → Int32 → Int32 → zHp → Option (Option Nat × zHp)} (k19 : ∀ {a0 : Nat} {a1 : Int32} {a2 : Option Nat} {a3 : Nat} {a4 : Int32} {a5 : Int32} {h : zHp} {H : Heap} {locs : List Loc} {ls : Array Slot}, r19 a0 a1 a2 a3 a4 a5 h = some out → zE G s h H locs → lv_has ls 7 [(0, .ref a0), (1, .int a1), (2, va_rf a2), (3, .ref a3), (4, .int a4), (5, .int a5)] → W p l e rm_X5_dutiesOf s m args below meth c H locs 0 0 (MQ below (zQq G out.1 out.2) args s 0 0 (zA G)) (F0 m 19 ls [])) {a0 : Nat} {a1 : Int32} {a2 : Option Nat} {a3 : Nat} {a4 : Int32} {a5 : Int32} {h : zHp} {H : Heap} {locs : List Loc} {ls : Array Slot} (hf : f_X5_dutiesOf_56 r19 a0 a1 a2 a3 a4 a5 h = some out) (E : zE G s h H locs) (hl : lv_has ls 7 [(0, .ref a0), (1, .int a1), (2, va_rf a2), (3, .ref a3), (4, .int a4), (5, .int a5)]) : W p l e rm_X5_dutiesOf s m args below meth c H locs 0 0 (MQ below (zQq G out.1 out.2) args s 0 0 (zA G)) (F0 m 56 ls []) := by
  unfold f_X5_dutiesOf_56 at hf
  refine lv_iinc (v := (a5 + 1)) (lv' := [(5, .int (a5 + 1)), (0, .ref a0), (1, .int a1), (2, va_rf a2), (3, .ref a3), (4, .int a4)]) Z.x Z.b dX5_dutiesOf_56 hl (k := 5) rfl rfl (by decide) (by cases a2 <;> rfl) (fun ls hl => ?_)
  refine lv_goto (tgt := 19) Z.x Z.b dX5_dutiesOf_59 (by decide) ?_
  exact k19 hf E (lv_sub hl [1, 2, 3, 4, 5, 0] rfl)
set_option maxHeartbeats 4000000 in
set_option maxRecDepth 20000 in
theorem t_X5_dutiesOf_47 {p : Program} {l : Launch} {e : Env} {s : State} {m : MethodId} {args : Array Value} {below : List Frame} {meth : Method} {c : Code} {G : zG} (Z : zF p s m args c meth cX5_dutiesOf 7 RX5 G) (hr : meth.sig.returnType = (some (.object "FerryCrews$Duties"))) {out : Option Nat × zHp} {r19 : Nat → Int32 → Option Nat → Nat → Int32 → Int32 → zHp → Option (Option Nat × zHp)} (k19 : ∀ {a0 : Nat} {a1 : Int32} {a2 : Option Nat} {a3 : Nat} {a4 : Int32} {a5 : Int32} {h : zHp} {H : Heap} {locs : List Loc} {ls : Array Slot}, r19 a0 a1 a2 a3 a4 a5 h = some out → zE G s h H locs → lv_has ls 7 [(0, .ref a0), (1, .int a1), (2, va_rf a2), (3, .ref a3), (4, .int a4), (5, .int a5)] → W p l e rm_X5_dutiesOf s m args below meth c H locs 0 0 (MQ below (zQq G out.1 out.2) args s 0 0 (zA G)) (F0 m 19 ls [])) {a0 : Nat} {a1 : Int32} {a2 : Option Nat} {a3 : Nat} {a4 : Int32} {a5 : Int32} {a6 : Nat} {h : zHp} {H : Heap} {locs : List Loc} {ls : Array Slot} (hf : f_X5_dutiesOf_47 r19 a0 a1 a2 a3 a4 a5 a6 h = some out) (E : zE G s h H locs) (hl : lv_has ls 7 [(0, .ref a0), (1, .int a1), (2, va_rf a2), (3, .ref a3), (4, .int a4), (5, .int a5), (6, .ref a6)]) : W p l e rm_X5_dutiesOf s m args below meth c H locs 0 0 (MQ below (zQq G out.1 out.2) args s 0 0 (zA G)) (F0 m 47 ls []) := by
  unfold f_X5_dutiesOf_47 at hf
  refine lv_aload_n Z.x Z.b dX5_dutiesOf_47 rfl (lv_at hl 0 rfl) ?_
  refine z_getR Z E q_X5_33 dX5_dutiesOf_48 hf (fun v1 hf => ?_)
  refine lv_aload Z.x Z.b dX5_dutiesOf_51 (lv_at hl 6 rfl) ?_
  refine z_Vv (As := [.ref a6]) Z E hl.1 k_X5_125 v_X0_addSailing hf (fun h' e => c_X0_addSailing l G h h' v1 a6 e) rfl rfl (Nat.le_of_ble_eq_true rfl) (zRm_of rfl (Nat.zero_le _) (Nat.zero_le _)) dX5_dutiesOf_53 (fun h2 H locs hf E => ?_)
  exact t_X5_dutiesOf_56 Z hr k19 hf E (lv_sub hl [0, 1, 2, 3, 4, 5] rfl)
set_option maxHeartbeats 4000000 in
set_option maxRecDepth 20000 in
theorem t_X5_dutiesOf_19_body {p : Program} {l : Launch} {e : Env} {s : State} {m : MethodId} {args : Array Value} {below : List Frame} {meth : Method} {c : Code} {G : zG} (Z : zF p s m args c meth cX5_dutiesOf 7 RX5 G) (hr : meth.sig.returnType = (some (.object "FerryCrews$Duties"))) {out : Option Nat × zHp} {r19 : Nat → Int32 → Option Nat → Nat → Int32 → Int32 → zHp → Option (Option Nat × zHp)} (k19 : ∀ {a0 : Nat} {a1 : Int32} {a2 : Option Nat} {a3 : Nat} {a4 : Int32} {a5 : Int32} {h : zHp} {H : Heap} {locs : List Loc} {ls : Array Slot}, r19 a0 a1 a2 a3 a4 a5 h = some out → zE G s h H locs → lv_has ls 7 [(0, .ref a0), (1, .int a1), (2, va_rf a2), (3, .ref a3), (4, .int a4), (5, .int a5)] → W p l e rm_X5_dutiesOf s m args below meth c H locs 0 0 (MQ below (zQq G out.1 out.2) args s 0 0 (zA G)) (F0 m 19 ls [])) {a0 : Nat} {a1 : Int32} {a2 : Option Nat} {a3 : Nat} {a4 : Int32} {a5 : Int32} {h : zHp} {H : Heap} {locs : List Loc} {ls : Array Slot} (hf : f_X5_dutiesOf_19_body r19 a0 a1 a2 a3 a4 a5 h = some out) (E : zE G s h H locs) (hl : lv_has ls 7 [(0, .ref a0), (1, .int a1), (2, va_rf a2), (3, .ref a3), (4, .int a4), (5, .int a5)]) : W p l e rm_X5_dutiesOf s m args below meth c H locs 0 0 (MQ below (zQq G out.1 out.2) args s 0 0 (zA G)) (F0 m 19 ls []) := by
  unfold f_X5_dutiesOf_19_body at hf
  refine lv_iload Z.x Z.b dX5_dutiesOf_19 (lv_at hl 5 rfl) ?_
  refine lv_iload Z.x Z.b dX5_dutiesOf_21 (lv_at hl 4 rfl) ?_
  refine lv_icmp_ge (tgt := 62) Z.x Z.b dX5_dutiesOf_23 (by decide) (fun c => ?_) (fun c => ?_)
  · have hf := zit hf c
    refine lv_aload_n Z.x Z.b dX5_dutiesOf_62 rfl (lv_at hl 0 rfl) ?_
    refine z_getR Z E q_X5_9 dX5_dutiesOf_63 hf (fun v1 hf => ?_)
    refine lv_iconst (v := 3) Z.x Z.b dX5_dutiesOf_66 (by decide) ?_
    refine z_iald Z E dX5_dutiesOf_67 hf (fun v2 hf => ?_)
    refine lv_iconst (v := 1) Z.x Z.b dX5_dutiesOf_68 (by decide) ?_
    refine lv_icmp_ne (tgt := 127) Z.x Z.b dX5_dutiesOf_69 (by decide) (fun c => ?_) (fun c => ?_)
    · have hf := zif_ hf c
      refine lv_aload_n Z.x Z.b dX5_dutiesOf_127 rfl (lv_at hl 0 rfl) ?_
      refine z_getR Z E q_X5_33 dX5_dutiesOf_128 hf (fun v3 hf => ?_)
      exact z_aret (v := (some v3)) Z E hr dX5_dutiesOf_131 hf
    · have hf := zit hf c
      refine lv_aload_n Z.x Z.b dX5_dutiesOf_72 rfl (lv_at hl 0 rfl) ?_
      refine z_getR Z E q_X5_17 dX5_dutiesOf_73 hf (fun v4 hf => ?_)
      refine lv_astore_n (lv' := [(3, .ref v4), (0, .ref a0), (1, .int a1), (2, va_rf a2), (4, .int a4), (5, .int a5)]) Z.x Z.b dX5_dutiesOf_76 rfl hl (by decide) (by cases a2 <;> rfl) (fun ls hl => ?_)
      refine lv_aload_n Z.x Z.b dX5_dutiesOf_77 rfl (lv_at hl 0 rfl) ?_
      refine z_alenR (kd := 2) Z E rfl dX5_dutiesOf_78 hf (fun v5 hf => ?_)
      refine lv_istore (lv' := [(4, .int v5), (3, .ref v4), (0, .ref a0), (1, .int a1), (2, va_rf a2), (5, .int a5)]) Z.x Z.b dX5_dutiesOf_79 hl (by decide) (by cases a2 <;> rfl) (fun ls hl => ?_)
      refine lv_iconst (v := 0) Z.x Z.b dX5_dutiesOf_81 (by decide) ?_
      refine lv_istore (lv' := [(5, .int 0), (4, .int v5), (3, .ref v4), (0, .ref a0), (1, .int a1), (2, va_rf a2)]) Z.x Z.b dX5_dutiesOf_82 hl (by decide) (by cases a2 <;> rfl) (fun ls hl => ?_)
      exact t_X5_dutiesOf_84 Z hr zN hf E (lv_sub hl [3, 4, 5, 2, 1, 0] rfl)
  · have hf := zif_ hf c
    refine lv_aload_n Z.x Z.b dX5_dutiesOf_26 rfl (lv_at hl 3 rfl) ?_
    refine lv_iload Z.x Z.b dX5_dutiesOf_27 (lv_at hl 5 rfl) ?_
    refine z_aald (kd := 2) Z E rfl dX5_dutiesOf_29 hf (fun v6 hf => ?_)
    refine lv_astore (lv' := [(6, .ref v6), (0, .ref a0), (1, .int a1), (2, va_rf a2), (3, .ref a3), (4, .int a4), (5, .int a5)]) Z.x Z.b dX5_dutiesOf_30 hl (by decide) (by cases a2 <;> rfl) (fun ls hl => ?_)
    refine lv_aload Z.x Z.b dX5_dutiesOf_32 (lv_at hl 0 rfl) ?_
    refine z_aload_n Z (x := a2) dX5_dutiesOf_34 rfl (lv_at hl 3 rfl) ?_
    refine lv_acmp_eq (rx := (some v6)) (ry := a2) (tgt := 47) Z.x Z.b dX5_dutiesOf_35 (by decide) (fun c => ?_) (fun c => ?_)
    · have hf := zit hf c
      exact t_X5_dutiesOf_47 Z hr k19 hf E (lv_sub hl [1, 2, 3, 4, 5, 6, 0] rfl)
    · have hf := zif_ hf c
      refine lv_aload Z.x Z.b dX5_dutiesOf_38 (lv_at hl 0 rfl) ?_
      refine lv_iload_n Z.x Z.b dX5_dutiesOf_40 rfl (lv_at hl 2 rfl) ?_
      refine z_Vi (As := [.int a1]) Z E hl.1 k_X5_122 v_X4_seats hf (fun r h' e => c_X4_seats l G h h' v6 a1 r e) rfl rfl (Nat.le_of_ble_eq_true rfl) (zRm_of rfl (Nat.zero_le _) (Nat.zero_le _)) dX5_dutiesOf_41 (fun v7 h8 H locs hf E => ?_)
      refine lv_if_eq (tgt := 56) Z.x Z.b dX5_dutiesOf_44 (by decide) (fun c => ?_) (fun c => ?_)
      · have hf := zit hf c
        exact t_X5_dutiesOf_56 Z hr k19 hf E (lv_sub hl [1, 2, 3, 4, 5, 6] rfl)
      · have hf := zif_ hf c
        exact t_X5_dutiesOf_47 Z hr k19 hf E (lv_sub hl [1, 2, 3, 4, 5, 6, 0] rfl)
theorem t_X5_dutiesOf_19 {p : Program} {l : Launch} {e : Env} {s : State} {m : MethodId} {args : Array Value} {below : List Frame} {meth : Method} {c : Code} {G : zG} (Z : zF p s m args c meth cX5_dutiesOf 7 RX5 G) (hr : meth.sig.returnType = (some (.object "FerryCrews$Duties"))) {out : Option Nat × zHp} : ∀ (n : Nat), ∀ {a0 : Nat} {a1 : Int32} {a2 : Option Nat} {a3 : Nat} {a4 : Int32} {a5 : Int32} {h : zHp} {H : Heap} {locs : List Loc} {ls : Array Slot}, f_X5_dutiesOf_19 n a0 a1 a2 a3 a4 a5 h = some out → zE G s h H locs → lv_has ls 7 [(0, .ref a0), (1, .int a1), (2, va_rf a2), (3, .ref a3), (4, .int a4), (5, .int a5)] → W p l e rm_X5_dutiesOf s m args below meth c H locs 0 0 (MQ below (zQq G out.1 out.2) args s 0 0 (zA G)) (F0 m 19 ls [])
  | 0 => fun hf => by cases hf
  | n + 1 => fun hf E hl => t_X5_dutiesOf_19_body Z hr (r19 := f_X5_dutiesOf_19 n) (t_X5_dutiesOf_19 Z hr n) hf E hl
set_option maxHeartbeats 4000000 in
set_option maxRecDepth 20000 in
theorem t_X5_dutiesOf {p : Program} {l : Launch} {e : Env} {s : State} {m : MethodId} {args : Array Value} {below : List Frame} {meth : Method} {c : Code} {G : zG} (Z : zF p s m args c meth cX5_dutiesOf 7 RX5 G) (hr : meth.sig.returnType = (some (.object "FerryCrews$Duties"))) {out : Option Nat × zHp} {a0 : Nat} {a1 : Int32} {a2 : Option Nat} {h : zHp} {H : Heap} {locs : List Loc} {ls : Array Slot} (hf : f_X5_dutiesOf a0 a1 a2 h = some out) (E : zE G s h H locs) (hl : lv_has ls 7 [(0, .ref a0), (1, .int a1), (2, va_rf a2)]) : W p l e rm_X5_dutiesOf s m args below meth c H locs 0 0 (MQ below (zQq G out.1 out.2) args s 0 0 (zA G)) (F0 m 0 ls []) := by
  unfold f_X5_dutiesOf at hf
  refine lv_aload_n Z.x Z.b dX5_dutiesOf_0 rfl (lv_at hl 0 rfl) ?_
  refine z_getR Z E q_X5_33 dX5_dutiesOf_1 hf (fun v1 hf => ?_)
  refine z_Vv (As := []) Z E hl.1 k_X5_117 v_X0_clear hf (fun h' e => c_X0_clear l G h h' v1 e) rfl rfl (Nat.le_of_ble_eq_true rfl) (zRm_of rfl (Nat.zero_le _) (Nat.zero_le _)) dX5_dutiesOf_4 (fun h2 H locs hf E => ?_)
  refine lv_aload_n Z.x Z.b dX5_dutiesOf_7 rfl (lv_at hl 0 rfl) ?_
  refine z_getR Z E q_X5_17 dX5_dutiesOf_8 hf (fun v3 hf => ?_)
  refine lv_astore_n (lv' := [(3, .ref v3), (0, .ref a0), (1, .int a1), (2, va_rf a2)]) Z.x Z.b dX5_dutiesOf_11 rfl hl (by decide) (by cases a2 <;> rfl) (fun ls hl => ?_)
  refine lv_aload_n Z.x Z.b dX5_dutiesOf_12 rfl (lv_at hl 0 rfl) ?_
  refine z_alenR (kd := 2) Z E rfl dX5_dutiesOf_13 hf (fun v4 hf => ?_)
  refine lv_istore (lv' := [(4, .int v4), (3, .ref v3), (0, .ref a0), (1, .int a1), (2, va_rf a2)]) Z.x Z.b dX5_dutiesOf_14 hl (by decide) (by cases a2 <;> rfl) (fun ls hl => ?_)
  refine lv_iconst (v := 0) Z.x Z.b dX5_dutiesOf_16 (by decide) ?_
  refine lv_istore (lv' := [(5, .int 0), (4, .int v4), (3, .ref v3), (0, .ref a0), (1, .int a1), (2, va_rf a2)]) Z.x Z.b dX5_dutiesOf_17 hl (by decide) (by cases a2 <;> rfl) (fun ls hl => ?_)
  exact t_X5_dutiesOf_19 Z hr zN hf E (lv_sub hl [3, 4, 5, 2, 1, 0] rfl)
set_option maxHeartbeats 4000000 in
set_option maxRecDepth 20000 in
theorem c_X5_dutiesOf (l : Launch) (G : zG) (h : zHp) (h' : zHp) (a0 : Nat) (a1 : Int32) (a2 : Option Nat) (r : Option Nat) (hf : f_X5_dutiesOf a0 a1 a2 h = some (r, h')) : zM0 l yX5_dutiesOf cX5_dutiesOf 7 (some (.object "FerryCrews$Duties")) rm_X5_dutiesOf G [.ref a0, .int a1, va_rf a2] h (zQq G r h') := by
  refine Met.ofW (cc := cX5_dutiesOf) (maxL := 7) (ret := (some (.object "FerryCrews$Duties"))) (by decide) rfl ?_
  intro p e s m args below meth c s₁ B hml hv
  obtain ⟨rfl, hW⟩ := hv
  obtain ⟨Z, E, hr⟩ := zEnter (own := RX5) B hml rfl hW
  have hl := lv_entry ([.ref a0, .int a1, va_rf a2]) (n := 7) (by cases a2 <;> exact Nat.le_of_ble_eq_true rfl)
  rw [lg_entry_eq]
  generalize (lg_sl ([.ref a0, .int a1, va_rf a2]) ++ List.replicate (7 - (lg_sl ([.ref a0, .int a1, va_rf a2])).length) Slot.unset).toArray = ls at hl ⊢
  have hl : lv_has ls 7 [(0, .ref a0), (1, .int a1), (2, va_rf a2)] := by cases a2 <;> exact hl
  exact t_X5_dutiesOf (out := (r, h')) Z hr hf E hl
/-! FerryCrews$State.restsHold(LFerryCrews$Duties;II)Z -/
theorem dX5_restsHold_0 : decode cX5_restsHold 0 = .ok (.iconst 0, 1) := by decide +kernel
theorem dX5_restsHold_1 : decode cX5_restsHold 1 = .ok (.iload_n 2, 1) := by decide +kernel
theorem dX5_restsHold_2 : decode cX5_restsHold 2 = .ok (.bipush 24, 2) := by decide +kernel
theorem dX5_restsHold_4 : decode cX5_restsHold 4 = .ok (.isub, 1) := by decide +kernel
theorem dX5_restsHold_5 : decode cX5_restsHold 5 = .ok (.iconst 1, 1) := by decide +kernel
theorem dX5_restsHold_6 : decode cX5_restsHold 6 = .ok (.iadd, 1) := by decide +kernel
theorem dX5_restsHold_7 : decode cX5_restsHold 7 = .ok (.invokestatic 131, 3) := by decide +kernel
theorem dX5_restsHold_10 : decode cX5_restsHold 10 = .ok (.istore 4, 2) := by decide +kernel
theorem dX5_restsHold_12 : decode cX5_restsHold 12 = .ok (.iconst 0, 1) := by decide +kernel
theorem dX5_restsHold_13 : decode cX5_restsHold 13 = .ok (.iload_n 2, 1) := by decide +kernel
theorem dX5_restsHold_14 : decode cX5_restsHold 14 = .ok (.sipush 168, 3) := by decide +kernel
theorem dX5_restsHold_17 : decode cX5_restsHold 17 = .ok (.isub, 1) := by decide +kernel
theorem dX5_restsHold_18 : decode cX5_restsHold 18 = .ok (.iconst 1, 1) := by decide +kernel
theorem dX5_restsHold_19 : decode cX5_restsHold 19 = .ok (.iadd, 1) := by decide +kernel
theorem dX5_restsHold_20 : decode cX5_restsHold 20 = .ok (.invokestatic 131, 3) := by decide +kernel
theorem dX5_restsHold_23 : decode cX5_restsHold 23 = .ok (.istore 5, 2) := by decide +kernel
theorem dX5_restsHold_25 : decode cX5_restsHold 25 = .ok (.aload_n 1, 1) := by decide +kernel
theorem dX5_restsHold_26 : decode cX5_restsHold 26 = .ok (.getfield 136, 3) := by decide +kernel
theorem dX5_restsHold_29 : decode cX5_restsHold 29 = .ok (.ifCond .ne 60, 3) := by decide +kernel
theorem dX5_restsHold_32 : decode cX5_restsHold 32 = .ok (.aload_n 1, 1) := by decide +kernel
theorem dX5_restsHold_33 : decode cX5_restsHold 33 = .ok (.aload_n 0, 1) := by decide +kernel
theorem dX5_restsHold_34 : decode cX5_restsHold 34 = .ok (.getfield 9, 3) := by decide +kernel
theorem dX5_restsHold_37 : decode cX5_restsHold 37 = .ok (.iconst 0, 1) := by decide +kernel
theorem dX5_restsHold_38 : decode cX5_restsHold 38 = .ok (.iaload, 1) := by decide +kernel
theorem dX5_restsHold_39 : decode cX5_restsHold 39 = .ok (.bipush 24, 2) := by decide +kernel
theorem dX5_restsHold_41 : decode cX5_restsHold 41 = .ok (.iload 4, 2) := by decide +kernel
theorem dX5_restsHold_43 : decode cX5_restsHold 43 = .ok (.iload_n 3, 1) := by decide +kernel
theorem dX5_restsHold_44 : decode cX5_restsHold 44 = .ok (.invokevirtual 140, 3) := by decide +kernel
theorem dX5_restsHold_47 : decode cX5_restsHold 47 = .ok (.ifCond .eq 42, 3) := by decide +kernel
theorem dX5_restsHold_50 : decode cX5_restsHold 50 = .ok (.aload_n 1, 1) := by decide +kernel
theorem dX5_restsHold_51 : decode cX5_restsHold 51 = .ok (.aload_n 0, 1) := by decide +kernel
theorem dX5_restsHold_52 : decode cX5_restsHold 52 = .ok (.getfield 9, 3) := by decide +kernel
theorem dX5_restsHold_55 : decode cX5_restsHold 55 = .ok (.iconst 1, 1) := by decide +kernel
theorem dX5_restsHold_56 : decode cX5_restsHold 56 = .ok (.iaload, 1) := by decide +kernel
theorem dX5_restsHold_57 : decode cX5_restsHold 57 = .ok (.iload 4, 2) := by decide +kernel
theorem dX5_restsHold_59 : decode cX5_restsHold 59 = .ok (.iload_n 3, 1) := by decide +kernel
theorem dX5_restsHold_60 : decode cX5_restsHold 60 = .ok (.invokevirtual 144, 3) := by decide +kernel
theorem dX5_restsHold_63 : decode cX5_restsHold 63 = .ok (.ifCond .eq 26, 3) := by decide +kernel
theorem dX5_restsHold_66 : decode cX5_restsHold 66 = .ok (.aload_n 1, 1) := by decide +kernel
theorem dX5_restsHold_67 : decode cX5_restsHold 67 = .ok (.aload_n 0, 1) := by decide +kernel
theorem dX5_restsHold_68 : decode cX5_restsHold 68 = .ok (.getfield 9, 3) := by decide +kernel
theorem dX5_restsHold_71 : decode cX5_restsHold 71 = .ok (.iconst 2, 1) := by decide +kernel
theorem dX5_restsHold_72 : decode cX5_restsHold 72 = .ok (.iaload, 1) := by decide +kernel
theorem dX5_restsHold_73 : decode cX5_restsHold 73 = .ok (.sipush 168, 3) := by decide +kernel
theorem dX5_restsHold_76 : decode cX5_restsHold 76 = .ok (.iload 5, 2) := by decide +kernel
theorem dX5_restsHold_78 : decode cX5_restsHold 78 = .ok (.iload_n 3, 1) := by decide +kernel
theorem dX5_restsHold_79 : decode cX5_restsHold 79 = .ok (.invokevirtual 140, 3) := by decide +kernel
theorem dX5_restsHold_82 : decode cX5_restsHold 82 = .ok (.ifCond .eq 7, 3) := by decide +kernel
theorem dX5_restsHold_85 : decode cX5_restsHold 85 = .ok (.iconst 1, 1) := by decide +kernel
theorem dX5_restsHold_86 : decode cX5_restsHold 86 = .ok (.goto 4, 3) := by decide +kernel
theorem dX5_restsHold_89 : decode cX5_restsHold 89 = .ok (.iconst 0, 1) := by decide +kernel
theorem dX5_restsHold_90 : decode cX5_restsHold 90 = .ok (.ireturn, 1) := by decide +kernel
set_option maxRecDepth 20000 in
theorem wm_X5_131 : Cond.methodLink RX5 131 Lib.Math.max.name ∈ zB := List.mem_filter.mpr ⟨List.mem_of_getElem? (i := 382) (by decide +kernel), by decide +kernel⟩
set_option maxRecDepth 20000 in
theorem wx_stat : Cond.static Lib.Math.max.name ∈ zB := List.mem_filter.mpr ⟨List.mem_of_getElem? (i := 383) (by decide +kernel), by decide +kernel⟩
set_option maxRecDepth 20000 in
theorem wi_math : Cond.initialized "java/lang/Math" ∈ zB := List.mem_filter.mpr ⟨List.mem_of_getElem? (i := 15) (by decide +kernel), by decide +kernel⟩
set_option maxRecDepth 20000 in
theorem wx_code : Cond.code Lib.Math.max.name Lib.Math.max.code 2 (some .int) ∈ zB := List.mem_filter.mpr ⟨List.mem_of_getElem? (i := 384) (by decide +kernel), by decide +kernel⟩
set_option maxRecDepth 20000 in
theorem wf_X5_136 : Cond.fieldLink RX5 136 RX0 "collide" "Z" ∈ zB := List.mem_filter.mpr ⟨List.mem_of_getElem? (i := 37) (by decide +kernel), by decide +kernel⟩
theorem q_X5_136 : zFld RX5 136 0 3 := ⟨RX0, TX0, 4, rfl, by decide, iX0, wf_X5_136, rfl⟩
set_option maxRecDepth 20000 in
theorem wc_X0_everyRowHas : Cond.code yX0_everyRowHas cX0_everyRowHas 7 (some .boolean) ∈ zB := List.mem_filter.mpr ⟨List.mem_of_getElem? (i := 420) (by decide +kernel), by decide +kernel⟩
set_option maxRecDepth 20000 in
theorem wm_X5_140 : Cond.methodLink RX5 140 yX0_everyRowHas ∈ zB := List.mem_filter.mpr ⟨List.mem_of_getElem? (i := 417) (by decide +kernel), by decide +kernel⟩
theorem k_X5_140 : zCal RX5 140 yX0_everyRowHas cX0_everyRowHas 7 (some .boolean) 4 := ⟨wm_X5_140, wi_X0, wc_X0_everyRowHas, by decide +kernel, by decide +kernel, by decide +kernel⟩
set_option maxRecDepth 20000 in
theorem wn_X0_everyRowHas : Cond.instanceMethod yX0_everyRowHas ∈ zB := List.mem_filter.mpr ⟨List.mem_of_getElem? (i := 418) (by decide +kernel), by decide +kernel⟩
set_option maxRecDepth 20000 in
theorem ws_X0_everyRowHas : Cond.selects RX0 yX0_everyRowHas yX0_everyRowHas ∈ zB := List.mem_filter.mpr ⟨List.mem_of_getElem? (i := 419) (by decide +kernel), by decide +kernel⟩
theorem v_X0_everyRowHas : zVir yX0_everyRowHas 0 := ⟨wn_X0_everyRowHas, ws_X0_everyRowHas, TX0, 4, rfl⟩
set_option maxRecDepth 20000 in
theorem wm_X5_144 : Cond.methodLink RX5 144 yX0_everyDayHasLongRest ∈ zB := List.mem_filter.mpr ⟨List.mem_of_getElem? (i := 426) (by decide +kernel), by decide +kernel⟩
theorem k_X5_144 : zCal RX5 144 yX0_everyDayHasLongRest cX0_everyDayHasLongRest 8 (some .boolean) 3 := ⟨wm_X5_144, wi_X0, wc_X0_everyDayHasLongRest, by decide +kernel, by decide +kernel, by decide +kernel⟩
def rm_X5_restsHold : Room := { frames := 2, cells := 0, slots := 0, locals := 50 }
set_option maxHeartbeats 4000000 in
set_option maxRecDepth 20000 in
theorem t_X5_restsHold_89 {p : Program} {l : Launch} {e : Env} {s : State} {m : MethodId} {args : Array Value} {below : List Frame} {meth : Method} {c : Code} {G : zG} (Z : zF p s m args c meth cX5_restsHold 6 RX5 G) (hr : meth.sig.returnType = (some .boolean)) {out : Int32 × zHp} {h : zHp} {H : Heap} {locs : List Loc} {ls : Array Slot} (hf : f_X5_restsHold_89 h = some out) (E : zE G s h H locs) (hl : lv_has ls 6 []) : W p l e rm_X5_restsHold s m args below meth c H locs 0 0 (MQ below (zQi G out.1 out.2) args s 0 0 (zA G)) (F0 m 89 ls []) := by
  unfold f_X5_restsHold_89 at hf
  refine lv_iconst (v := 0) Z.x Z.b dX5_restsHold_89 (by decide) ?_
  exact z_zret Z E hr dX5_restsHold_90 hf
set_option maxHeartbeats 4000000 in
set_option maxRecDepth 20000 in
theorem t_X5_restsHold {p : Program} {l : Launch} {e : Env} {s : State} {m : MethodId} {args : Array Value} {below : List Frame} {meth : Method} {c : Code} {G : zG} (Z : zF p s m args c meth cX5_restsHold 6 RX5 G) (hr : meth.sig.returnType = (some .boolean)) {out : Int32 × zHp} {a0 : Nat} {a1 : Nat} {a2 : Int32} {a3 : Int32} {h : zHp} {H : Heap} {locs : List Loc} {ls : Array Slot} (hf : f_X5_restsHold a0 a1 a2 a3 h = some out) (E : zE G s h H locs) (hl : lv_has ls 6 [(0, .ref a0), (1, .ref a1), (2, .int a2), (3, .int a3)]) : W p l e rm_X5_restsHold s m args below meth c H locs 0 0 (MQ below (zQi G out.1 out.2) args s 0 0 (zA G)) (F0 m 0 ls []) := by
  unfold f_X5_restsHold at hf
  refine lv_iconst (v := 0) Z.x Z.b dX5_restsHold_0 (by decide) ?_
  refine lv_iload_n Z.x Z.b dX5_restsHold_1 rfl (lv_at hl 2 rfl) ?_
  refine lv_bipush (v := 24) Z.x Z.b dX5_restsHold_2 (by decide) ?_
  refine lv_isub Z.x Z.b dX5_restsHold_4 ?_
  refine lv_iconst (v := 1) Z.x Z.b dX5_restsHold_5 (by decide) ?_
  refine lv_iadd Z.x Z.b dX5_restsHold_6 ?_
  refine z_max Z hl.1 wm_X5_131 wx_stat wi_math wx_code (by decide) (by decide) (Nat.zero_le _) (Nat.zero_le _) dX5_restsHold_7 ?_
  refine lv_istore (lv' := [(4, .int (zmax 0 ((a2 - 24) + 1))), (0, .ref a0), (1, .ref a1), (2, .int a2), (3, .int a3)]) Z.x Z.b dX5_restsHold_10 hl (by decide) rfl (fun ls hl => ?_)
  refine lv_iconst (v := 0) Z.x Z.b dX5_restsHold_12 (by decide) ?_
  refine lv_iload_n Z.x Z.b dX5_restsHold_13 rfl (lv_at hl 3 rfl) ?_
  refine lv_sipush (v := 168) Z.x Z.b dX5_restsHold_14 (by decide) ?_
  refine lv_isub Z.x Z.b dX5_restsHold_17 ?_
  refine lv_iconst (v := 1) Z.x Z.b dX5_restsHold_18 (by decide) ?_
  refine lv_iadd Z.x Z.b dX5_restsHold_19 ?_
  refine z_max Z hl.1 wm_X5_131 wx_stat wi_math wx_code (by decide) (by decide) (Nat.zero_le _) (Nat.zero_le _) dX5_restsHold_20 ?_
  refine lv_istore (lv' := [(5, .int (zmax 0 ((a2 - 168) + 1))), (4, .int (zmax 0 ((a2 - 24) + 1))), (0, .ref a0), (1, .ref a1), (2, .int a2), (3, .int a3)]) Z.x Z.b dX5_restsHold_23 hl (by decide) rfl (fun ls hl => ?_)
  refine lv_aload_n Z.x Z.b dX5_restsHold_25 rfl (lv_at hl 3 rfl) ?_
  refine z_getI Z E q_X5_136 dX5_restsHold_26 hf (fun v1 hf => ?_)
  refine lv_if_ne (tgt := 89) Z.x Z.b dX5_restsHold_29 (by decide) (fun c => ?_) (fun c => ?_)
  · have hf := zif_ hf c
    exact t_X5_restsHold_89 Z hr hf E (lv_sub hl [] rfl)
  · have hf := zit hf c
    refine lv_aload_n Z.x Z.b dX5_restsHold_32 rfl (lv_at hl 3 rfl) ?_
    refine lv_aload_n Z.x Z.b dX5_restsHold_33 rfl (lv_at hl 2 rfl) ?_
    refine z_getR Z E q_X5_9 dX5_restsHold_34 hf (fun v2 hf => ?_)
    refine lv_iconst (v := 0) Z.x Z.b dX5_restsHold_37 (by decide) ?_
    refine z_iald Z E dX5_restsHold_38 hf (fun v3 hf => ?_)
    refine lv_bipush (v := 24) Z.x Z.b dX5_restsHold_39 (by decide) ?_
    refine lv_iload Z.x Z.b dX5_restsHold_41 (lv_at hl 1 rfl) ?_
    refine lv_iload_n Z.x Z.b dX5_restsHold_43 rfl (lv_at hl 5 rfl) ?_
    refine z_Vi (As := [.int v3, .int 24, .int (zmax 0 ((a2 - 24) + 1)), .int a3]) Z E hl.1 k_X5_140 v_X0_everyRowHas hf (fun r h' e => c_X0_everyRowHas l G h h' a1 v3 24 (zmax 0 ((a2 - 24) + 1)) a3 r e) rfl rfl (Nat.le_of_ble_eq_true rfl) (zRm_of rfl (Nat.zero_le _) (Nat.zero_le _)) dX5_restsHold_44 (fun v4 h5 H locs hf E => ?_)
    refine lv_if_eq (tgt := 89) Z.x Z.b dX5_restsHold_47 (by decide) (fun c => ?_) (fun c => ?_)
    · have hf := zit hf c
      exact t_X5_restsHold_89 Z hr hf E (lv_sub hl [] rfl)
    · have hf := zif_ hf c
      refine lv_aload_n Z.x Z.b dX5_restsHold_50 rfl (lv_at hl 3 rfl) ?_
      refine lv_aload_n Z.x Z.b dX5_restsHold_51 rfl (lv_at hl 2 rfl) ?_
      refine z_getR Z E q_X5_9 dX5_restsHold_52 hf (fun v6 hf => ?_)
      refine lv_iconst (v := 1) Z.x Z.b dX5_restsHold_55 (by decide) ?_
      refine z_iald Z E dX5_restsHold_56 hf (fun v7 hf => ?_)
      refine lv_iload Z.x Z.b dX5_restsHold_57 (lv_at hl 1 rfl) ?_
      refine lv_iload_n Z.x Z.b dX5_restsHold_59 rfl (lv_at hl 5 rfl) ?_
      refine z_Vi (As := [.int v7, .int (zmax 0 ((a2 - 24) + 1)), .int a3]) Z E hl.1 k_X5_144 v_X0_everyDayHasLongRest hf (fun r h' e => c_X0_everyDayHasLongRest l G h5 h' a1 v7 (zmax 0 ((a2 - 24) + 1)) a3 r e) rfl rfl (Nat.le_of_ble_eq_true rfl) (zRm_of rfl (Nat.zero_le _) (Nat.zero_le _)) dX5_restsHold_60 (fun v8 h9 H locs hf E => ?_)
      refine lv_if_eq (tgt := 89) Z.x Z.b dX5_restsHold_63 (by decide) (fun c => ?_) (fun c => ?_)
      · have hf := zit hf c
        exact t_X5_restsHold_89 Z hr hf E (lv_sub hl [] rfl)
      · have hf := zif_ hf c
        refine lv_aload_n Z.x Z.b dX5_restsHold_66 rfl (lv_at hl 3 rfl) ?_
        refine lv_aload_n Z.x Z.b dX5_restsHold_67 rfl (lv_at hl 2 rfl) ?_
        refine z_getR Z E q_X5_9 dX5_restsHold_68 hf (fun v10 hf => ?_)
        refine lv_iconst (v := 2) Z.x Z.b dX5_restsHold_71 (by decide) ?_
        refine z_iald Z E dX5_restsHold_72 hf (fun v11 hf => ?_)
        refine lv_sipush (v := 168) Z.x Z.b dX5_restsHold_73 (by decide) ?_
        refine lv_iload Z.x Z.b dX5_restsHold_76 (lv_at hl 0 rfl) ?_
        refine lv_iload_n Z.x Z.b dX5_restsHold_78 rfl (lv_at hl 5 rfl) ?_
        refine z_Vi (As := [.int v11, .int 168, .int (zmax 0 ((a2 - 168) + 1)), .int a3]) Z E hl.1 k_X5_140 v_X0_everyRowHas hf (fun r h' e => c_X0_everyRowHas l G h9 h' a1 v11 168 (zmax 0 ((a2 - 168) + 1)) a3 r e) rfl rfl (Nat.le_of_ble_eq_true rfl) (zRm_of rfl (Nat.zero_le _) (Nat.zero_le _)) dX5_restsHold_79 (fun v12 h13 H locs hf E => ?_)
        refine lv_if_eq (tgt := 89) Z.x Z.b dX5_restsHold_82 (by decide) (fun c => ?_) (fun c => ?_)
        · have hf := zit hf c
          exact t_X5_restsHold_89 Z hr hf E (lv_sub hl [] rfl)
        · have hf := zif_ hf c
          refine lv_iconst (v := 1) Z.x Z.b dX5_restsHold_85 (by decide) ?_
          refine lv_goto (tgt := 90) Z.x Z.b dX5_restsHold_86 (by decide) ?_
          exact z_zret Z E hr dX5_restsHold_90 hf
set_option maxHeartbeats 4000000 in
set_option maxRecDepth 20000 in
theorem c_X5_restsHold (l : Launch) (G : zG) (h : zHp) (h' : zHp) (a0 : Nat) (a1 : Nat) (a2 : Int32) (a3 : Int32) (r : Int32) (hf : f_X5_restsHold a0 a1 a2 a3 h = some (r, h')) : zM0 l yX5_restsHold cX5_restsHold 6 (some .boolean) rm_X5_restsHold G [.ref a0, .ref a1, .int a2, .int a3] h (zQi G r h') := by
  refine Met.ofW (cc := cX5_restsHold) (maxL := 6) (ret := (some .boolean)) (by decide) rfl ?_
  intro p e s m args below meth c s₁ B hml hv
  obtain ⟨rfl, hW⟩ := hv
  obtain ⟨Z, E, hr⟩ := zEnter (own := RX5) B hml rfl hW
  have hl := lv_entry ([.ref a0, .ref a1, .int a2, .int a3]) (n := 6) (Nat.le_of_ble_eq_true rfl)
  rw [lg_entry_eq]
  generalize (lg_sl ([.ref a0, .ref a1, .int a2, .int a3]) ++ List.replicate (6 - (lg_sl ([.ref a0, .ref a1, .int a2, .int a3])).length) Slot.unset).toArray = ls at hl ⊢
  have hl : lv_has ls 6 [(0, .ref a0), (1, .ref a1), (2, .int a2), (3, .int a3)] := hl
  exact t_X5_restsHold (out := (r, h')) Z hr hf E hl
/-! FerryCrews$State.allRestsHold()Z -/
theorem dX5_allRestsHold_0 : decode cX5_allRestsHold 0 = .ok (.iconst 0, 1) := by decide +kernel
theorem dX5_allRestsHold_1 : decode cX5_allRestsHold 1 = .ok (.istore_n 1, 1) := by decide +kernel
theorem dX5_allRestsHold_2 : decode cX5_allRestsHold 2 = .ok (.iload_n 1, 1) := by decide +kernel
theorem dX5_allRestsHold_3 : decode cX5_allRestsHold 3 = .ok (.aload_n 0, 1) := by decide +kernel
theorem dX5_allRestsHold_4 : decode cX5_allRestsHold 4 = .ok (.getfield 44, 3) := by decide +kernel
theorem dX5_allRestsHold_7 : decode cX5_allRestsHold 7 = .ok (.if_icmp .ge 31, 3) := by decide +kernel
theorem dX5_allRestsHold_10 : decode cX5_allRestsHold 10 = .ok (.aload_n 0, 1) := by decide +kernel
theorem dX5_allRestsHold_11 : decode cX5_allRestsHold 11 = .ok (.iload_n 1, 1) := by decide +kernel
theorem dX5_allRestsHold_12 : decode cX5_allRestsHold 12 = .ok (.aconst_null, 1) := by decide +kernel
theorem dX5_allRestsHold_13 : decode cX5_allRestsHold 13 = .ok (.invokevirtual 147, 3) := by decide +kernel
theorem dX5_allRestsHold_16 : decode cX5_allRestsHold 16 = .ok (.astore_n 2, 1) := by decide +kernel
theorem dX5_allRestsHold_17 : decode cX5_allRestsHold 17 = .ok (.aload_n 0, 1) := by decide +kernel
theorem dX5_allRestsHold_18 : decode cX5_allRestsHold 18 = .ok (.aload_n 2, 1) := by decide +kernel
theorem dX5_allRestsHold_19 : decode cX5_allRestsHold 19 = .ok (.iconst 0, 1) := by decide +kernel
theorem dX5_allRestsHold_20 : decode cX5_allRestsHold 20 = .ok (.aload_n 2, 1) := by decide +kernel
theorem dX5_allRestsHold_21 : decode cX5_allRestsHold 21 = .ok (.getfield 151, 3) := by decide +kernel
theorem dX5_allRestsHold_24 : decode cX5_allRestsHold 24 = .ok (.invokevirtual 152, 3) := by decide +kernel
theorem dX5_allRestsHold_27 : decode cX5_allRestsHold 27 = .ok (.ifCond .ne 5, 3) := by decide +kernel
theorem dX5_allRestsHold_30 : decode cX5_allRestsHold 30 = .ok (.iconst 0, 1) := by decide +kernel
theorem dX5_allRestsHold_31 : decode cX5_allRestsHold 31 = .ok (.ireturn, 1) := by decide +kernel
theorem dX5_allRestsHold_32 : decode cX5_allRestsHold 32 = .ok (.iinc 1 1, 3) := by decide +kernel
theorem dX5_allRestsHold_35 : decode cX5_allRestsHold 35 = .ok (.goto (-33), 3) := by decide +kernel
theorem dX5_allRestsHold_38 : decode cX5_allRestsHold 38 = .ok (.iconst 1, 1) := by decide +kernel
theorem dX5_allRestsHold_39 : decode cX5_allRestsHold 39 = .ok (.ireturn, 1) := by decide +kernel
set_option maxRecDepth 20000 in
theorem wc_X5_dutiesOf : Cond.code yX5_dutiesOf cX5_dutiesOf 7 (some (.object "FerryCrews$Duties")) ∈ zB := List.mem_filter.mpr ⟨List.mem_of_getElem? (i := 301) (by decide +kernel), by decide +kernel⟩
set_option maxRecDepth 20000 in
theorem wm_X5_147 : Cond.methodLink RX5 147 yX5_dutiesOf ∈ zB := List.mem_filter.mpr ⟨List.mem_of_getElem? (i := 376) (by decide +kernel), by decide +kernel⟩
theorem k_X5_147 : zCal RX5 147 yX5_dutiesOf cX5_dutiesOf 7 (some (.object "FerryCrews$Duties")) 2 := ⟨wm_X5_147, wi_X5, wc_X5_dutiesOf, by decide +kernel, by decide +kernel, by decide +kernel⟩
set_option maxRecDepth 20000 in
theorem wn_X5_dutiesOf : Cond.instanceMethod yX5_dutiesOf ∈ zB := List.mem_filter.mpr ⟨List.mem_of_getElem? (i := 299) (by decide +kernel), by decide +kernel⟩
set_option maxRecDepth 20000 in
theorem ws_X5_dutiesOf : Cond.selects RX5 yX5_dutiesOf yX5_dutiesOf ∈ zB := List.mem_filter.mpr ⟨List.mem_of_getElem? (i := 300) (by decide +kernel), by decide +kernel⟩
theorem v_X5_dutiesOf : zVir yX5_dutiesOf 5 := ⟨wn_X5_dutiesOf, ws_X5_dutiesOf, TX5, 8, rfl⟩
set_option maxRecDepth 20000 in
theorem wf_X5_151 : Cond.fieldLink RX5 151 RX0 "end" "I" ∈ zB := List.mem_filter.mpr ⟨List.mem_of_getElem? (i := 35) (by decide +kernel), by decide +kernel⟩
theorem q_X5_151 : zFld RX5 151 0 2 := ⟨RX0, TX0, 4, rfl, by decide, iX0, wf_X5_151, rfl⟩
set_option maxRecDepth 20000 in
theorem wc_X5_restsHold : Cond.code yX5_restsHold cX5_restsHold 6 (some .boolean) ∈ zB := List.mem_filter.mpr ⟨List.mem_of_getElem? (i := 416) (by decide +kernel), by decide +kernel⟩
set_option maxRecDepth 20000 in
theorem wm_X5_152 : Cond.methodLink RX5 152 yX5_restsHold ∈ zB := List.mem_filter.mpr ⟨List.mem_of_getElem? (i := 413) (by decide +kernel), by decide +kernel⟩
theorem k_X5_152 : zCal RX5 152 yX5_restsHold cX5_restsHold 6 (some .boolean) 3 := ⟨wm_X5_152, wi_X5, wc_X5_restsHold, by decide +kernel, by decide +kernel, by decide +kernel⟩
set_option maxRecDepth 20000 in
theorem wn_X5_restsHold : Cond.instanceMethod yX5_restsHold ∈ zB := List.mem_filter.mpr ⟨List.mem_of_getElem? (i := 415) (by decide +kernel), by decide +kernel⟩
set_option maxRecDepth 20000 in
theorem ws_X5_restsHold : Cond.selects RX5 yX5_restsHold yX5_restsHold ∈ zB := List.mem_filter.mpr ⟨List.mem_of_getElem? (i := 2) (by decide +kernel), by decide +kernel⟩
theorem v_X5_restsHold : zVir yX5_restsHold 5 := ⟨wn_X5_restsHold, ws_X5_restsHold, TX5, 8, rfl⟩
def rm_X5_allRestsHold : Room := { frames := 4, cells := 0, slots := 0, locals := 88 }
set_option maxHeartbeats 4000000 in
set_option maxRecDepth 20000 in
theorem t_X5_allRestsHold_2_body {p : Program} {l : Launch} {e : Env} {s : State} {m : MethodId} {args : Array Value} {below : List Frame} {meth : Method} {c : Code} {G : zG} (Z : zF p s m args c meth cX5_allRestsHold 3 RX5 G) (hr : meth.sig.returnType = (some .boolean)) {out : Int32 × zHp} {r2 : Nat → Int32 → zHp → Option (Int32 × zHp)} (k2 : ∀ {a0 : Nat} {a1 : Int32} {h : zHp} {H : Heap} {locs : List Loc} {ls : Array Slot}, r2 a0 a1 h = some out → zE G s h H locs → lv_has ls 3 [(0, .ref a0), (1, .int a1)] → W p l e rm_X5_allRestsHold s m args below meth c H locs 0 0 (MQ below (zQi G out.1 out.2) args s 0 0 (zA G)) (F0 m 2 ls [])) {a0 : Nat} {a1 : Int32} {h : zHp} {H : Heap} {locs : List Loc} {ls : Array Slot} (hf : f_X5_allRestsHold_2_body r2 a0 a1 h = some out) (E : zE G s h H locs) (hl : lv_has ls 3 [(0, .ref a0), (1, .int a1)]) : W p l e rm_X5_allRestsHold s m args below meth c H locs 0 0 (MQ below (zQi G out.1 out.2) args s 0 0 (zA G)) (F0 m 2 ls []) := by
  unfold f_X5_allRestsHold_2_body at hf
  refine lv_iload_n Z.x Z.b dX5_allRestsHold_2 rfl (lv_at hl 1 rfl) ?_
  refine lv_aload_n Z.x Z.b dX5_allRestsHold_3 rfl (lv_at hl 0 rfl) ?_
  refine z_getI Z E q_X5_44 dX5_allRestsHold_4 hf (fun v1 hf => ?_)
  refine lv_icmp_ge (tgt := 38) Z.x Z.b dX5_allRestsHold_7 (by decide) (fun c => ?_) (fun c => ?_)
  · have hf := zit hf c
    refine lv_iconst (v := 1) Z.x Z.b dX5_allRestsHold_38 (by decide) ?_
    exact z_zret Z E hr dX5_allRestsHold_39 hf
  · have hf := zif_ hf c
    refine lv_aload_n Z.x Z.b dX5_allRestsHold_10 rfl (lv_at hl 0 rfl) ?_
    refine lv_iload_n Z.x Z.b dX5_allRestsHold_11 rfl (lv_at hl 1 rfl) ?_
    refine lv_null Z.x Z.b dX5_allRestsHold_12 ?_
    refine z_Vq (As := [.int a1, va_rf none]) Z E hl.1 k_X5_147 v_X5_dutiesOf hf (fun r h' e => c_X5_dutiesOf l G h h' a0 a1 none r e) rfl rfl (Nat.le_of_ble_eq_true rfl) (zRm_of rfl (Nat.zero_le _) (Nat.zero_le _)) dX5_allRestsHold_13 (fun w2 h3 H locs hf E => ?_)
    obtain ⟨v4, ex, h8_13⟩ := zopt_inv hf
    subst ex
    have hf := h8_13
    refine lv_astore_n (lv' := [(2, .ref v4), (0, .ref a0), (1, .int a1)]) Z.x Z.b dX5_allRestsHold_16 rfl hl (by decide) rfl (fun ls hl => ?_)
    refine lv_aload_n Z.x Z.b dX5_allRestsHold_17 rfl (lv_at hl 1 rfl) ?_
    refine lv_aload_n Z.x Z.b dX5_allRestsHold_18 rfl (lv_at hl 0 rfl) ?_
    refine lv_iconst (v := 0) Z.x Z.b dX5_allRestsHold_19 (by decide) ?_
    refine lv_aload_n Z.x Z.b dX5_allRestsHold_20 rfl (lv_at hl 0 rfl) ?_
    refine z_getI Z E q_X5_151 dX5_allRestsHold_21 hf (fun v5 hf => ?_)
    refine z_Vi (As := [.ref v4, .int 0, .int v5]) Z E hl.1 k_X5_152 v_X5_restsHold hf (fun r h' e => c_X5_restsHold l G h3 h' a0 v4 0 v5 r e) rfl rfl (Nat.le_of_ble_eq_true rfl) (zRm_of rfl (Nat.zero_le _) (Nat.zero_le _)) dX5_allRestsHold_24 (fun v6 h7 H locs hf E => ?_)
    refine lv_if_ne (tgt := 32) Z.x Z.b dX5_allRestsHold_27 (by decide) (fun c => ?_) (fun c => ?_)
    · have hf := zif_ hf c
      refine lv_iinc (v := (a1 + 1)) (lv' := [(1, .int (a1 + 1)), (2, .ref v4), (0, .ref a0)]) Z.x Z.b dX5_allRestsHold_32 hl (k := 2) rfl rfl (by decide) rfl (fun ls hl => ?_)
      refine lv_goto (tgt := 2) Z.x Z.b dX5_allRestsHold_35 (by decide) ?_
      exact k2 hf E (lv_sub hl [2, 0] rfl)
    · have hf := zit hf c
      refine lv_iconst (v := 0) Z.x Z.b dX5_allRestsHold_30 (by decide) ?_
      exact z_zret Z E hr dX5_allRestsHold_31 hf
theorem t_X5_allRestsHold_2 {p : Program} {l : Launch} {e : Env} {s : State} {m : MethodId} {args : Array Value} {below : List Frame} {meth : Method} {c : Code} {G : zG} (Z : zF p s m args c meth cX5_allRestsHold 3 RX5 G) (hr : meth.sig.returnType = (some .boolean)) {out : Int32 × zHp} : ∀ (n : Nat), ∀ {a0 : Nat} {a1 : Int32} {h : zHp} {H : Heap} {locs : List Loc} {ls : Array Slot}, f_X5_allRestsHold_2 n a0 a1 h = some out → zE G s h H locs → lv_has ls 3 [(0, .ref a0), (1, .int a1)] → W p l e rm_X5_allRestsHold s m args below meth c H locs 0 0 (MQ below (zQi G out.1 out.2) args s 0 0 (zA G)) (F0 m 2 ls [])
  | 0 => fun hf => by cases hf
  | n + 1 => fun hf E hl => t_X5_allRestsHold_2_body Z hr (r2 := f_X5_allRestsHold_2 n) (t_X5_allRestsHold_2 Z hr n) hf E hl
set_option maxHeartbeats 4000000 in
set_option maxRecDepth 20000 in
theorem t_X5_allRestsHold {p : Program} {l : Launch} {e : Env} {s : State} {m : MethodId} {args : Array Value} {below : List Frame} {meth : Method} {c : Code} {G : zG} (Z : zF p s m args c meth cX5_allRestsHold 3 RX5 G) (hr : meth.sig.returnType = (some .boolean)) {out : Int32 × zHp} {a0 : Nat} {h : zHp} {H : Heap} {locs : List Loc} {ls : Array Slot} (hf : f_X5_allRestsHold a0 h = some out) (E : zE G s h H locs) (hl : lv_has ls 3 [(0, .ref a0)]) : W p l e rm_X5_allRestsHold s m args below meth c H locs 0 0 (MQ below (zQi G out.1 out.2) args s 0 0 (zA G)) (F0 m 0 ls []) := by
  unfold f_X5_allRestsHold at hf
  refine lv_iconst (v := 0) Z.x Z.b dX5_allRestsHold_0 (by decide) ?_
  refine lv_istore_n (lv' := [(1, .int 0), (0, .ref a0)]) Z.x Z.b dX5_allRestsHold_1 rfl hl (by decide) rfl (fun ls hl => ?_)
  exact t_X5_allRestsHold_2 Z hr zN hf E (lv_sub hl [1, 0] rfl)
set_option maxHeartbeats 4000000 in
set_option maxRecDepth 20000 in
theorem c_X5_allRestsHold (l : Launch) (G : zG) (h : zHp) (h' : zHp) (a0 : Nat) (r : Int32) (hf : f_X5_allRestsHold a0 h = some (r, h')) : zM0 l yX5_allRestsHold cX5_allRestsHold 3 (some .boolean) rm_X5_allRestsHold G [.ref a0] h (zQi G r h') := by
  refine Met.ofW (cc := cX5_allRestsHold) (maxL := 3) (ret := (some .boolean)) (by decide) rfl ?_
  intro p e s m args below meth c s₁ B hml hv
  obtain ⟨rfl, hW⟩ := hv
  obtain ⟨Z, E, hr⟩ := zEnter (own := RX5) B hml rfl hW
  have hl := lv_entry ([.ref a0]) (n := 3) (Nat.le_of_ble_eq_true rfl)
  rw [lg_entry_eq]
  generalize (lg_sl ([.ref a0]) ++ List.replicate (3 - (lg_sl ([.ref a0])).length) Slot.unset).toArray = ls at hl ⊢
  have hl : lv_has ls 3 [(0, .ref a0)] := hl
  exact t_X5_allRestsHold (out := (r, h')) Z hr hf E hl
/-! FerryCrews$State.reasonAgainst(ILFerryCrews$Sailing;I)I -/
theorem dX5_reasonAgainst_0 : decode cX5_reasonAgainst 0 = .ok (.aload_n 0, 1) := by decide +kernel
theorem dX5_reasonAgainst_1 : decode cX5_reasonAgainst 1 = .ok (.iload_n 1, 1) := by decide +kernel
theorem dX5_reasonAgainst_2 : decode cX5_reasonAgainst 2 = .ok (.invokevirtual 156, 3) := by decide +kernel
theorem dX5_reasonAgainst_5 : decode cX5_reasonAgainst 5 = .ok (.astore 4, 2) := by decide +kernel
theorem dX5_reasonAgainst_7 : decode cX5_reasonAgainst 7 = .ok (.aload 4, 2) := by decide +kernel
theorem dX5_reasonAgainst_9 : decode cX5_reasonAgainst 9 = .ok (.ifnull 21, 3) := by decide +kernel
theorem dX5_reasonAgainst_12 : decode cX5_reasonAgainst 12 = .ok (.aload_n 2, 1) := by decide +kernel
theorem dX5_reasonAgainst_13 : decode cX5_reasonAgainst 13 = .ok (.invokevirtual 108, 3) := by decide +kernel
theorem dX5_reasonAgainst_16 : decode cX5_reasonAgainst 16 = .ok (.ifCond .eq 14, 3) := by decide +kernel
theorem dX5_reasonAgainst_19 : decode cX5_reasonAgainst 19 = .ok (.aload_n 2, 1) := by decide +kernel
theorem dX5_reasonAgainst_20 : decode cX5_reasonAgainst 20 = .ok (.getfield 97, 3) := by decide +kernel
theorem dX5_reasonAgainst_23 : decode cX5_reasonAgainst 23 = .ok (.aload_n 0, 1) := by decide +kernel
theorem dX5_reasonAgainst_24 : decode cX5_reasonAgainst 24 = .ok (.getfield 37, 3) := by decide +kernel
theorem dX5_reasonAgainst_27 : decode cX5_reasonAgainst 27 = .ok (.if_icmp .ge 5, 3) := by decide +kernel
theorem dX5_reasonAgainst_30 : decode cX5_reasonAgainst 30 = .ok (.iconst 1, 1) := by decide +kernel
theorem dX5_reasonAgainst_31 : decode cX5_reasonAgainst 31 = .ok (.ireturn, 1) := by decide +kernel
theorem dX5_reasonAgainst_32 : decode cX5_reasonAgainst 32 = .ok (.aload_n 2, 1) := by decide +kernel
theorem dX5_reasonAgainst_33 : decode cX5_reasonAgainst 33 = .ok (.iload_n 3, 1) := by decide +kernel
theorem dX5_reasonAgainst_34 : decode cX5_reasonAgainst 34 = .ok (.invokevirtual 160, 3) := by decide +kernel
theorem dX5_reasonAgainst_37 : decode cX5_reasonAgainst 37 = .ok (.ifCond .gt 5, 3) := by decide +kernel
theorem dX5_reasonAgainst_40 : decode cX5_reasonAgainst 40 = .ok (.iconst 2, 1) := by decide +kernel
theorem dX5_reasonAgainst_41 : decode cX5_reasonAgainst 41 = .ok (.ireturn, 1) := by decide +kernel
theorem dX5_reasonAgainst_42 : decode cX5_reasonAgainst 42 = .ok (.aload 4, 2) := by decide +kernel
theorem dX5_reasonAgainst_44 : decode cX5_reasonAgainst 44 = .ok (.iload_n 3, 1) := by decide +kernel
theorem dX5_reasonAgainst_45 : decode cX5_reasonAgainst 45 = .ok (.invokevirtual 163, 3) := by decide +kernel
theorem dX5_reasonAgainst_48 : decode cX5_reasonAgainst 48 = .ok (.aload_n 2, 1) := by decide +kernel
theorem dX5_reasonAgainst_49 : decode cX5_reasonAgainst 49 = .ok (.getfield 111, 3) := by decide +kernel
theorem dX5_reasonAgainst_52 : decode cX5_reasonAgainst 52 = .ok (.if_icmp .ge 5, 3) := by decide +kernel
theorem dX5_reasonAgainst_55 : decode cX5_reasonAgainst 55 = .ok (.iconst 3, 1) := by decide +kernel
theorem dX5_reasonAgainst_56 : decode cX5_reasonAgainst 56 = .ok (.ireturn, 1) := by decide +kernel
theorem dX5_reasonAgainst_57 : decode cX5_reasonAgainst 57 = .ok (.aload_n 2, 1) := by decide +kernel
theorem dX5_reasonAgainst_58 : decode cX5_reasonAgainst 58 = .ok (.getfield 97, 3) := by decide +kernel
theorem dX5_reasonAgainst_61 : decode cX5_reasonAgainst 61 = .ok (.aload 4, 2) := by decide +kernel
theorem dX5_reasonAgainst_63 : decode cX5_reasonAgainst 63 = .ok (.getfield 166, 3) := by decide +kernel
theorem dX5_reasonAgainst_66 : decode cX5_reasonAgainst 66 = .ok (.if_icmp .ge 5, 3) := by decide +kernel
theorem dX5_reasonAgainst_69 : decode cX5_reasonAgainst 69 = .ok (.iconst 4, 1) := by decide +kernel
theorem dX5_reasonAgainst_70 : decode cX5_reasonAgainst 70 = .ok (.ireturn, 1) := by decide +kernel
theorem dX5_reasonAgainst_71 : decode cX5_reasonAgainst 71 = .ok (.aload_n 2, 1) := by decide +kernel
theorem dX5_reasonAgainst_72 : decode cX5_reasonAgainst 72 = .ok (.iload_n 1, 1) := by decide +kernel
theorem dX5_reasonAgainst_73 : decode cX5_reasonAgainst 73 = .ok (.invokevirtual 122, 3) := by decide +kernel
theorem dX5_reasonAgainst_76 : decode cX5_reasonAgainst 76 = .ok (.ifCond .eq 5, 3) := by decide +kernel
theorem dX5_reasonAgainst_79 : decode cX5_reasonAgainst 79 = .ok (.iconst 5, 1) := by decide +kernel
theorem dX5_reasonAgainst_80 : decode cX5_reasonAgainst 80 = .ok (.ireturn, 1) := by decide +kernel
theorem dX5_reasonAgainst_81 : decode cX5_reasonAgainst 81 = .ok (.aload_n 0, 1) := by decide +kernel
theorem dX5_reasonAgainst_82 : decode cX5_reasonAgainst 82 = .ok (.iload_n 1, 1) := by decide +kernel
theorem dX5_reasonAgainst_83 : decode cX5_reasonAgainst 83 = .ok (.aload_n 2, 1) := by decide +kernel
theorem dX5_reasonAgainst_84 : decode cX5_reasonAgainst 84 = .ok (.invokevirtual 147, 3) := by decide +kernel
theorem dX5_reasonAgainst_87 : decode cX5_reasonAgainst 87 = .ok (.astore 5, 2) := by decide +kernel
theorem dX5_reasonAgainst_89 : decode cX5_reasonAgainst 89 = .ok (.aload_n 0, 1) := by decide +kernel
theorem dX5_reasonAgainst_90 : decode cX5_reasonAgainst 90 = .ok (.aload 5, 2) := by decide +kernel
theorem dX5_reasonAgainst_92 : decode cX5_reasonAgainst 92 = .ok (.aload_n 2, 1) := by decide +kernel
theorem dX5_reasonAgainst_93 : decode cX5_reasonAgainst 93 = .ok (.getfield 97, 3) := by decide +kernel
theorem dX5_reasonAgainst_96 : decode cX5_reasonAgainst 96 = .ok (.iconst 1, 1) := by decide +kernel
theorem dX5_reasonAgainst_97 : decode cX5_reasonAgainst 97 = .ok (.isub, 1) := by decide +kernel
theorem dX5_reasonAgainst_98 : decode cX5_reasonAgainst 98 = .ok (.aload_n 2, 1) := by decide +kernel
theorem dX5_reasonAgainst_99 : decode cX5_reasonAgainst 99 = .ok (.getfield 111, 3) := by decide +kernel
theorem dX5_reasonAgainst_102 : decode cX5_reasonAgainst 102 = .ok (.invokevirtual 152, 3) := by decide +kernel
theorem dX5_reasonAgainst_105 : decode cX5_reasonAgainst 105 = .ok (.ifCond .eq 7, 3) := by decide +kernel
theorem dX5_reasonAgainst_108 : decode cX5_reasonAgainst 108 = .ok (.iconst 0, 1) := by decide +kernel
theorem dX5_reasonAgainst_109 : decode cX5_reasonAgainst 109 = .ok (.goto 5, 3) := by decide +kernel
theorem dX5_reasonAgainst_112 : decode cX5_reasonAgainst 112 = .ok (.bipush 6, 2) := by decide +kernel
theorem dX5_reasonAgainst_114 : decode cX5_reasonAgainst 114 = .ok (.ireturn, 1) := by decide +kernel
set_option maxRecDepth 20000 in
theorem wc_X5_memberAt : Cond.code yX5_memberAt cX5_memberAt 2 (some (.object "FerryCrews$Member")) ∈ zB := List.mem_filter.mpr ⟨List.mem_of_getElem? (i := 291) (by decide +kernel), by decide +kernel⟩
set_option maxRecDepth 20000 in
theorem wm_X5_156 : Cond.methodLink RX5 156 yX5_memberAt ∈ zB := List.mem_filter.mpr ⟨List.mem_of_getElem? (i := 402) (by decide +kernel), by decide +kernel⟩
theorem k_X5_156 : zCal RX5 156 yX5_memberAt cX5_memberAt 2 (some (.object "FerryCrews$Member")) 1 := ⟨wm_X5_156, wi_X5, wc_X5_memberAt, by decide +kernel, by decide +kernel, by decide +kernel⟩
set_option maxRecDepth 20000 in
theorem wn_X5_memberAt : Cond.instanceMethod yX5_memberAt ∈ zB := List.mem_filter.mpr ⟨List.mem_of_getElem? (i := 289) (by decide +kernel), by decide +kernel⟩
set_option maxRecDepth 20000 in
theorem ws_X5_memberAt : Cond.selects RX5 yX5_memberAt yX5_memberAt ∈ zB := List.mem_filter.mpr ⟨List.mem_of_getElem? (i := 290) (by decide +kernel), by decide +kernel⟩
theorem v_X5_memberAt : zVir yX5_memberAt 5 := ⟨wn_X5_memberAt, ws_X5_memberAt, TX5, 8, rfl⟩
set_option maxRecDepth 20000 in
theorem wc_X4_freePlacesOf : Cond.code yX4_freePlacesOf cX4_freePlacesOf 4 (some .int) ∈ zB := List.mem_filter.mpr ⟨List.mem_of_getElem? (i := 406) (by decide +kernel), by decide +kernel⟩
set_option maxRecDepth 20000 in
theorem wm_X5_160 : Cond.methodLink RX5 160 yX4_freePlacesOf ∈ zB := List.mem_filter.mpr ⟨List.mem_of_getElem? (i := 403) (by decide +kernel), by decide +kernel⟩
theorem k_X5_160 : zCal RX5 160 yX4_freePlacesOf cX4_freePlacesOf 4 (some .int) 1 := ⟨wm_X5_160, wi_X4, wc_X4_freePlacesOf, by decide +kernel, by decide +kernel, by decide +kernel⟩
set_option maxRecDepth 20000 in
theorem wn_X4_freePlacesOf : Cond.instanceMethod yX4_freePlacesOf ∈ zB := List.mem_filter.mpr ⟨List.mem_of_getElem? (i := 404) (by decide +kernel), by decide +kernel⟩
set_option maxRecDepth 20000 in
theorem ws_X4_freePlacesOf : Cond.selects RX4 yX4_freePlacesOf yX4_freePlacesOf ∈ zB := List.mem_filter.mpr ⟨List.mem_of_getElem? (i := 405) (by decide +kernel), by decide +kernel⟩
theorem v_X4_freePlacesOf : zVir yX4_freePlacesOf 4 := ⟨wn_X4_freePlacesOf, ws_X4_freePlacesOf, TX4, 9, rfl⟩
set_option maxRecDepth 20000 in
theorem wm_X5_163 : Cond.methodLink RX5 163 yX3_certificateOf ∈ zB := List.mem_filter.mpr ⟨List.mem_of_getElem? (i := 408) (by decide +kernel), by decide +kernel⟩
theorem k_X5_163 : zCal RX5 163 yX3_certificateOf cX3_certificateOf 2 (some .int) 1 := ⟨wm_X5_163, wi_X3, wc_X3_certificateOf, by decide +kernel, by decide +kernel, by decide +kernel⟩
set_option maxRecDepth 20000 in
theorem wf_X5_166 : Cond.fieldLink RX5 166 RX3 "sickUntil" "I" ∈ zB := List.mem_filter.mpr ⟨List.mem_of_getElem? (i := 120) (by decide +kernel), by decide +kernel⟩
theorem q_X5_166 : zFld RX5 166 3 1 := ⟨RX3, TX3, 3, rfl, by decide, iX3, wf_X5_166, rfl⟩
def rm_X5_reasonAgainst : Room := { frames := 4, cells := 0, slots := 0, locals := 88 }
set_option maxHeartbeats 4000000 in
set_option maxRecDepth 20000 in
theorem t_X5_reasonAgainst {p : Program} {l : Launch} {e : Env} {s : State} {m : MethodId} {args : Array Value} {below : List Frame} {meth : Method} {c : Code} {G : zG} (Z : zF p s m args c meth cX5_reasonAgainst 6 RX5 G) (hr : meth.sig.returnType = (some .int)) {out : Int32 × zHp} {a0 : Nat} {a1 : Int32} {a2 : Nat} {a3 : Int32} {h : zHp} {H : Heap} {locs : List Loc} {ls : Array Slot} (hf : f_X5_reasonAgainst a0 a1 a2 a3 h = some out) (E : zE G s h H locs) (hl : lv_has ls 6 [(0, .ref a0), (1, .int a1), (2, .ref a2), (3, .int a3)]) : W p l e rm_X5_reasonAgainst s m args below meth c H locs 0 0 (MQ below (zQi G out.1 out.2) args s 0 0 (zA G)) (F0 m 0 ls []) := by
  unfold f_X5_reasonAgainst at hf
  refine lv_aload_n Z.x Z.b dX5_reasonAgainst_0 rfl (lv_at hl 0 rfl) ?_
  refine lv_iload_n Z.x Z.b dX5_reasonAgainst_1 rfl (lv_at hl 1 rfl) ?_
  refine z_Vq (As := [.int a1]) Z E hl.1 k_X5_156 v_X5_memberAt hf (fun r h' e => c_X5_memberAt l G h h' a0 a1 r e) rfl rfl (Nat.le_of_ble_eq_true rfl) (zRm_of rfl (Nat.zero_le _) (Nat.zero_le _)) dX5_reasonAgainst_2 (fun w1 h2 H locs hf E => ?_)
  refine z_astore (lv' := [(4, va_rf w1), (0, .ref a0), (1, .int a1), (2, .ref a2), (3, .int a3)]) Z (x := w1) dX5_reasonAgainst_5 hl (by decide) (by cases w1 <;> rfl) (fun ls hl => ?_)
  refine z_aload Z (x := w1) dX5_reasonAgainst_7 (lv_at hl 0 rfl) ?_
  refine z_ifnull (tgt := 30) Z dX5_reasonAgainst_9 (by decide) hf (fun ex h9_9 => ?_) (fun v3 ex h9_9 => ?_)
  · subst ex
    have hf := h9_9
    refine lv_iconst (v := 1) Z.x Z.b dX5_reasonAgainst_30 (by decide) ?_
    exact z_iret Z E hr dX5_reasonAgainst_31 hf
  · subst ex
    have hf := h9_9
    refine lv_aload_n Z.x Z.b dX5_reasonAgainst_12 rfl (lv_at hl 3 rfl) ?_
    refine z_Vi (As := []) Z E hl.1 k_X5_108 v_X4_isOpen hf (fun r h' e => c_X4_isOpen l G h2 h' a2 r e) rfl rfl (Nat.le_of_ble_eq_true rfl) (zRm_of rfl (Nat.zero_le _) (Nat.zero_le _)) dX5_reasonAgainst_13 (fun v4 h5 H locs hf E => ?_)
    refine lv_if_eq (tgt := 30) Z.x Z.b dX5_reasonAgainst_16 (by decide) (fun c => ?_) (fun c => ?_)
    · have hf := zit hf c
      refine lv_iconst (v := 1) Z.x Z.b dX5_reasonAgainst_30 (by decide) ?_
      exact z_iret Z E hr dX5_reasonAgainst_31 hf
    · have hf := zif_ hf c
      refine lv_aload_n Z.x Z.b dX5_reasonAgainst_19 rfl (lv_at hl 3 rfl) ?_
      refine z_getI Z E q_X5_97 dX5_reasonAgainst_20 hf (fun v6 hf => ?_)
      refine lv_aload_n Z.x Z.b dX5_reasonAgainst_23 rfl (lv_at hl 1 rfl) ?_
      refine z_getI Z E q_X5_37 dX5_reasonAgainst_24 hf (fun v7 hf => ?_)
      refine lv_icmp_ge (tgt := 32) Z.x Z.b dX5_reasonAgainst_27 (by decide) (fun c => ?_) (fun c => ?_)
      · have hf := zit hf c
        refine lv_aload_n Z.x Z.b dX5_reasonAgainst_32 rfl (lv_at hl 3 rfl) ?_
        refine lv_iload_n Z.x Z.b dX5_reasonAgainst_33 rfl (lv_at hl 4 rfl) ?_
        refine z_Vi (As := [.int a3]) Z E hl.1 k_X5_160 v_X4_freePlacesOf hf (fun r h' e => c_X4_freePlacesOf l G h5 h' a2 a3 r e) rfl rfl (Nat.le_of_ble_eq_true rfl) (zRm_of rfl (Nat.zero_le _) (Nat.zero_le _)) dX5_reasonAgainst_34 (fun v8 h9 H locs hf E => ?_)
        refine lv_if_gt (tgt := 42) Z.x Z.b dX5_reasonAgainst_37 (by decide) (fun c => ?_) (fun c => ?_)
        · have hf := zit hf c
          refine lv_aload Z.x Z.b dX5_reasonAgainst_42 (lv_at hl 0 rfl) ?_
          refine lv_iload_n Z.x Z.b dX5_reasonAgainst_44 rfl (lv_at hl 4 rfl) ?_
          refine z_Vi (As := [.int a3]) Z E hl.1 k_X5_163 v_X3_certificateOf hf (fun r h' e => c_X3_certificateOf l G h9 h' v3 a3 r e) rfl rfl (Nat.le_of_ble_eq_true rfl) (zRm_of rfl (Nat.zero_le _) (Nat.zero_le _)) dX5_reasonAgainst_45 (fun v10 h11 H locs hf E => ?_)
          refine lv_aload_n Z.x Z.b dX5_reasonAgainst_48 rfl (lv_at hl 3 rfl) ?_
          refine z_getI Z E q_X5_111 dX5_reasonAgainst_49 hf (fun v12 hf => ?_)
          refine lv_icmp_ge (tgt := 57) Z.x Z.b dX5_reasonAgainst_52 (by decide) (fun c => ?_) (fun c => ?_)
          · have hf := zit hf c
            refine lv_aload_n Z.x Z.b dX5_reasonAgainst_57 rfl (lv_at hl 3 rfl) ?_
            refine z_getI Z E q_X5_97 dX5_reasonAgainst_58 hf (fun v13 hf => ?_)
            refine lv_aload Z.x Z.b dX5_reasonAgainst_61 (lv_at hl 0 rfl) ?_
            refine z_getI Z E q_X5_166 dX5_reasonAgainst_63 hf (fun v14 hf => ?_)
            refine lv_icmp_ge (tgt := 71) Z.x Z.b dX5_reasonAgainst_66 (by decide) (fun c => ?_) (fun c => ?_)
            · have hf := zit hf c
              refine lv_aload_n Z.x Z.b dX5_reasonAgainst_71 rfl (lv_at hl 3 rfl) ?_
              refine lv_iload_n Z.x Z.b dX5_reasonAgainst_72 rfl (lv_at hl 2 rfl) ?_
              refine z_Vi (As := [.int a1]) Z E hl.1 k_X5_122 v_X4_seats hf (fun r h' e => c_X4_seats l G h11 h' a2 a1 r e) rfl rfl (Nat.le_of_ble_eq_true rfl) (zRm_of rfl (Nat.zero_le _) (Nat.zero_le _)) dX5_reasonAgainst_73 (fun v15 h16 H locs hf E => ?_)
              refine lv_if_eq (tgt := 81) Z.x Z.b dX5_reasonAgainst_76 (by decide) (fun c => ?_) (fun c => ?_)
              · have hf := zit hf c
                refine lv_aload_n Z.x Z.b dX5_reasonAgainst_81 rfl (lv_at hl 1 rfl) ?_
                refine lv_iload_n Z.x Z.b dX5_reasonAgainst_82 rfl (lv_at hl 2 rfl) ?_
                refine lv_aload_n Z.x Z.b dX5_reasonAgainst_83 rfl (lv_at hl 3 rfl) ?_
                refine z_Vq (As := [.int a1, va_rf (some a2)]) Z E hl.1 k_X5_147 v_X5_dutiesOf hf (fun r h' e => c_X5_dutiesOf l G h16 h' a0 a1 (some a2) r e) rfl rfl (Nat.le_of_ble_eq_true rfl) (zRm_of rfl (Nat.zero_le _) (Nat.zero_le _)) dX5_reasonAgainst_84 (fun w17 h18 H locs hf E => ?_)
                obtain ⟨v19, ex, h8_84⟩ := zopt_inv hf
                subst ex
                have hf := h8_84
                refine lv_astore (lv' := [(5, .ref v19), (4, .ref v3), (0, .ref a0), (1, .int a1), (2, .ref a2), (3, .int a3)]) Z.x Z.b dX5_reasonAgainst_87 hl (by decide) rfl (fun ls hl => ?_)
                refine lv_aload_n Z.x Z.b dX5_reasonAgainst_89 rfl (lv_at hl 2 rfl) ?_
                refine lv_aload Z.x Z.b dX5_reasonAgainst_90 (lv_at hl 0 rfl) ?_
                refine lv_aload_n Z.x Z.b dX5_reasonAgainst_92 rfl (lv_at hl 4 rfl) ?_
                refine z_getI Z E q_X5_97 dX5_reasonAgainst_93 hf (fun v20 hf => ?_)
                refine lv_iconst (v := 1) Z.x Z.b dX5_reasonAgainst_96 (by decide) ?_
                refine lv_isub Z.x Z.b dX5_reasonAgainst_97 ?_
                refine lv_aload_n Z.x Z.b dX5_reasonAgainst_98 rfl (lv_at hl 4 rfl) ?_
                refine z_getI Z E q_X5_111 dX5_reasonAgainst_99 hf (fun v21 hf => ?_)
                refine z_Vi (As := [.ref v19, .int (v20 - 1), .int v21]) Z E hl.1 k_X5_152 v_X5_restsHold hf (fun r h' e => c_X5_restsHold l G h18 h' a0 v19 (v20 - 1) v21 r e) rfl rfl (Nat.le_of_ble_eq_true rfl) (zRm_of rfl (Nat.zero_le _) (Nat.zero_le _)) dX5_reasonAgainst_102 (fun v22 h23 H locs hf E => ?_)
                refine lv_if_eq (tgt := 112) Z.x Z.b dX5_reasonAgainst_105 (by decide) (fun c => ?_) (fun c => ?_)
                · have hf := zit hf c
                  refine lv_bipush (v := 6) Z.x Z.b dX5_reasonAgainst_112 (by decide) ?_
                  exact z_iret Z E hr dX5_reasonAgainst_114 hf
                · have hf := zif_ hf c
                  refine lv_iconst (v := 0) Z.x Z.b dX5_reasonAgainst_108 (by decide) ?_
                  refine lv_goto (tgt := 114) Z.x Z.b dX5_reasonAgainst_109 (by decide) ?_
                  exact z_iret Z E hr dX5_reasonAgainst_114 hf
              · have hf := zif_ hf c
                refine lv_iconst (v := 5) Z.x Z.b dX5_reasonAgainst_79 (by decide) ?_
                exact z_iret Z E hr dX5_reasonAgainst_80 hf
            · have hf := zif_ hf c
              refine lv_iconst (v := 4) Z.x Z.b dX5_reasonAgainst_69 (by decide) ?_
              exact z_iret Z E hr dX5_reasonAgainst_70 hf
          · have hf := zif_ hf c
            refine lv_iconst (v := 3) Z.x Z.b dX5_reasonAgainst_55 (by decide) ?_
            exact z_iret Z E hr dX5_reasonAgainst_56 hf
        · have hf := zif_ hf c
          refine lv_iconst (v := 2) Z.x Z.b dX5_reasonAgainst_40 (by decide) ?_
          exact z_iret Z E hr dX5_reasonAgainst_41 hf
      · have hf := zif_ hf c
        refine lv_iconst (v := 1) Z.x Z.b dX5_reasonAgainst_30 (by decide) ?_
        exact z_iret Z E hr dX5_reasonAgainst_31 hf
set_option maxHeartbeats 4000000 in
set_option maxRecDepth 20000 in
theorem c_X5_reasonAgainst (l : Launch) (G : zG) (h : zHp) (h' : zHp) (a0 : Nat) (a1 : Int32) (a2 : Nat) (a3 : Int32) (r : Int32) (hf : f_X5_reasonAgainst a0 a1 a2 a3 h = some (r, h')) : zM0 l yX5_reasonAgainst cX5_reasonAgainst 6 (some .int) rm_X5_reasonAgainst G [.ref a0, .int a1, .ref a2, .int a3] h (zQi G r h') := by
  refine Met.ofW (cc := cX5_reasonAgainst) (maxL := 6) (ret := (some .int)) (by decide) rfl ?_
  intro p e s m args below meth c s₁ B hml hv
  obtain ⟨rfl, hW⟩ := hv
  obtain ⟨Z, E, hr⟩ := zEnter (own := RX5) B hml rfl hW
  have hl := lv_entry ([.ref a0, .int a1, .ref a2, .int a3]) (n := 6) (Nat.le_of_ble_eq_true rfl)
  rw [lg_entry_eq]
  generalize (lg_sl ([.ref a0, .int a1, .ref a2, .int a3]) ++ List.replicate (6 - (lg_sl ([.ref a0, .int a1, .ref a2, .int a3])).length) Slot.unset).toArray = ls at hl ⊢
  have hl : lv_has ls 6 [(0, .ref a0), (1, .int a1), (2, .ref a2), (3, .int a3)] := hl
  exact t_X5_reasonAgainst (out := (r, h')) Z hr hf E hl
/-! FerryCrews$State.coverPlace(LFerryCrews$Sailing;I)Z -/
theorem dX5_coverPlace_0 : decode cX5_coverPlace 0 = .ok (.aload_n 0, 1) := by decide +kernel
theorem dX5_coverPlace_1 : decode cX5_coverPlace 1 = .ok (.iload_n 2, 1) := by decide +kernel
theorem dX5_coverPlace_2 : decode cX5_coverPlace 2 = .ok (.invokevirtual 169, 3) := by decide +kernel
theorem dX5_coverPlace_5 : decode cX5_coverPlace 5 = .ok (.astore_n 3, 1) := by decide +kernel
theorem dX5_coverPlace_6 : decode cX5_coverPlace 6 = .ok (.aload_n 3, 1) := by decide +kernel
theorem dX5_coverPlace_7 : decode cX5_coverPlace 7 = .ok (.ifnonnull 5, 3) := by decide +kernel
theorem dX5_coverPlace_10 : decode cX5_coverPlace 10 = .ok (.iconst 0, 1) := by decide +kernel
theorem dX5_coverPlace_11 : decode cX5_coverPlace 11 = .ok (.ireturn, 1) := by decide +kernel
theorem dX5_coverPlace_12 : decode cX5_coverPlace 12 = .ok (.iconst 0, 1) := by decide +kernel
theorem dX5_coverPlace_13 : decode cX5_coverPlace 13 = .ok (.istore 4, 2) := by decide +kernel
theorem dX5_coverPlace_15 : decode cX5_coverPlace 15 = .ok (.iload 4, 2) := by decide +kernel
theorem dX5_coverPlace_17 : decode cX5_coverPlace 17 = .ok (.aload_n 3, 1) := by decide +kernel
theorem dX5_coverPlace_18 : decode cX5_coverPlace 18 = .ok (.getfield 173, 3) := by decide +kernel
theorem dX5_coverPlace_21 : decode cX5_coverPlace 21 = .ok (.if_icmp .ge 61, 3) := by decide +kernel
theorem dX5_coverPlace_24 : decode cX5_coverPlace 24 = .ok (.aload_n 3, 1) := by decide +kernel
theorem dX5_coverPlace_25 : decode cX5_coverPlace 25 = .ok (.iload 4, 2) := by decide +kernel
theorem dX5_coverPlace_27 : decode cX5_coverPlace 27 = .ok (.invokevirtual 176, 3) := by decide +kernel
theorem dX5_coverPlace_30 : decode cX5_coverPlace 30 = .ok (.istore 5, 2) := by decide +kernel
theorem dX5_coverPlace_32 : decode cX5_coverPlace 32 = .ok (.aload_n 0, 1) := by decide +kernel
theorem dX5_coverPlace_33 : decode cX5_coverPlace 33 = .ok (.iload 5, 2) := by decide +kernel
theorem dX5_coverPlace_35 : decode cX5_coverPlace 35 = .ok (.invokevirtual 156, 3) := by decide +kernel
theorem dX5_coverPlace_38 : decode cX5_coverPlace 38 = .ok (.astore 6, 2) := by decide +kernel
theorem dX5_coverPlace_40 : decode cX5_coverPlace 40 = .ok (.aload 6, 2) := by decide +kernel
theorem dX5_coverPlace_42 : decode cX5_coverPlace 42 = .ok (.ifnull 34, 3) := by decide +kernel
theorem dX5_coverPlace_45 : decode cX5_coverPlace 45 = .ok (.aload_n 0, 1) := by decide +kernel
theorem dX5_coverPlace_46 : decode cX5_coverPlace 46 = .ok (.iload 5, 2) := by decide +kernel
theorem dX5_coverPlace_48 : decode cX5_coverPlace 48 = .ok (.aload_n 1, 1) := by decide +kernel
theorem dX5_coverPlace_49 : decode cX5_coverPlace 49 = .ok (.iload_n 2, 1) := by decide +kernel
theorem dX5_coverPlace_50 : decode cX5_coverPlace 50 = .ok (.invokevirtual 179, 3) := by decide +kernel
theorem dX5_coverPlace_53 : decode cX5_coverPlace 53 = .ok (.ifCond .ne 23, 3) := by decide +kernel
theorem dX5_coverPlace_56 : decode cX5_coverPlace 56 = .ok (.aload_n 1, 1) := by decide +kernel
theorem dX5_coverPlace_57 : decode cX5_coverPlace 57 = .ok (.iload 5, 2) := by decide +kernel
theorem dX5_coverPlace_59 : decode cX5_coverPlace 59 = .ok (.iload_n 2, 1) := by decide +kernel
theorem dX5_coverPlace_60 : decode cX5_coverPlace 60 = .ok (.invokevirtual 183, 3) := by decide +kernel
theorem dX5_coverPlace_63 : decode cX5_coverPlace 63 = .ok (.aload 6, 2) := by decide +kernel
theorem dX5_coverPlace_65 : decode cX5_coverPlace 65 = .ok (.dup, 1) := by decide +kernel
theorem dX5_coverPlace_66 : decode cX5_coverPlace 66 = .ok (.getfield 187, 3) := by decide +kernel
theorem dX5_coverPlace_69 : decode cX5_coverPlace 69 = .ok (.iconst 1, 1) := by decide +kernel
theorem dX5_coverPlace_70 : decode cX5_coverPlace 70 = .ok (.iadd, 1) := by decide +kernel
theorem dX5_coverPlace_71 : decode cX5_coverPlace 71 = .ok (.putfield 187, 3) := by decide +kernel
theorem dX5_coverPlace_74 : decode cX5_coverPlace 74 = .ok (.iconst 1, 1) := by decide +kernel
theorem dX5_coverPlace_75 : decode cX5_coverPlace 75 = .ok (.ireturn, 1) := by decide +kernel
theorem dX5_coverPlace_76 : decode cX5_coverPlace 76 = .ok (.iinc 4 1, 3) := by decide +kernel
theorem dX5_coverPlace_79 : decode cX5_coverPlace 79 = .ok (.goto (-64), 3) := by decide +kernel
theorem dX5_coverPlace_82 : decode cX5_coverPlace 82 = .ok (.iconst 0, 1) := by decide +kernel
theorem dX5_coverPlace_83 : decode cX5_coverPlace 83 = .ok (.ireturn, 1) := by decide +kernel
set_option maxRecDepth 20000 in
theorem wc_X5_ladderOf : Cond.code yX5_ladderOf cX5_ladderOf 2 (some (.object "FerryCrews$Ladder")) ∈ zB := List.mem_filter.mpr ⟨List.mem_of_getElem? (i := 276) (by decide +kernel), by decide +kernel⟩
set_option maxRecDepth 20000 in
theorem wm_X5_169 : Cond.methodLink RX5 169 yX5_ladderOf ∈ zB := List.mem_filter.mpr ⟨List.mem_of_getElem? (i := 602) (by decide +kernel), by decide +kernel⟩
theorem k_X5_169 : zCal RX5 169 yX5_ladderOf cX5_ladderOf 2 (some (.object "FerryCrews$Ladder")) 1 := ⟨wm_X5_169, wi_X5, wc_X5_ladderOf, by decide +kernel, by decide +kernel, by decide +kernel⟩
set_option maxRecDepth 20000 in
theorem wn_X5_ladderOf : Cond.instanceMethod yX5_ladderOf ∈ zB := List.mem_filter.mpr ⟨List.mem_of_getElem? (i := 274) (by decide +kernel), by decide +kernel⟩
set_option maxRecDepth 20000 in
theorem ws_X5_ladderOf : Cond.selects RX5 yX5_ladderOf yX5_ladderOf ∈ zB := List.mem_filter.mpr ⟨List.mem_of_getElem? (i := 275) (by decide +kernel), by decide +kernel⟩
theorem v_X5_ladderOf : zVir yX5_ladderOf 5 := ⟨wn_X5_ladderOf, ws_X5_ladderOf, TX5, 8, rfl⟩
set_option maxRecDepth 20000 in
theorem wf_X5_173 : Cond.fieldLink RX5 173 RX2 "size" "I" ∈ zB := List.mem_filter.mpr ⟨List.mem_of_getElem? (i := 138) (by decide +kernel), by decide +kernel⟩
theorem q_X5_173 : zFld RX5 173 2 1 := ⟨RX2, TX2, 2, rfl, by decide, iX2, wf_X5_173, rfl⟩
set_option maxRecDepth 20000 in
theorem wm_X5_176 : Cond.methodLink RX5 176 yX2_memberOfRank ∈ zB := List.mem_filter.mpr ⟨List.mem_of_getElem? (i := 603) (by decide +kernel), by decide +kernel⟩
theorem k_X5_176 : zCal RX5 176 yX2_memberOfRank cX2_memberOfRank 2 (some .int) 1 := ⟨wm_X5_176, wi_X2, wc_X2_memberOfRank, by decide +kernel, by decide +kernel, by decide +kernel⟩
set_option maxRecDepth 20000 in
theorem wc_X5_reasonAgainst : Cond.code yX5_reasonAgainst cX5_reasonAgainst 6 (some .int) ∈ zB := List.mem_filter.mpr ⟨List.mem_of_getElem? (i := 401) (by decide +kernel), by decide +kernel⟩
set_option maxRecDepth 20000 in
theorem wm_X5_179 : Cond.methodLink RX5 179 yX5_reasonAgainst ∈ zB := List.mem_filter.mpr ⟨List.mem_of_getElem? (i := 604) (by decide +kernel), by decide +kernel⟩
theorem k_X5_179 : zCal RX5 179 yX5_reasonAgainst cX5_reasonAgainst 6 (some .int) 3 := ⟨wm_X5_179, wi_X5, wc_X5_reasonAgainst, by decide +kernel, by decide +kernel, by decide +kernel⟩
set_option maxRecDepth 20000 in
theorem wn_X5_reasonAgainst : Cond.instanceMethod yX5_reasonAgainst ∈ zB := List.mem_filter.mpr ⟨List.mem_of_getElem? (i := 399) (by decide +kernel), by decide +kernel⟩
set_option maxRecDepth 20000 in
theorem ws_X5_reasonAgainst : Cond.selects RX5 yX5_reasonAgainst yX5_reasonAgainst ∈ zB := List.mem_filter.mpr ⟨List.mem_of_getElem? (i := 400) (by decide +kernel), by decide +kernel⟩
theorem v_X5_reasonAgainst : zVir yX5_reasonAgainst 5 := ⟨wn_X5_reasonAgainst, ws_X5_reasonAgainst, TX5, 8, rfl⟩
set_option maxRecDepth 20000 in
theorem wm_X5_183 : Cond.methodLink RX5 183 yX4_seat ∈ zB := List.mem_filter.mpr ⟨List.mem_of_getElem? (i := 605) (by decide +kernel), by decide +kernel⟩
theorem k_X5_183 : zCal RX5 183 yX4_seat cX4_seat 3 none 2 := ⟨wm_X5_183, wi_X4, wc_X4_seat, by decide +kernel, by decide +kernel, by decide +kernel⟩
set_option maxRecDepth 20000 in
theorem wf_X5_187 : Cond.fieldLink RX5 187 RX3 "covers" "I" ∈ zB := List.mem_filter.mpr ⟨List.mem_of_getElem? (i := 122) (by decide +kernel), by decide +kernel⟩
theorem q_X5_187 : zFld RX5 187 3 2 := ⟨RX3, TX3, 3, rfl, by decide, iX3, wf_X5_187, rfl⟩
theorem p_X5_187 : zPut RX5 187 3 2 false .int := ⟨RX3, TX3, 3, tyX3, rfl, by decide, iX3, wf_X5_187, rfl, tyX3_ok, nmX3, rfl, by decide +kernel, fun q => by cases q⟩
def rm_X5_coverPlace : Room := { frames := 5, cells := 0, slots := 0, locals := 113 }
set_option maxHeartbeats 4000000 in
set_option maxRecDepth 20000 in
theorem t_X5_coverPlace_76 {p : Program} {l : Launch} {e : Env} {s : State} {m : MethodId} {args : Array Value} {below : List Frame} {meth : Method} {c : Code} {G : zG} (Z : zF p s m args c meth cX5_coverPlace 7 RX5 G) (hr : meth.sig.returnType = (some .boolean)) {out : Int32 × zHp} {r15 : Nat → Nat → Int32 → Nat → Int32 → zHp → Option (Int32 × zHp)} (k15 : ∀ {a0 : Nat} {a1 : Nat} {a2 : Int32} {a3 : Nat} {a4 : Int32} {h : zHp} {H : Heap} {locs : List Loc} {ls : Array Slot}, r15 a0 a1 a2 a3 a4 h = some out → zE G s h H locs → lv_has ls 7 [(0, .ref a0), (1, .ref a1), (2, .int a2), (3, .ref a3), (4, .int a4)] → W p l e rm_X5_coverPlace s m args below meth c H locs 0 0 (MQ below (zQi G out.1 out.2) args s 0 0 (zA G)) (F0 m 15 ls [])) {a0 : Nat} {a1 : Nat} {a2 : Int32} {a3 : Nat} {a4 : Int32} {h : zHp} {H : Heap} {locs : List Loc} {ls : Array Slot} (hf : f_X5_coverPlace_76 r15 a0 a1 a2 a3 a4 h = some out) (E : zE G s h H locs) (hl : lv_has ls 7 [(0, .ref a0), (1, .ref a1), (2, .int a2), (3, .ref a3), (4, .int a4)]) : W p l e rm_X5_coverPlace s m args below meth c H locs 0 0 (MQ below (zQi G out.1 out.2) args s 0 0 (zA G)) (F0 m 76 ls []) := by
  unfold f_X5_coverPlace_76 at hf
  refine lv_iinc (v := (a4 + 1)) (lv' := [(4, .int (a4 + 1)), (0, .ref a0), (1, .ref a1), (2, .int a2), (3, .ref a3)]) Z.x Z.b dX5_coverPlace_76 hl (k := 4) rfl rfl (by decide) rfl (fun ls hl => ?_)
  refine lv_goto (tgt := 15) Z.x Z.b dX5_coverPlace_79 (by decide) ?_
  exact k15 hf E (lv_sub hl [1, 2, 3, 4, 0] rfl)
set_option maxHeartbeats 4000000 in
set_option maxRecDepth 20000 in
theorem t_X5_coverPlace_15_body {p : Program} {l : Launch} {e : Env} {s : State} {m : MethodId} {args : Array Value} {below : List Frame} {meth : Method} {c : Code} {G : zG} (Z : zF p s m args c meth cX5_coverPlace 7 RX5 G) (hr : meth.sig.returnType = (some .boolean)) {out : Int32 × zHp} {r15 : Nat → Nat → Int32 → Nat → Int32 → zHp → Option (Int32 × zHp)} (k15 : ∀ {a0 : Nat} {a1 : Nat} {a2 : Int32} {a3 : Nat} {a4 : Int32} {h : zHp} {H : Heap} {locs : List Loc} {ls : Array Slot}, r15 a0 a1 a2 a3 a4 h = some out → zE G s h H locs → lv_has ls 7 [(0, .ref a0), (1, .ref a1), (2, .int a2), (3, .ref a3), (4, .int a4)] → W p l e rm_X5_coverPlace s m args below meth c H locs 0 0 (MQ below (zQi G out.1 out.2) args s 0 0 (zA G)) (F0 m 15 ls [])) {a0 : Nat} {a1 : Nat} {a2 : Int32} {a3 : Nat} {a4 : Int32} {h : zHp} {H : Heap} {locs : List Loc} {ls : Array Slot} (hf : f_X5_coverPlace_15_body r15 a0 a1 a2 a3 a4 h = some out) (E : zE G s h H locs) (hl : lv_has ls 7 [(0, .ref a0), (1, .ref a1), (2, .int a2), (3, .ref a3), (4, .int a4)]) : W p l e rm_X5_coverPlace s m args below meth c H locs 0 0 (MQ below (zQi G out.1 out.2) args s 0 0 (zA G)) (F0 m 15 ls []) := by
  unfold f_X5_coverPlace_15_body at hf
  refine lv_iload Z.x Z.b dX5_coverPlace_15 (lv_at hl 4 rfl) ?_
  refine lv_aload_n Z.x Z.b dX5_coverPlace_17 rfl (lv_at hl 3 rfl) ?_
  refine z_getI Z E q_X5_173 dX5_coverPlace_18 hf (fun v1 hf => ?_)
  refine lv_icmp_ge (tgt := 82) Z.x Z.b dX5_coverPlace_21 (by decide) (fun c => ?_) (fun c => ?_)
  · have hf := zit hf c
    refine lv_iconst (v := 0) Z.x Z.b dX5_coverPlace_82 (by decide) ?_
    exact z_zret Z E hr dX5_coverPlace_83 hf
  · have hf := zif_ hf c
    refine lv_aload_n Z.x Z.b dX5_coverPlace_24 rfl (lv_at hl 3 rfl) ?_
    refine lv_iload Z.x Z.b dX5_coverPlace_25 (lv_at hl 4 rfl) ?_
    refine z_Vi (As := [.int a4]) Z E hl.1 k_X5_176 v_X2_memberOfRank hf (fun r h' e => c_X2_memberOfRank l G h h' a3 a4 r e) rfl rfl (Nat.le_of_ble_eq_true rfl) (zRm_of rfl (Nat.zero_le _) (Nat.zero_le _)) dX5_coverPlace_27 (fun v2 h3 H locs hf E => ?_)
    refine lv_istore (lv' := [(5, .int v2), (0, .ref a0), (1, .ref a1), (2, .int a2), (3, .ref a3), (4, .int a4)]) Z.x Z.b dX5_coverPlace_30 hl (by decide) rfl (fun ls hl => ?_)
    refine lv_aload_n Z.x Z.b dX5_coverPlace_32 rfl (lv_at hl 1 rfl) ?_
    refine lv_iload Z.x Z.b dX5_coverPlace_33 (lv_at hl 0 rfl) ?_
    refine z_Vq (As := [.int v2]) Z E hl.1 k_X5_156 v_X5_memberAt hf (fun r h' e => c_X5_memberAt l G h3 h' a0 v2 r e) rfl rfl (Nat.le_of_ble_eq_true rfl) (zRm_of rfl (Nat.zero_le _) (Nat.zero_le _)) dX5_coverPlace_35 (fun w4 h5 H locs hf E => ?_)
    refine z_astore (lv' := [(6, va_rf w4), (5, .int v2), (0, .ref a0), (1, .ref a1), (2, .int a2), (3, .ref a3), (4, .int a4)]) Z (x := w4) dX5_coverPlace_38 hl (by decide) (by cases w4 <;> rfl) (fun ls hl => ?_)
    refine z_aload Z (x := w4) dX5_coverPlace_40 (lv_at hl 0 rfl) ?_
    refine z_ifnull (tgt := 76) Z dX5_coverPlace_42 (by decide) hf (fun ex h9_42 => ?_) (fun v6 ex h9_42 => ?_)
    · subst ex
      have hf := h9_42
      exact t_X5_coverPlace_76 Z hr k15 hf E (lv_sub hl [2, 3, 4, 5, 6] rfl)
    · subst ex
      have hf := h9_42
      refine lv_aload_n Z.x Z.b dX5_coverPlace_45 rfl (lv_at hl 2 rfl) ?_
      refine lv_iload Z.x Z.b dX5_coverPlace_46 (lv_at hl 1 rfl) ?_
      refine lv_aload_n Z.x Z.b dX5_coverPlace_48 rfl (lv_at hl 3 rfl) ?_
      refine lv_iload_n Z.x Z.b dX5_coverPlace_49 rfl (lv_at hl 4 rfl) ?_
      refine z_Vi (As := [.int v2, .ref a1, .int a2]) Z E hl.1 k_X5_179 v_X5_reasonAgainst hf (fun r h' e => c_X5_reasonAgainst l G h5 h' a0 v2 a1 a2 r e) rfl rfl (Nat.le_of_ble_eq_true rfl) (zRm_of rfl (Nat.zero_le _) (Nat.zero_le _)) dX5_coverPlace_50 (fun v7 h8 H locs hf E => ?_)
      refine lv_if_ne (tgt := 76) Z.x Z.b dX5_coverPlace_53 (by decide) (fun c => ?_) (fun c => ?_)
      · have hf := zif_ hf c
        exact t_X5_coverPlace_76 Z hr k15 hf E (lv_sub hl [2, 3, 4, 5, 6] rfl)
      · have hf := zit hf c
        refine lv_aload_n Z.x Z.b dX5_coverPlace_56 rfl (lv_at hl 3 rfl) ?_
        refine lv_iload Z.x Z.b dX5_coverPlace_57 (lv_at hl 1 rfl) ?_
        refine lv_iload_n Z.x Z.b dX5_coverPlace_59 rfl (lv_at hl 4 rfl) ?_
        refine z_Vv (As := [.int v2, .int a2]) Z E hl.1 k_X5_183 v_X4_seat hf (fun h' e => c_X4_seat l G h8 h' a1 v2 a2 e) rfl rfl (Nat.le_of_ble_eq_true rfl) (zRm_of rfl (Nat.zero_le _) (Nat.zero_le _)) dX5_coverPlace_60 (fun h9 H locs hf E => ?_)
        refine lv_aload Z.x Z.b dX5_coverPlace_63 (lv_at hl 0 rfl) ?_
        refine lv_dup Z.x Z.b dX5_coverPlace_65 rfl ?_
        refine z_getI Z E q_X5_187 dX5_coverPlace_66 hf (fun v10 hf => ?_)
        refine lv_iconst (v := 1) Z.x Z.b dX5_coverPlace_69 (by decide) ?_
        refine lv_iadd Z.x Z.b dX5_coverPlace_70 ?_
        refine z_put Z E p_X5_187 rfl rfl dX5_coverPlace_71 hf (fun h11 H locs hf E => ?_)
        refine lv_iconst (v := 1) Z.x Z.b dX5_coverPlace_74 (by decide) ?_
        exact z_zret Z E hr dX5_coverPlace_75 hf
theorem t_X5_coverPlace_15 {p : Program} {l : Launch} {e : Env} {s : State} {m : MethodId} {args : Array Value} {below : List Frame} {meth : Method} {c : Code} {G : zG} (Z : zF p s m args c meth cX5_coverPlace 7 RX5 G) (hr : meth.sig.returnType = (some .boolean)) {out : Int32 × zHp} : ∀ (n : Nat), ∀ {a0 : Nat} {a1 : Nat} {a2 : Int32} {a3 : Nat} {a4 : Int32} {h : zHp} {H : Heap} {locs : List Loc} {ls : Array Slot}, f_X5_coverPlace_15 n a0 a1 a2 a3 a4 h = some out → zE G s h H locs → lv_has ls 7 [(0, .ref a0), (1, .ref a1), (2, .int a2), (3, .ref a3), (4, .int a4)] → W p l e rm_X5_coverPlace s m args below meth c H locs 0 0 (MQ below (zQi G out.1 out.2) args s 0 0 (zA G)) (F0 m 15 ls [])
  | 0 => fun hf => by cases hf
  | n + 1 => fun hf E hl => t_X5_coverPlace_15_body Z hr (r15 := f_X5_coverPlace_15 n) (t_X5_coverPlace_15 Z hr n) hf E hl
set_option maxHeartbeats 4000000 in
set_option maxRecDepth 20000 in
theorem t_X5_coverPlace {p : Program} {l : Launch} {e : Env} {s : State} {m : MethodId} {args : Array Value} {below : List Frame} {meth : Method} {c : Code} {G : zG} (Z : zF p s m args c meth cX5_coverPlace 7 RX5 G) (hr : meth.sig.returnType = (some .boolean)) {out : Int32 × zHp} {a0 : Nat} {a1 : Nat} {a2 : Int32} {h : zHp} {H : Heap} {locs : List Loc} {ls : Array Slot} (hf : f_X5_coverPlace a0 a1 a2 h = some out) (E : zE G s h H locs) (hl : lv_has ls 7 [(0, .ref a0), (1, .ref a1), (2, .int a2)]) : W p l e rm_X5_coverPlace s m args below meth c H locs 0 0 (MQ below (zQi G out.1 out.2) args s 0 0 (zA G)) (F0 m 0 ls []) := by
  unfold f_X5_coverPlace at hf
  refine lv_aload_n Z.x Z.b dX5_coverPlace_0 rfl (lv_at hl 0 rfl) ?_
  refine lv_iload_n Z.x Z.b dX5_coverPlace_1 rfl (lv_at hl 2 rfl) ?_
  refine z_Vq (As := [.int a2]) Z E hl.1 k_X5_169 v_X5_ladderOf hf (fun r h' e => c_X5_ladderOf l G h h' a0 a2 r e) rfl rfl (Nat.le_of_ble_eq_true rfl) (zRm_of rfl (Nat.zero_le _) (Nat.zero_le _)) dX5_coverPlace_2 (fun w1 h2 H locs hf E => ?_)
  refine z_astore_n (lv' := [(3, va_rf w1), (0, .ref a0), (1, .ref a1), (2, .int a2)]) Z (x := w1) dX5_coverPlace_5 rfl hl (by decide) (by cases w1 <;> rfl) (fun ls hl => ?_)
  refine z_aload_n Z (x := w1) dX5_coverPlace_6 rfl (lv_at hl 0 rfl) ?_
  refine z_ifnonnull (tgt := 12) Z dX5_coverPlace_7 (by decide) hf (fun ex h9_7 => ?_) (fun v3 ex h9_7 => ?_)
  · subst ex
    have hf := h9_7
    refine lv_iconst (v := 0) Z.x Z.b dX5_coverPlace_10 (by decide) ?_
    exact z_zret Z E hr dX5_coverPlace_11 hf
  · subst ex
    have hf := h9_7
    refine lv_iconst (v := 0) Z.x Z.b dX5_coverPlace_12 (by decide) ?_
    refine lv_istore (lv' := [(4, .int 0), (3, .ref v3), (0, .ref a0), (1, .ref a1), (2, .int a2)]) Z.x Z.b dX5_coverPlace_13 hl (by decide) rfl (fun ls hl => ?_)
    exact t_X5_coverPlace_15 Z hr zN hf E (lv_sub hl [2, 3, 4, 1, 0] rfl)
set_option maxHeartbeats 4000000 in
set_option maxRecDepth 20000 in
theorem c_X5_coverPlace (l : Launch) (G : zG) (h : zHp) (h' : zHp) (a0 : Nat) (a1 : Nat) (a2 : Int32) (r : Int32) (hf : f_X5_coverPlace a0 a1 a2 h = some (r, h')) : zM0 l yX5_coverPlace cX5_coverPlace 7 (some .boolean) rm_X5_coverPlace G [.ref a0, .ref a1, .int a2] h (zQi G r h') := by
  refine Met.ofW (cc := cX5_coverPlace) (maxL := 7) (ret := (some .boolean)) (by decide) rfl ?_
  intro p e s m args below meth c s₁ B hml hv
  obtain ⟨rfl, hW⟩ := hv
  obtain ⟨Z, E, hr⟩ := zEnter (own := RX5) B hml rfl hW
  have hl := lv_entry ([.ref a0, .ref a1, .int a2]) (n := 7) (Nat.le_of_ble_eq_true rfl)
  rw [lg_entry_eq]
  generalize (lg_sl ([.ref a0, .ref a1, .int a2]) ++ List.replicate (7 - (lg_sl ([.ref a0, .ref a1, .int a2])).length) Slot.unset).toArray = ls at hl ⊢
  have hl : lv_has ls 7 [(0, .ref a0), (1, .ref a1), (2, .int a2)] := hl
  exact t_X5_coverPlace (out := (r, h')) Z hr hf E hl
/-! FerryCrews$State.coverAllPlaces(LFerryCrews$Sailing;)I -/
theorem dX5_coverAllPlaces_0 : decode cX5_coverAllPlaces 0 = .ok (.iconst 0, 1) := by decide +kernel
theorem dX5_coverAllPlaces_1 : decode cX5_coverAllPlaces 1 = .ok (.istore_n 2, 1) := by decide +kernel
theorem dX5_coverAllPlaces_2 : decode cX5_coverAllPlaces 2 = .ok (.iload_n 2, 1) := by decide +kernel
theorem dX5_coverAllPlaces_3 : decode cX5_coverAllPlaces 3 = .ok (.iconst 4, 1) := by decide +kernel
theorem dX5_coverAllPlaces_4 : decode cX5_coverAllPlaces 4 = .ok (.if_icmp .ge 32, 3) := by decide +kernel
theorem dX5_coverAllPlaces_7 : decode cX5_coverAllPlaces 7 = .ok (.aload_n 1, 1) := by decide +kernel
theorem dX5_coverAllPlaces_8 : decode cX5_coverAllPlaces 8 = .ok (.iload_n 2, 1) := by decide +kernel
theorem dX5_coverAllPlaces_9 : decode cX5_coverAllPlaces 9 = .ok (.invokevirtual 160, 3) := by decide +kernel
theorem dX5_coverAllPlaces_12 : decode cX5_coverAllPlaces 12 = .ok (.istore_n 3, 1) := by decide +kernel
theorem dX5_coverAllPlaces_13 : decode cX5_coverAllPlaces 13 = .ok (.iload_n 3, 1) := by decide +kernel
theorem dX5_coverAllPlaces_14 : decode cX5_coverAllPlaces 14 = .ok (.ifCond .le 16, 3) := by decide +kernel
theorem dX5_coverAllPlaces_17 : decode cX5_coverAllPlaces 17 = .ok (.aload_n 0, 1) := by decide +kernel
theorem dX5_coverAllPlaces_18 : decode cX5_coverAllPlaces 18 = .ok (.aload_n 1, 1) := by decide +kernel
theorem dX5_coverAllPlaces_19 : decode cX5_coverAllPlaces 19 = .ok (.iload_n 2, 1) := by decide +kernel
theorem dX5_coverAllPlaces_20 : decode cX5_coverAllPlaces 20 = .ok (.invokevirtual 190, 3) := by decide +kernel
theorem dX5_coverAllPlaces_23 : decode cX5_coverAllPlaces 23 = .ok (.pop, 1) := by decide +kernel
theorem dX5_coverAllPlaces_24 : decode cX5_coverAllPlaces 24 = .ok (.iinc 3 (-1), 3) := by decide +kernel
theorem dX5_coverAllPlaces_27 : decode cX5_coverAllPlaces 27 = .ok (.goto (-14), 3) := by decide +kernel
theorem dX5_coverAllPlaces_30 : decode cX5_coverAllPlaces 30 = .ok (.iinc 2 1, 3) := by decide +kernel
theorem dX5_coverAllPlaces_33 : decode cX5_coverAllPlaces 33 = .ok (.goto (-31), 3) := by decide +kernel
theorem dX5_coverAllPlaces_36 : decode cX5_coverAllPlaces 36 = .ok (.aload_n 1, 1) := by decide +kernel
theorem dX5_coverAllPlaces_37 : decode cX5_coverAllPlaces 37 = .ok (.invokevirtual 194, 3) := by decide +kernel
theorem dX5_coverAllPlaces_40 : decode cX5_coverAllPlaces 40 = .ok (.ireturn, 1) := by decide +kernel
set_option maxRecDepth 20000 in
theorem wm_X5_194 : Cond.methodLink RX5 194 yX4_freePlaces ∈ zB := List.mem_filter.mpr ⟨List.mem_of_getElem? (i := 351) (by decide +kernel), by decide +kernel⟩
theorem k_X5_194 : zCal RX5 194 yX4_freePlaces cX4_freePlaces 1 (some .int) 0 := ⟨wm_X5_194, wi_X4, wc_X4_freePlaces, by decide +kernel, by decide +kernel, by decide +kernel⟩
set_option maxRecDepth 20000 in
theorem wc_X5_coverPlace : Cond.code yX5_coverPlace cX5_coverPlace 7 (some .boolean) ∈ zB := List.mem_filter.mpr ⟨List.mem_of_getElem? (i := 601) (by decide +kernel), by decide +kernel⟩
set_option maxRecDepth 20000 in
theorem wm_X5_190 : Cond.methodLink RX5 190 yX5_coverPlace ∈ zB := List.mem_filter.mpr ⟨List.mem_of_getElem? (i := 598) (by decide +kernel), by decide +kernel⟩
theorem k_X5_190 : zCal RX5 190 yX5_coverPlace cX5_coverPlace 7 (some .boolean) 2 := ⟨wm_X5_190, wi_X5, wc_X5_coverPlace, by decide +kernel, by decide +kernel, by decide +kernel⟩
set_option maxRecDepth 20000 in
theorem wn_X5_coverPlace : Cond.instanceMethod yX5_coverPlace ∈ zB := List.mem_filter.mpr ⟨List.mem_of_getElem? (i := 600) (by decide +kernel), by decide +kernel⟩
set_option maxRecDepth 20000 in
theorem ws_X5_coverPlace : Cond.selects RX5 yX5_coverPlace yX5_coverPlace ∈ zB := List.mem_filter.mpr ⟨List.mem_of_getElem? (i := 5) (by decide +kernel), by decide +kernel⟩
theorem v_X5_coverPlace : zVir yX5_coverPlace 5 := ⟨wn_X5_coverPlace, ws_X5_coverPlace, TX5, 8, rfl⟩
def rm_X5_coverAllPlaces : Room := { frames := 6, cells := 0, slots := 0, locals := 139 }
set_option maxHeartbeats 4000000 in
set_option maxRecDepth 20000 in
theorem t_X5_coverAllPlaces_13_body {p : Program} {l : Launch} {e : Env} {s : State} {m : MethodId} {args : Array Value} {below : List Frame} {meth : Method} {c : Code} {G : zG} (Z : zF p s m args c meth cX5_coverAllPlaces 4 RX5 G) (hr : meth.sig.returnType = (some .int)) {out : Int32 × zHp} {r2 : Nat → Nat → Int32 → zHp → Option (Int32 × zHp)} (k2 : ∀ {a0 : Nat} {a1 : Nat} {a2 : Int32} {h : zHp} {H : Heap} {locs : List Loc} {ls : Array Slot}, r2 a0 a1 a2 h = some out → zE G s h H locs → lv_has ls 4 [(0, .ref a0), (1, .ref a1), (2, .int a2)] → W p l e rm_X5_coverAllPlaces s m args below meth c H locs 0 0 (MQ below (zQi G out.1 out.2) args s 0 0 (zA G)) (F0 m 2 ls [])) {r13 : Nat → Nat → Int32 → Int32 → zHp → Option (Int32 × zHp)} (k13 : ∀ {a0 : Nat} {a1 : Nat} {a2 : Int32} {a3 : Int32} {h : zHp} {H : Heap} {locs : List Loc} {ls : Array Slot}, r13 a0 a1 a2 a3 h = some out → zE G s h H locs → lv_has ls 4 [(0, .ref a0), (1, .ref a1), (2, .int a2), (3, .int a3)] → W p l e rm_X5_coverAllPlaces s m args below meth c H locs 0 0 (MQ below (zQi G out.1 out.2) args s 0 0 (zA G)) (F0 m 13 ls [])) {a0 : Nat} {a1 : Nat} {a2 : Int32} {a3 : Int32} {h : zHp} {H : Heap} {locs : List Loc} {ls : Array Slot} (hf : f_X5_coverAllPlaces_13_body r2 r13 a0 a1 a2 a3 h = some out) (E : zE G s h H locs) (hl : lv_has ls 4 [(0, .ref a0), (1, .ref a1), (2, .int a2), (3, .int a3)]) : W p l e rm_X5_coverAllPlaces s m args below meth c H locs 0 0 (MQ below (zQi G out.1 out.2) args s 0 0 (zA G)) (F0 m 13 ls []) := by
  unfold f_X5_coverAllPlaces_13_body at hf
  refine lv_iload_n Z.x Z.b dX5_coverAllPlaces_13 rfl (lv_at hl 3 rfl) ?_
  refine lv_if_le (tgt := 30) Z.x Z.b dX5_coverAllPlaces_14 (by decide) (fun c => ?_) (fun c => ?_)
  · have hf := zit hf c
    refine lv_iinc (v := (a2 + 1)) (lv' := [(2, .int (a2 + 1)), (0, .ref a0), (1, .ref a1), (3, .int a3)]) Z.x Z.b dX5_coverAllPlaces_30 hl (k := 2) rfl rfl (by decide) rfl (fun ls hl => ?_)
    refine lv_goto (tgt := 2) Z.x Z.b dX5_coverAllPlaces_33 (by decide) ?_
    exact k2 hf E (lv_sub hl [1, 2, 0] rfl)
  · have hf := zif_ hf c
    refine lv_aload_n Z.x Z.b dX5_coverAllPlaces_17 rfl (lv_at hl 0 rfl) ?_
    refine lv_aload_n Z.x Z.b dX5_coverAllPlaces_18 rfl (lv_at hl 1 rfl) ?_
    refine lv_iload_n Z.x Z.b dX5_coverAllPlaces_19 rfl (lv_at hl 2 rfl) ?_
    refine z_Vi (As := [.ref a1, .int a2]) Z E hl.1 k_X5_190 v_X5_coverPlace hf (fun r h' e => c_X5_coverPlace l G h h' a0 a1 a2 r e) rfl rfl (Nat.le_of_ble_eq_true rfl) (zRm_of rfl (Nat.zero_le _) (Nat.zero_le _)) dX5_coverAllPlaces_20 (fun v1 h2 H locs hf E => ?_)
    refine lv_pop Z.x Z.b dX5_coverAllPlaces_23 rfl ?_
    refine lv_iinc (v := (a3 + (-1))) (lv' := [(3, .int (a3 + (-1))), (0, .ref a0), (1, .ref a1), (2, .int a2)]) Z.x Z.b dX5_coverAllPlaces_24 hl (k := 3) rfl rfl (by decide) rfl (fun ls hl => ?_)
    refine lv_goto (tgt := 13) Z.x Z.b dX5_coverAllPlaces_27 (by decide) ?_
    exact k13 hf E (lv_sub hl [1, 2, 3, 0] rfl)
theorem t_X5_coverAllPlaces_13 {p : Program} {l : Launch} {e : Env} {s : State} {m : MethodId} {args : Array Value} {below : List Frame} {meth : Method} {c : Code} {G : zG} (Z : zF p s m args c meth cX5_coverAllPlaces 4 RX5 G) (hr : meth.sig.returnType = (some .int)) {out : Int32 × zHp} {r2 : Nat → Nat → Int32 → zHp → Option (Int32 × zHp)} (k2 : ∀ {a0 : Nat} {a1 : Nat} {a2 : Int32} {h : zHp} {H : Heap} {locs : List Loc} {ls : Array Slot}, r2 a0 a1 a2 h = some out → zE G s h H locs → lv_has ls 4 [(0, .ref a0), (1, .ref a1), (2, .int a2)] → W p l e rm_X5_coverAllPlaces s m args below meth c H locs 0 0 (MQ below (zQi G out.1 out.2) args s 0 0 (zA G)) (F0 m 2 ls [])) : ∀ (n : Nat), ∀ {a0 : Nat} {a1 : Nat} {a2 : Int32} {a3 : Int32} {h : zHp} {H : Heap} {locs : List Loc} {ls : Array Slot}, f_X5_coverAllPlaces_13 r2 n a0 a1 a2 a3 h = some out → zE G s h H locs → lv_has ls 4 [(0, .ref a0), (1, .ref a1), (2, .int a2), (3, .int a3)] → W p l e rm_X5_coverAllPlaces s m args below meth c H locs 0 0 (MQ below (zQi G out.1 out.2) args s 0 0 (zA G)) (F0 m 13 ls [])
  | 0 => fun hf => by cases hf
  | n + 1 => fun hf E hl => t_X5_coverAllPlaces_13_body Z hr k2 (r13 := f_X5_coverAllPlaces_13 r2 n) (t_X5_coverAllPlaces_13 Z hr k2 n) hf E hl
set_option maxHeartbeats 4000000 in
set_option maxRecDepth 20000 in
theorem t_X5_coverAllPlaces_2_body {p : Program} {l : Launch} {e : Env} {s : State} {m : MethodId} {args : Array Value} {below : List Frame} {meth : Method} {c : Code} {G : zG} (Z : zF p s m args c meth cX5_coverAllPlaces 4 RX5 G) (hr : meth.sig.returnType = (some .int)) {out : Int32 × zHp} {r2 : Nat → Nat → Int32 → zHp → Option (Int32 × zHp)} (k2 : ∀ {a0 : Nat} {a1 : Nat} {a2 : Int32} {h : zHp} {H : Heap} {locs : List Loc} {ls : Array Slot}, r2 a0 a1 a2 h = some out → zE G s h H locs → lv_has ls 4 [(0, .ref a0), (1, .ref a1), (2, .int a2)] → W p l e rm_X5_coverAllPlaces s m args below meth c H locs 0 0 (MQ below (zQi G out.1 out.2) args s 0 0 (zA G)) (F0 m 2 ls [])) {a0 : Nat} {a1 : Nat} {a2 : Int32} {h : zHp} {H : Heap} {locs : List Loc} {ls : Array Slot} (hf : f_X5_coverAllPlaces_2_body r2 a0 a1 a2 h = some out) (E : zE G s h H locs) (hl : lv_has ls 4 [(0, .ref a0), (1, .ref a1), (2, .int a2)]) : W p l e rm_X5_coverAllPlaces s m args below meth c H locs 0 0 (MQ below (zQi G out.1 out.2) args s 0 0 (zA G)) (F0 m 2 ls []) := by
  unfold f_X5_coverAllPlaces_2_body at hf
  refine lv_iload_n Z.x Z.b dX5_coverAllPlaces_2 rfl (lv_at hl 2 rfl) ?_
  refine lv_iconst (v := 4) Z.x Z.b dX5_coverAllPlaces_3 (by decide) ?_
  refine lv_icmp_ge (tgt := 36) Z.x Z.b dX5_coverAllPlaces_4 (by decide) (fun c => ?_) (fun c => ?_)
  · have hf := zit hf c
    refine lv_aload_n Z.x Z.b dX5_coverAllPlaces_36 rfl (lv_at hl 1 rfl) ?_
    refine z_Vi (As := []) Z E hl.1 k_X5_194 v_X4_freePlaces hf (fun r h' e => c_X4_freePlaces l G h h' a1 r e) rfl rfl (Nat.le_of_ble_eq_true rfl) (zRm_of rfl (Nat.zero_le _) (Nat.zero_le _)) dX5_coverAllPlaces_37 (fun v1 h2 H locs hf E => ?_)
    exact z_iret Z E hr dX5_coverAllPlaces_40 hf
  · have hf := zif_ hf c
    refine lv_aload_n Z.x Z.b dX5_coverAllPlaces_7 rfl (lv_at hl 1 rfl) ?_
    refine lv_iload_n Z.x Z.b dX5_coverAllPlaces_8 rfl (lv_at hl 2 rfl) ?_
    refine z_Vi (As := [.int a2]) Z E hl.1 k_X5_160 v_X4_freePlacesOf hf (fun r h' e => c_X4_freePlacesOf l G h h' a1 a2 r e) rfl rfl (Nat.le_of_ble_eq_true rfl) (zRm_of rfl (Nat.zero_le _) (Nat.zero_le _)) dX5_coverAllPlaces_9 (fun v3 h4 H locs hf E => ?_)
    refine lv_istore_n (lv' := [(3, .int v3), (0, .ref a0), (1, .ref a1), (2, .int a2)]) Z.x Z.b dX5_coverAllPlaces_12 rfl hl (by decide) rfl (fun ls hl => ?_)
    exact t_X5_coverAllPlaces_13 Z hr k2 zN hf E (lv_sub hl [1, 2, 3, 0] rfl)
theorem t_X5_coverAllPlaces_2 {p : Program} {l : Launch} {e : Env} {s : State} {m : MethodId} {args : Array Value} {below : List Frame} {meth : Method} {c : Code} {G : zG} (Z : zF p s m args c meth cX5_coverAllPlaces 4 RX5 G) (hr : meth.sig.returnType = (some .int)) {out : Int32 × zHp} : ∀ (n : Nat), ∀ {a0 : Nat} {a1 : Nat} {a2 : Int32} {h : zHp} {H : Heap} {locs : List Loc} {ls : Array Slot}, f_X5_coverAllPlaces_2 n a0 a1 a2 h = some out → zE G s h H locs → lv_has ls 4 [(0, .ref a0), (1, .ref a1), (2, .int a2)] → W p l e rm_X5_coverAllPlaces s m args below meth c H locs 0 0 (MQ below (zQi G out.1 out.2) args s 0 0 (zA G)) (F0 m 2 ls [])
  | 0 => fun hf => by cases hf
  | n + 1 => fun hf E hl => t_X5_coverAllPlaces_2_body Z hr (r2 := f_X5_coverAllPlaces_2 n) (t_X5_coverAllPlaces_2 Z hr n) hf E hl
set_option maxHeartbeats 4000000 in
set_option maxRecDepth 20000 in
theorem t_X5_coverAllPlaces {p : Program} {l : Launch} {e : Env} {s : State} {m : MethodId} {args : Array Value} {below : List Frame} {meth : Method} {c : Code} {G : zG} (Z : zF p s m args c meth cX5_coverAllPlaces 4 RX5 G) (hr : meth.sig.returnType = (some .int)) {out : Int32 × zHp} {a0 : Nat} {a1 : Nat} {h : zHp} {H : Heap} {locs : List Loc} {ls : Array Slot} (hf : f_X5_coverAllPlaces a0 a1 h = some out) (E : zE G s h H locs) (hl : lv_has ls 4 [(0, .ref a0), (1, .ref a1)]) : W p l e rm_X5_coverAllPlaces s m args below meth c H locs 0 0 (MQ below (zQi G out.1 out.2) args s 0 0 (zA G)) (F0 m 0 ls []) := by
  unfold f_X5_coverAllPlaces at hf
  refine lv_iconst (v := 0) Z.x Z.b dX5_coverAllPlaces_0 (by decide) ?_
  refine lv_istore_n (lv' := [(2, .int 0), (0, .ref a0), (1, .ref a1)]) Z.x Z.b dX5_coverAllPlaces_1 rfl hl (by decide) rfl (fun ls hl => ?_)
  exact t_X5_coverAllPlaces_2 Z hr zN hf E (lv_sub hl [1, 2, 0] rfl)
set_option maxHeartbeats 4000000 in
set_option maxRecDepth 20000 in
theorem c_X5_coverAllPlaces (l : Launch) (G : zG) (h : zHp) (h' : zHp) (a0 : Nat) (a1 : Nat) (r : Int32) (hf : f_X5_coverAllPlaces a0 a1 h = some (r, h')) : zM0 l yX5_coverAllPlaces cX5_coverAllPlaces 4 (some .int) rm_X5_coverAllPlaces G [.ref a0, .ref a1] h (zQi G r h') := by
  refine Met.ofW (cc := cX5_coverAllPlaces) (maxL := 4) (ret := (some .int)) (by decide) rfl ?_
  intro p e s m args below meth c s₁ B hml hv
  obtain ⟨rfl, hW⟩ := hv
  obtain ⟨Z, E, hr⟩ := zEnter (own := RX5) B hml rfl hW
  have hl := lv_entry ([.ref a0, .ref a1]) (n := 4) (Nat.le_of_ble_eq_true rfl)
  rw [lg_entry_eq]
  generalize (lg_sl ([.ref a0, .ref a1]) ++ List.replicate (4 - (lg_sl ([.ref a0, .ref a1])).length) Slot.unset).toArray = ls at hl ⊢
  have hl : lv_has ls 4 [(0, .ref a0), (1, .ref a1)] := hl
  exact t_X5_coverAllPlaces (out := (r, h')) Z hr hf E hl
/-! FerryCrews$State.fallSick(II)I -/
theorem dX5_fallSick_0 : decode cX5_fallSick 0 = .ok (.aload_n 0, 1) := by decide +kernel
theorem dX5_fallSick_1 : decode cX5_fallSick 1 = .ok (.iload_n 1, 1) := by decide +kernel
theorem dX5_fallSick_2 : decode cX5_fallSick 2 = .ok (.invokevirtual 156, 3) := by decide +kernel
theorem dX5_fallSick_5 : decode cX5_fallSick 5 = .ok (.astore_n 3, 1) := by decide +kernel
theorem dX5_fallSick_6 : decode cX5_fallSick 6 = .ok (.aload_n 3, 1) := by decide +kernel
theorem dX5_fallSick_7 : decode cX5_fallSick 7 = .ok (.ifnonnull 5, 3) := by decide +kernel
theorem dX5_fallSick_10 : decode cX5_fallSick 10 = .ok (.iconst (-1), 1) := by decide +kernel
theorem dX5_fallSick_11 : decode cX5_fallSick 11 = .ok (.ireturn, 1) := by decide +kernel
theorem dX5_fallSick_12 : decode cX5_fallSick 12 = .ok (.aload_n 3, 1) := by decide +kernel
theorem dX5_fallSick_13 : decode cX5_fallSick 13 = .ok (.aload_n 0, 1) := by decide +kernel
theorem dX5_fallSick_14 : decode cX5_fallSick 14 = .ok (.getfield 37, 3) := by decide +kernel
theorem dX5_fallSick_17 : decode cX5_fallSick 17 = .ok (.iload_n 2, 1) := by decide +kernel
theorem dX5_fallSick_18 : decode cX5_fallSick 18 = .ok (.iadd, 1) := by decide +kernel
theorem dX5_fallSick_19 : decode cX5_fallSick 19 = .ok (.putfield 166, 3) := by decide +kernel
theorem dX5_fallSick_22 : decode cX5_fallSick 22 = .ok (.aload_n 0, 1) := by decide +kernel
theorem dX5_fallSick_23 : decode cX5_fallSick 23 = .ok (.getfield 17, 3) := by decide +kernel
theorem dX5_fallSick_26 : decode cX5_fallSick 26 = .ok (.astore 4, 2) := by decide +kernel
theorem dX5_fallSick_28 : decode cX5_fallSick 28 = .ok (.aload 4, 2) := by decide +kernel
theorem dX5_fallSick_30 : decode cX5_fallSick 30 = .ok (.arraylength, 1) := by decide +kernel
theorem dX5_fallSick_31 : decode cX5_fallSick 31 = .ok (.istore 5, 2) := by decide +kernel
theorem dX5_fallSick_33 : decode cX5_fallSick 33 = .ok (.iconst 0, 1) := by decide +kernel
theorem dX5_fallSick_34 : decode cX5_fallSick 34 = .ok (.istore 6, 2) := by decide +kernel
theorem dX5_fallSick_36 : decode cX5_fallSick 36 = .ok (.iload 6, 2) := by decide +kernel
theorem dX5_fallSick_38 : decode cX5_fallSick 38 = .ok (.iload 5, 2) := by decide +kernel
theorem dX5_fallSick_40 : decode cX5_fallSick 40 = .ok (.if_icmp .ge 63, 3) := by decide +kernel
theorem dX5_fallSick_43 : decode cX5_fallSick 43 = .ok (.aload 4, 2) := by decide +kernel
theorem dX5_fallSick_45 : decode cX5_fallSick 45 = .ok (.iload 6, 2) := by decide +kernel
theorem dX5_fallSick_47 : decode cX5_fallSick 47 = .ok (.aaload, 1) := by decide +kernel
theorem dX5_fallSick_48 : decode cX5_fallSick 48 = .ok (.astore 7, 2) := by decide +kernel
theorem dX5_fallSick_50 : decode cX5_fallSick 50 = .ok (.aload 7, 2) := by decide +kernel
theorem dX5_fallSick_52 : decode cX5_fallSick 52 = .ok (.invokevirtual 108, 3) := by decide +kernel
theorem dX5_fallSick_55 : decode cX5_fallSick 55 = .ok (.ifCond .eq 19, 3) := by decide +kernel
theorem dX5_fallSick_58 : decode cX5_fallSick 58 = .ok (.aload 7, 2) := by decide +kernel
theorem dX5_fallSick_60 : decode cX5_fallSick 60 = .ok (.getfield 97, 3) := by decide +kernel
theorem dX5_fallSick_63 : decode cX5_fallSick 63 = .ok (.aload_n 3, 1) := by decide +kernel
theorem dX5_fallSick_64 : decode cX5_fallSick 64 = .ok (.getfield 166, 3) := by decide +kernel
theorem dX5_fallSick_67 : decode cX5_fallSick 67 = .ok (.if_icmp .ge 7, 3) := by decide +kernel
theorem dX5_fallSick_70 : decode cX5_fallSick 70 = .ok (.iconst 1, 1) := by decide +kernel
theorem dX5_fallSick_71 : decode cX5_fallSick 71 = .ok (.goto 4, 3) := by decide +kernel
theorem dX5_fallSick_74 : decode cX5_fallSick 74 = .ok (.iconst 0, 1) := by decide +kernel
theorem dX5_fallSick_75 : decode cX5_fallSick 75 = .ok (.istore 8, 2) := by decide +kernel
theorem dX5_fallSick_77 : decode cX5_fallSick 77 = .ok (.aload 7, 2) := by decide +kernel
theorem dX5_fallSick_79 : decode cX5_fallSick 79 = .ok (.iload 8, 2) := by decide +kernel
theorem dX5_fallSick_81 : decode cX5_fallSick 81 = .ok (.ifCond .eq 12, 3) := by decide +kernel
theorem dX5_fallSick_84 : decode cX5_fallSick 84 = .ok (.aload 7, 2) := by decide +kernel
theorem dX5_fallSick_86 : decode cX5_fallSick 86 = .ok (.iload_n 1, 1) := by decide +kernel
theorem dX5_fallSick_87 : decode cX5_fallSick 87 = .ok (.invokevirtual 198, 3) := by decide +kernel
theorem dX5_fallSick_90 : decode cX5_fallSick 90 = .ok (.goto 4, 3) := by decide +kernel
theorem dX5_fallSick_93 : decode cX5_fallSick 93 = .ok (.iconst (-1), 1) := by decide +kernel
theorem dX5_fallSick_94 : decode cX5_fallSick 94 = .ok (.putfield 201, 3) := by decide +kernel
theorem dX5_fallSick_97 : decode cX5_fallSick 97 = .ok (.iinc 6 1, 3) := by decide +kernel
theorem dX5_fallSick_100 : decode cX5_fallSick 100 = .ok (.goto (-64), 3) := by decide +kernel
theorem dX5_fallSick_103 : decode cX5_fallSick 103 = .ok (.iconst 0, 1) := by decide +kernel
theorem dX5_fallSick_104 : decode cX5_fallSick 104 = .ok (.istore 4, 2) := by decide +kernel
theorem dX5_fallSick_106 : decode cX5_fallSick 106 = .ok (.aload_n 0, 1) := by decide +kernel
theorem dX5_fallSick_107 : decode cX5_fallSick 107 = .ok (.getfield 17, 3) := by decide +kernel
theorem dX5_fallSick_110 : decode cX5_fallSick 110 = .ok (.astore 5, 2) := by decide +kernel
theorem dX5_fallSick_112 : decode cX5_fallSick 112 = .ok (.aload 5, 2) := by decide +kernel
theorem dX5_fallSick_114 : decode cX5_fallSick 114 = .ok (.arraylength, 1) := by decide +kernel
theorem dX5_fallSick_115 : decode cX5_fallSick 115 = .ok (.istore 6, 2) := by decide +kernel
theorem dX5_fallSick_117 : decode cX5_fallSick 117 = .ok (.iconst 0, 1) := by decide +kernel
theorem dX5_fallSick_118 : decode cX5_fallSick 118 = .ok (.istore 7, 2) := by decide +kernel
theorem dX5_fallSick_120 : decode cX5_fallSick 120 = .ok (.iload 7, 2) := by decide +kernel
theorem dX5_fallSick_122 : decode cX5_fallSick 122 = .ok (.iload 6, 2) := by decide +kernel
theorem dX5_fallSick_124 : decode cX5_fallSick 124 = .ok (.if_icmp .ge 42, 3) := by decide +kernel
theorem dX5_fallSick_127 : decode cX5_fallSick 127 = .ok (.aload 5, 2) := by decide +kernel
theorem dX5_fallSick_129 : decode cX5_fallSick 129 = .ok (.iload 7, 2) := by decide +kernel
theorem dX5_fallSick_131 : decode cX5_fallSick 131 = .ok (.aaload, 1) := by decide +kernel
theorem dX5_fallSick_132 : decode cX5_fallSick 132 = .ok (.astore 8, 2) := by decide +kernel
theorem dX5_fallSick_134 : decode cX5_fallSick 134 = .ok (.aload 8, 2) := by decide +kernel
theorem dX5_fallSick_136 : decode cX5_fallSick 136 = .ok (.getfield 201, 3) := by decide +kernel
theorem dX5_fallSick_139 : decode cX5_fallSick 139 = .ok (.iconst (-1), 1) := by decide +kernel
theorem dX5_fallSick_140 : decode cX5_fallSick 140 = .ok (.if_icmp .eq 20, 3) := by decide +kernel
theorem dX5_fallSick_143 : decode cX5_fallSick 143 = .ok (.aload_n 0, 1) := by decide +kernel
theorem dX5_fallSick_144 : decode cX5_fallSick 144 = .ok (.aload 8, 2) := by decide +kernel
theorem dX5_fallSick_146 : decode cX5_fallSick 146 = .ok (.aload 8, 2) := by decide +kernel
theorem dX5_fallSick_148 : decode cX5_fallSick 148 = .ok (.getfield 201, 3) := by decide +kernel
theorem dX5_fallSick_151 : decode cX5_fallSick 151 = .ok (.invokevirtual 190, 3) := by decide +kernel
theorem dX5_fallSick_154 : decode cX5_fallSick 154 = .ok (.ifCond .ne 6, 3) := by decide +kernel
theorem dX5_fallSick_157 : decode cX5_fallSick 157 = .ok (.iinc 4 1, 3) := by decide +kernel
theorem dX5_fallSick_160 : decode cX5_fallSick 160 = .ok (.iinc 7 1, 3) := by decide +kernel
theorem dX5_fallSick_163 : decode cX5_fallSick 163 = .ok (.goto (-43), 3) := by decide +kernel
theorem dX5_fallSick_166 : decode cX5_fallSick 166 = .ok (.iload 4, 2) := by decide +kernel
theorem dX5_fallSick_168 : decode cX5_fallSick 168 = .ok (.ireturn, 1) := by decide +kernel
theorem p_X5_166 : zPut RX5 166 3 1 false .int := ⟨RX3, TX3, 3, tyX3, rfl, by decide, iX3, wf_X5_166, rfl, tyX3_ok, nmX3, rfl, by decide +kernel, fun q => by cases q⟩
set_option maxRecDepth 20000 in
theorem wf_X5_201 : Cond.fieldLink RX5 201 RX4 "roleGivenUp" "I" ∈ zB := List.mem_filter.mpr ⟨List.mem_of_getElem? (i := 90) (by decide +kernel), by decide +kernel⟩
theorem q_X5_201 : zFld RX5 201 4 6 := ⟨RX4, TX4, 9, rfl, by decide, iX4, wf_X5_201, rfl⟩
set_option maxRecDepth 20000 in
theorem wc_X4_unseat : Cond.code yX4_unseat cX4_unseat 3 (some .int) ∈ zB := List.mem_filter.mpr ⟨List.mem_of_getElem? (i := 614) (by decide +kernel), by decide +kernel⟩
set_option maxRecDepth 20000 in
theorem wm_X5_198 : Cond.methodLink RX5 198 yX4_unseat ∈ zB := List.mem_filter.mpr ⟨List.mem_of_getElem? (i := 628) (by decide +kernel), by decide +kernel⟩
theorem k_X5_198 : zCal RX5 198 yX4_unseat cX4_unseat 3 (some .int) 1 := ⟨wm_X5_198, wi_X4, wc_X4_unseat, by decide +kernel, by decide +kernel, by decide +kernel⟩
set_option maxRecDepth 20000 in
theorem wn_X4_unseat : Cond.instanceMethod yX4_unseat ∈ zB := List.mem_filter.mpr ⟨List.mem_of_getElem? (i := 612) (by decide +kernel), by decide +kernel⟩
set_option maxRecDepth 20000 in
theorem ws_X4_unseat : Cond.selects RX4 yX4_unseat yX4_unseat ∈ zB := List.mem_filter.mpr ⟨List.mem_of_getElem? (i := 613) (by decide +kernel), by decide +kernel⟩
theorem v_X4_unseat : zVir yX4_unseat 4 := ⟨wn_X4_unseat, ws_X4_unseat, TX4, 9, rfl⟩
theorem p_X5_201 : zPut RX5 201 4 6 false .int := ⟨RX4, TX4, 9, tyX4, rfl, by decide, iX4, wf_X5_201, rfl, tyX4_ok, nmX4, rfl, by decide +kernel, fun q => by cases q⟩
def rm_X5_fallSick : Room := { frames := 6, cells := 0, slots := 0, locals := 139 }
set_option maxHeartbeats 4000000 in
set_option maxRecDepth 20000 in
theorem t_X5_fallSick_160 {p : Program} {l : Launch} {e : Env} {s : State} {m : MethodId} {args : Array Value} {below : List Frame} {meth : Method} {c : Code} {G : zG} (Z : zF p s m args c meth cX5_fallSick 9 RX5 G) (hr : meth.sig.returnType = (some .int)) {out : Int32 × zHp} {r120 : Nat → Int32 → Nat → Int32 → Int32 → zHp → Option (Int32 × zHp)} (k120 : ∀ {a0 : Nat} {a4 : Int32} {a5 : Nat} {a6 : Int32} {a7 : Int32} {h : zHp} {H : Heap} {locs : List Loc} {ls : Array Slot}, r120 a0 a4 a5 a6 a7 h = some out → zE G s h H locs → lv_has ls 9 [(0, .ref a0), (4, .int a4), (5, .ref a5), (6, .int a6), (7, .int a7)] → W p l e rm_X5_fallSick s m args below meth c H locs 0 0 (MQ below (zQi G out.1 out.2) args s 0 0 (zA G)) (F0 m 120 ls [])) {a0 : Nat} {a4 : Int32} {a5 : Nat} {a6 : Int32} {a7 : Int32} {h : zHp} {H : Heap} {locs : List Loc} {ls : Array Slot} (hf : f_X5_fallSick_160 r120 a0 a4 a5 a6 a7 h = some out) (E : zE G s h H locs) (hl : lv_has ls 9 [(0, .ref a0), (4, .int a4), (5, .ref a5), (6, .int a6), (7, .int a7)]) : W p l e rm_X5_fallSick s m args below meth c H locs 0 0 (MQ below (zQi G out.1 out.2) args s 0 0 (zA G)) (F0 m 160 ls []) := by
  unfold f_X5_fallSick_160 at hf
  refine lv_iinc (v := (a7 + 1)) (lv' := [(7, .int (a7 + 1)), (0, .ref a0), (4, .int a4), (5, .ref a5), (6, .int a6)]) Z.x Z.b dX5_fallSick_160 hl (k := 4) rfl rfl (by decide) rfl (fun ls hl => ?_)
  refine lv_goto (tgt := 120) Z.x Z.b dX5_fallSick_163 (by decide) ?_
  exact k120 hf E (lv_sub hl [1, 2, 3, 4, 0] rfl)
set_option maxHeartbeats 4000000 in
set_option maxRecDepth 20000 in
theorem t_X5_fallSick_120_body {p : Program} {l : Launch} {e : Env} {s : State} {m : MethodId} {args : Array Value} {below : List Frame} {meth : Method} {c : Code} {G : zG} (Z : zF p s m args c meth cX5_fallSick 9 RX5 G) (hr : meth.sig.returnType = (some .int)) {out : Int32 × zHp} {r120 : Nat → Int32 → Nat → Int32 → Int32 → zHp → Option (Int32 × zHp)} (k120 : ∀ {a0 : Nat} {a4 : Int32} {a5 : Nat} {a6 : Int32} {a7 : Int32} {h : zHp} {H : Heap} {locs : List Loc} {ls : Array Slot}, r120 a0 a4 a5 a6 a7 h = some out → zE G s h H locs → lv_has ls 9 [(0, .ref a0), (4, .int a4), (5, .ref a5), (6, .int a6), (7, .int a7)] → W p l e rm_X5_fallSick s m args below meth c H locs 0 0 (MQ below (zQi G out.1 out.2) args s 0 0 (zA G)) (F0 m 120 ls [])) {a0 : Nat} {a4 : Int32} {a5 : Nat} {a6 : Int32} {a7 : Int32} {h : zHp} {H : Heap} {locs : List Loc} {ls : Array Slot} (hf : f_X5_fallSick_120_body r120 a0 a4 a5 a6 a7 h = some out) (E : zE G s h H locs) (hl : lv_has ls 9 [(0, .ref a0), (4, .int a4), (5, .ref a5), (6, .int a6), (7, .int a7)]) : W p l e rm_X5_fallSick s m args below meth c H locs 0 0 (MQ below (zQi G out.1 out.2) args s 0 0 (zA G)) (F0 m 120 ls []) := by
  unfold f_X5_fallSick_120_body at hf
  refine lv_iload Z.x Z.b dX5_fallSick_120 (lv_at hl 4 rfl) ?_
  refine lv_iload Z.x Z.b dX5_fallSick_122 (lv_at hl 3 rfl) ?_
  refine lv_icmp_ge (tgt := 166) Z.x Z.b dX5_fallSick_124 (by decide) (fun c => ?_) (fun c => ?_)
  · have hf := zit hf c
    refine lv_iload Z.x Z.b dX5_fallSick_166 (lv_at hl 1 rfl) ?_
    exact z_iret Z E hr dX5_fallSick_168 hf
  · have hf := zif_ hf c
    refine lv_aload Z.x Z.b dX5_fallSick_127 (lv_at hl 2 rfl) ?_
    refine lv_iload Z.x Z.b dX5_fallSick_129 (lv_at hl 4 rfl) ?_
    refine z_aald (kd := 2) Z E rfl dX5_fallSick_131 hf (fun v1 hf => ?_)
    refine lv_astore (lv' := [(8, .ref v1), (0, .ref a0), (4, .int a4), (5, .ref a5), (6, .int a6), (7, .int a7)]) Z.x Z.b dX5_fallSick_132 hl (by decide) rfl (fun ls hl => ?_)
    refine lv_aload Z.x Z.b dX5_fallSick_134 (lv_at hl 0 rfl) ?_
    refine z_getI Z E q_X5_201 dX5_fallSick_136 hf (fun v2 hf => ?_)
    refine lv_iconst (v := (-1)) Z.x Z.b dX5_fallSick_139 (by decide) ?_
    refine lv_icmp_eq (tgt := 160) Z.x Z.b dX5_fallSick_140 (by decide) (fun c => ?_) (fun c => ?_)
    · have hf := zit hf c
      exact t_X5_fallSick_160 Z hr k120 hf E (lv_sub hl [1, 2, 3, 4, 5] rfl)
    · have hf := zif_ hf c
      refine lv_aload_n Z.x Z.b dX5_fallSick_143 rfl (lv_at hl 1 rfl) ?_
      refine lv_aload Z.x Z.b dX5_fallSick_144 (lv_at hl 0 rfl) ?_
      refine lv_aload Z.x Z.b dX5_fallSick_146 (lv_at hl 0 rfl) ?_
      refine z_getI Z E q_X5_201 dX5_fallSick_148 hf (fun v3 hf => ?_)
      refine z_Vi (As := [.ref v1, .int v3]) Z E hl.1 k_X5_190 v_X5_coverPlace hf (fun r h' e => c_X5_coverPlace l G h h' a0 v1 v3 r e) rfl rfl (Nat.le_of_ble_eq_true rfl) (zRm_of rfl (Nat.zero_le _) (Nat.zero_le _)) dX5_fallSick_151 (fun v4 h5 H locs hf E => ?_)
      refine lv_if_ne (tgt := 160) Z.x Z.b dX5_fallSick_154 (by decide) (fun c => ?_) (fun c => ?_)
      · have hf := zif_ hf c
        exact t_X5_fallSick_160 Z hr k120 hf E (lv_sub hl [1, 2, 3, 4, 5] rfl)
      · have hf := zit hf c
        refine lv_iinc (v := (a4 + 1)) (lv' := [(4, .int (a4 + 1)), (8, .ref v1), (0, .ref a0), (5, .ref a5), (6, .int a6), (7, .int a7)]) Z.x Z.b dX5_fallSick_157 hl (k := 2) rfl rfl (by decide) rfl (fun ls hl => ?_)
        exact t_X5_fallSick_160 Z hr k120 hf E (lv_sub hl [2, 0, 3, 4, 5] rfl)
theorem t_X5_fallSick_120 {p : Program} {l : Launch} {e : Env} {s : State} {m : MethodId} {args : Array Value} {below : List Frame} {meth : Method} {c : Code} {G : zG} (Z : zF p s m args c meth cX5_fallSick 9 RX5 G) (hr : meth.sig.returnType = (some .int)) {out : Int32 × zHp} : ∀ (n : Nat), ∀ {a0 : Nat} {a4 : Int32} {a5 : Nat} {a6 : Int32} {a7 : Int32} {h : zHp} {H : Heap} {locs : List Loc} {ls : Array Slot}, f_X5_fallSick_120 n a0 a4 a5 a6 a7 h = some out → zE G s h H locs → lv_has ls 9 [(0, .ref a0), (4, .int a4), (5, .ref a5), (6, .int a6), (7, .int a7)] → W p l e rm_X5_fallSick s m args below meth c H locs 0 0 (MQ below (zQi G out.1 out.2) args s 0 0 (zA G)) (F0 m 120 ls [])
  | 0 => fun hf => by cases hf
  | n + 1 => fun hf E hl => t_X5_fallSick_120_body Z hr (r120 := f_X5_fallSick_120 n) (t_X5_fallSick_120 Z hr n) hf E hl
set_option maxHeartbeats 4000000 in
set_option maxRecDepth 20000 in
theorem t_X5_fallSick_94 {p : Program} {l : Launch} {e : Env} {s : State} {m : MethodId} {args : Array Value} {below : List Frame} {meth : Method} {c : Code} {G : zG} (Z : zF p s m args c meth cX5_fallSick 9 RX5 G) (hr : meth.sig.returnType = (some .int)) {out : Int32 × zHp} {r36 : Nat → Int32 → Nat → Nat → Int32 → Int32 → zHp → Option (Int32 × zHp)} (k36 : ∀ {a0 : Nat} {a1 : Int32} {a3 : Nat} {a4 : Nat} {a5 : Int32} {a6 : Int32} {h : zHp} {H : Heap} {locs : List Loc} {ls : Array Slot}, r36 a0 a1 a3 a4 a5 a6 h = some out → zE G s h H locs → lv_has ls 9 [(0, .ref a0), (1, .int a1), (3, .ref a3), (4, .ref a4), (5, .int a5), (6, .int a6)] → W p l e rm_X5_fallSick s m args below meth c H locs 0 0 (MQ below (zQi G out.1 out.2) args s 0 0 (zA G)) (F0 m 36 ls [])) {a0 : Nat} {a1 : Int32} {a3 : Nat} {a4 : Nat} {a5 : Int32} {a6 : Int32} {s0 : Int32} {s1 : Nat} {h : zHp} {H : Heap} {locs : List Loc} {ls : Array Slot} (hf : f_X5_fallSick_94 r36 a0 a1 a3 a4 a5 a6 s0 s1 h = some out) (E : zE G s h H locs) (hl : lv_has ls 9 [(0, .ref a0), (1, .int a1), (3, .ref a3), (4, .ref a4), (5, .int a5), (6, .int a6)]) : W p l e rm_X5_fallSick s m args below meth c H locs 0 0 (MQ below (zQi G out.1 out.2) args s 0 0 (zA G)) (F0 m 94 ls [.int s0, .ref s1]) := by
  unfold f_X5_fallSick_94 at hf
  refine z_put Z E p_X5_201 rfl rfl dX5_fallSick_94 hf (fun h1 H locs hf E => ?_)
  refine lv_iinc (v := (a6 + 1)) (lv' := [(6, .int (a6 + 1)), (0, .ref a0), (1, .int a1), (3, .ref a3), (4, .ref a4), (5, .int a5)]) Z.x Z.b dX5_fallSick_97 hl (k := 5) rfl rfl (by decide) rfl (fun ls hl => ?_)
  refine lv_goto (tgt := 36) Z.x Z.b dX5_fallSick_100 (by decide) ?_
  exact k36 hf E (lv_sub hl [1, 2, 3, 4, 5, 0] rfl)
set_option maxHeartbeats 4000000 in
set_option maxRecDepth 20000 in
theorem t_X5_fallSick_75 {p : Program} {l : Launch} {e : Env} {s : State} {m : MethodId} {args : Array Value} {below : List Frame} {meth : Method} {c : Code} {G : zG} (Z : zF p s m args c meth cX5_fallSick 9 RX5 G) (hr : meth.sig.returnType = (some .int)) {out : Int32 × zHp} {r36 : Nat → Int32 → Nat → Nat → Int32 → Int32 → zHp → Option (Int32 × zHp)} (k36 : ∀ {a0 : Nat} {a1 : Int32} {a3 : Nat} {a4 : Nat} {a5 : Int32} {a6 : Int32} {h : zHp} {H : Heap} {locs : List Loc} {ls : Array Slot}, r36 a0 a1 a3 a4 a5 a6 h = some out → zE G s h H locs → lv_has ls 9 [(0, .ref a0), (1, .int a1), (3, .ref a3), (4, .ref a4), (5, .int a5), (6, .int a6)] → W p l e rm_X5_fallSick s m args below meth c H locs 0 0 (MQ below (zQi G out.1 out.2) args s 0 0 (zA G)) (F0 m 36 ls [])) {a0 : Nat} {a1 : Int32} {a3 : Nat} {a4 : Nat} {a5 : Int32} {a6 : Int32} {a7 : Nat} {s0 : Int32} {h : zHp} {H : Heap} {locs : List Loc} {ls : Array Slot} (hf : f_X5_fallSick_75 r36 a0 a1 a3 a4 a5 a6 a7 s0 h = some out) (E : zE G s h H locs) (hl : lv_has ls 9 [(0, .ref a0), (1, .int a1), (3, .ref a3), (4, .ref a4), (5, .int a5), (6, .int a6), (7, .ref a7)]) : W p l e rm_X5_fallSick s m args below meth c H locs 0 0 (MQ below (zQi G out.1 out.2) args s 0 0 (zA G)) (F0 m 75 ls [.int s0]) := by
  unfold f_X5_fallSick_75 at hf
  refine lv_istore (lv' := [(8, .int s0), (0, .ref a0), (1, .int a1), (3, .ref a3), (4, .ref a4), (5, .int a5), (6, .int a6), (7, .ref a7)]) Z.x Z.b dX5_fallSick_75 hl (by decide) rfl (fun ls hl => ?_)
  refine lv_aload Z.x Z.b dX5_fallSick_77 (lv_at hl 7 rfl) ?_
  refine lv_iload Z.x Z.b dX5_fallSick_79 (lv_at hl 0 rfl) ?_
  refine lv_if_eq (tgt := 93) Z.x Z.b dX5_fallSick_81 (by decide) (fun c => ?_) (fun c => ?_)
  · have hf := zit hf c
    refine lv_iconst (v := (-1)) Z.x Z.b dX5_fallSick_93 (by decide) ?_
    exact t_X5_fallSick_94 Z hr k36 hf E (lv_sub hl [1, 2, 3, 4, 5, 6] rfl)
  · have hf := zif_ hf c
    refine lv_aload Z.x Z.b dX5_fallSick_84 (lv_at hl 7 rfl) ?_
    refine lv_iload_n Z.x Z.b dX5_fallSick_86 rfl (lv_at hl 2 rfl) ?_
    refine z_Vi (As := [.int a1]) Z E hl.1 k_X5_198 v_X4_unseat hf (fun r h' e => c_X4_unseat l G h h' a7 a1 r e) rfl rfl (Nat.le_of_ble_eq_true rfl) (zRm_of rfl (Nat.zero_le _) (Nat.zero_le _)) dX5_fallSick_87 (fun v1 h2 H locs hf E => ?_)
    refine lv_goto (tgt := 94) Z.x Z.b dX5_fallSick_90 (by decide) ?_
    exact t_X5_fallSick_94 Z hr k36 hf E (lv_sub hl [1, 2, 3, 4, 5, 6] rfl)
set_option maxHeartbeats 4000000 in
set_option maxRecDepth 20000 in
theorem t_X5_fallSick_74 {p : Program} {l : Launch} {e : Env} {s : State} {m : MethodId} {args : Array Value} {below : List Frame} {meth : Method} {c : Code} {G : zG} (Z : zF p s m args c meth cX5_fallSick 9 RX5 G) (hr : meth.sig.returnType = (some .int)) {out : Int32 × zHp} {r36 : Nat → Int32 → Nat → Nat → Int32 → Int32 → zHp → Option (Int32 × zHp)} (k36 : ∀ {a0 : Nat} {a1 : Int32} {a3 : Nat} {a4 : Nat} {a5 : Int32} {a6 : Int32} {h : zHp} {H : Heap} {locs : List Loc} {ls : Array Slot}, r36 a0 a1 a3 a4 a5 a6 h = some out → zE G s h H locs → lv_has ls 9 [(0, .ref a0), (1, .int a1), (3, .ref a3), (4, .ref a4), (5, .int a5), (6, .int a6)] → W p l e rm_X5_fallSick s m args below meth c H locs 0 0 (MQ below (zQi G out.1 out.2) args s 0 0 (zA G)) (F0 m 36 ls [])) {a0 : Nat} {a1 : Int32} {a3 : Nat} {a4 : Nat} {a5 : Int32} {a6 : Int32} {a7 : Nat} {h : zHp} {H : Heap} {locs : List Loc} {ls : Array Slot} (hf : f_X5_fallSick_74 r36 a0 a1 a3 a4 a5 a6 a7 h = some out) (E : zE G s h H locs) (hl : lv_has ls 9 [(0, .ref a0), (1, .int a1), (3, .ref a3), (4, .ref a4), (5, .int a5), (6, .int a6), (7, .ref a7)]) : W p l e rm_X5_fallSick s m args below meth c H locs 0 0 (MQ below (zQi G out.1 out.2) args s 0 0 (zA G)) (F0 m 74 ls []) := by
  unfold f_X5_fallSick_74 at hf
  refine lv_iconst (v := 0) Z.x Z.b dX5_fallSick_74 (by decide) ?_
  exact t_X5_fallSick_75 Z hr k36 hf E (lv_sub hl [0, 1, 2, 3, 4, 5, 6] rfl)
set_option maxHeartbeats 4000000 in
set_option maxRecDepth 20000 in
theorem t_X5_fallSick_36_body {p : Program} {l : Launch} {e : Env} {s : State} {m : MethodId} {args : Array Value} {below : List Frame} {meth : Method} {c : Code} {G : zG} (Z : zF p s m args c meth cX5_fallSick 9 RX5 G) (hr : meth.sig.returnType = (some .int)) {out : Int32 × zHp} {r36 : Nat → Int32 → Nat → Nat → Int32 → Int32 → zHp → Option (Int32 × zHp)} (k36 : ∀ {a0 : Nat} {a1 : Int32} {a3 : Nat} {a4 : Nat} {a5 : Int32} {a6 : Int32} {h : zHp} {H : Heap} {locs : List Loc} {ls : Array Slot}, r36 a0 a1 a3 a4 a5 a6 h = some out → zE G s h H locs → lv_has ls 9 [(0, .ref a0), (1, .int a1), (3, .ref a3), (4, .ref a4), (5, .int a5), (6, .int a6)] → W p l e rm_X5_fallSick s m args below meth c H locs 0 0 (MQ below (zQi G out.1 out.2) args s 0 0 (zA G)) (F0 m 36 ls [])) {a0 : Nat} {a1 : Int32} {a3 : Nat} {a4 : Nat} {a5 : Int32} {a6 : Int32} {h : zHp} {H : Heap} {locs : List Loc} {ls : Array Slot} (hf : f_X5_fallSick_36_body r36 a0 a1 a3 a4 a5 a6 h = some out) (E : zE G s h H locs) (hl : lv_has ls 9 [(0, .ref a0), (1, .int a1), (3, .ref a3), (4, .ref a4), (5, .int a5), (6, .int a6)]) : W p l e rm_X5_fallSick s m args below meth c H locs 0 0 (MQ below (zQi G out.1 out.2) args s 0 0 (zA G)) (F0 m 36 ls []) := by
  unfold f_X5_fallSick_36_body at hf
  refine lv_iload Z.x Z.b dX5_fallSick_36 (lv_at hl 5 rfl) ?_
  refine lv_iload Z.x Z.b dX5_fallSick_38 (lv_at hl 4 rfl) ?_
  refine lv_icmp_ge (tgt := 103) Z.x Z.b dX5_fallSick_40 (by decide) (fun c => ?_) (fun c => ?_)
  · have hf := zit hf c
    refine lv_iconst (v := 0) Z.x Z.b dX5_fallSick_103 (by decide) ?_
    refine lv_istore (lv' := [(4, .int 0), (0, .ref a0), (1, .int a1), (3, .ref a3), (5, .int a5), (6, .int a6)]) Z.x Z.b dX5_fallSick_104 hl (by decide) rfl (fun ls hl => ?_)
    refine lv_aload_n Z.x Z.b dX5_fallSick_106 rfl (lv_at hl 1 rfl) ?_
    refine z_getR Z E q_X5_17 dX5_fallSick_107 hf (fun v1 hf => ?_)
    refine lv_astore (lv' := [(5, .ref v1), (4, .int 0), (0, .ref a0), (1, .int a1), (3, .ref a3), (6, .int a6)]) Z.x Z.b dX5_fallSick_110 hl (by decide) rfl (fun ls hl => ?_)
    refine lv_aload Z.x Z.b dX5_fallSick_112 (lv_at hl 0 rfl) ?_
    refine z_alenR (kd := 2) Z E rfl dX5_fallSick_114 hf (fun v2 hf => ?_)
    refine lv_istore (lv' := [(6, .int v2), (5, .ref v1), (4, .int 0), (0, .ref a0), (1, .int a1), (3, .ref a3)]) Z.x Z.b dX5_fallSick_115 hl (by decide) rfl (fun ls hl => ?_)
    refine lv_iconst (v := 0) Z.x Z.b dX5_fallSick_117 (by decide) ?_
    refine lv_istore (lv' := [(7, .int 0), (6, .int v2), (5, .ref v1), (4, .int 0), (0, .ref a0), (1, .int a1), (3, .ref a3)]) Z.x Z.b dX5_fallSick_118 hl (by decide) rfl (fun ls hl => ?_)
    exact t_X5_fallSick_120 Z hr zN hf E (lv_sub hl [4, 3, 2, 1, 0] rfl)
  · have hf := zif_ hf c
    refine lv_aload Z.x Z.b dX5_fallSick_43 (lv_at hl 3 rfl) ?_
    refine lv_iload Z.x Z.b dX5_fallSick_45 (lv_at hl 5 rfl) ?_
    refine z_aald (kd := 2) Z E rfl dX5_fallSick_47 hf (fun v3 hf => ?_)
    refine lv_astore (lv' := [(7, .ref v3), (0, .ref a0), (1, .int a1), (3, .ref a3), (4, .ref a4), (5, .int a5), (6, .int a6)]) Z.x Z.b dX5_fallSick_48 hl (by decide) rfl (fun ls hl => ?_)
    refine lv_aload Z.x Z.b dX5_fallSick_50 (lv_at hl 0 rfl) ?_
    refine z_Vi (As := []) Z E hl.1 k_X5_108 v_X4_isOpen hf (fun r h' e => c_X4_isOpen l G h h' v3 r e) rfl rfl (Nat.le_of_ble_eq_true rfl) (zRm_of rfl (Nat.zero_le _) (Nat.zero_le _)) dX5_fallSick_52 (fun v4 h5 H locs hf E => ?_)
    refine lv_if_eq (tgt := 74) Z.x Z.b dX5_fallSick_55 (by decide) (fun c => ?_) (fun c => ?_)
    · have hf := zit hf c
      exact t_X5_fallSick_74 Z hr k36 hf E (lv_sub hl [1, 2, 3, 4, 5, 6, 0] rfl)
    · have hf := zif_ hf c
      refine lv_aload Z.x Z.b dX5_fallSick_58 (lv_at hl 0 rfl) ?_
      refine z_getI Z E q_X5_97 dX5_fallSick_60 hf (fun v6 hf => ?_)
      refine lv_aload_n Z.x Z.b dX5_fallSick_63 rfl (lv_at hl 3 rfl) ?_
      refine z_getI Z E q_X5_166 dX5_fallSick_64 hf (fun v7 hf => ?_)
      refine lv_icmp_ge (tgt := 74) Z.x Z.b dX5_fallSick_67 (by decide) (fun c => ?_) (fun c => ?_)
      · have hf := zit hf c
        exact t_X5_fallSick_74 Z hr k36 hf E (lv_sub hl [1, 2, 3, 4, 5, 6, 0] rfl)
      · have hf := zif_ hf c
        refine lv_iconst (v := 1) Z.x Z.b dX5_fallSick_70 (by decide) ?_
        refine lv_goto (tgt := 75) Z.x Z.b dX5_fallSick_71 (by decide) ?_
        exact t_X5_fallSick_75 Z hr k36 hf E (lv_sub hl [1, 2, 3, 4, 5, 6, 0] rfl)
theorem t_X5_fallSick_36 {p : Program} {l : Launch} {e : Env} {s : State} {m : MethodId} {args : Array Value} {below : List Frame} {meth : Method} {c : Code} {G : zG} (Z : zF p s m args c meth cX5_fallSick 9 RX5 G) (hr : meth.sig.returnType = (some .int)) {out : Int32 × zHp} : ∀ (n : Nat), ∀ {a0 : Nat} {a1 : Int32} {a3 : Nat} {a4 : Nat} {a5 : Int32} {a6 : Int32} {h : zHp} {H : Heap} {locs : List Loc} {ls : Array Slot}, f_X5_fallSick_36 n a0 a1 a3 a4 a5 a6 h = some out → zE G s h H locs → lv_has ls 9 [(0, .ref a0), (1, .int a1), (3, .ref a3), (4, .ref a4), (5, .int a5), (6, .int a6)] → W p l e rm_X5_fallSick s m args below meth c H locs 0 0 (MQ below (zQi G out.1 out.2) args s 0 0 (zA G)) (F0 m 36 ls [])
  | 0 => fun hf => by cases hf
  | n + 1 => fun hf E hl => t_X5_fallSick_36_body Z hr (r36 := f_X5_fallSick_36 n) (t_X5_fallSick_36 Z hr n) hf E hl
set_option maxHeartbeats 4000000 in
set_option maxRecDepth 20000 in
theorem t_X5_fallSick {p : Program} {l : Launch} {e : Env} {s : State} {m : MethodId} {args : Array Value} {below : List Frame} {meth : Method} {c : Code} {G : zG} (Z : zF p s m args c meth cX5_fallSick 9 RX5 G) (hr : meth.sig.returnType = (some .int)) {out : Int32 × zHp} {a0 : Nat} {a1 : Int32} {a2 : Int32} {h : zHp} {H : Heap} {locs : List Loc} {ls : Array Slot} (hf : f_X5_fallSick a0 a1 a2 h = some out) (E : zE G s h H locs) (hl : lv_has ls 9 [(0, .ref a0), (1, .int a1), (2, .int a2)]) : W p l e rm_X5_fallSick s m args below meth c H locs 0 0 (MQ below (zQi G out.1 out.2) args s 0 0 (zA G)) (F0 m 0 ls []) := by
  unfold f_X5_fallSick at hf
  refine lv_aload_n Z.x Z.b dX5_fallSick_0 rfl (lv_at hl 0 rfl) ?_
  refine lv_iload_n Z.x Z.b dX5_fallSick_1 rfl (lv_at hl 1 rfl) ?_
  refine z_Vq (As := [.int a1]) Z E hl.1 k_X5_156 v_X5_memberAt hf (fun r h' e => c_X5_memberAt l G h h' a0 a1 r e) rfl rfl (Nat.le_of_ble_eq_true rfl) (zRm_of rfl (Nat.zero_le _) (Nat.zero_le _)) dX5_fallSick_2 (fun w1 h2 H locs hf E => ?_)
  refine z_astore_n (lv' := [(3, va_rf w1), (0, .ref a0), (1, .int a1), (2, .int a2)]) Z (x := w1) dX5_fallSick_5 rfl hl (by decide) (by cases w1 <;> rfl) (fun ls hl => ?_)
  refine z_aload_n Z (x := w1) dX5_fallSick_6 rfl (lv_at hl 0 rfl) ?_
  refine z_ifnonnull (tgt := 12) Z dX5_fallSick_7 (by decide) hf (fun ex h9_7 => ?_) (fun v3 ex h9_7 => ?_)
  · subst ex
    have hf := h9_7
    refine lv_iconst (v := (-1)) Z.x Z.b dX5_fallSick_10 (by decide) ?_
    exact z_iret Z E hr dX5_fallSick_11 hf
  · subst ex
    have hf := h9_7
    refine lv_aload_n Z.x Z.b dX5_fallSick_12 rfl (lv_at hl 0 rfl) ?_
    refine lv_aload_n Z.x Z.b dX5_fallSick_13 rfl (lv_at hl 1 rfl) ?_
    refine z_getI Z E q_X5_37 dX5_fallSick_14 hf (fun v4 hf => ?_)
    refine lv_iload_n Z.x Z.b dX5_fallSick_17 rfl (lv_at hl 3 rfl) ?_
    refine lv_iadd Z.x Z.b dX5_fallSick_18 ?_
    refine z_put Z E p_X5_166 rfl rfl dX5_fallSick_19 hf (fun h5 H locs hf E => ?_)
    refine lv_aload_n Z.x Z.b dX5_fallSick_22 rfl (lv_at hl 1 rfl) ?_
    refine z_getR Z E q_X5_17 dX5_fallSick_23 hf (fun v6 hf => ?_)
    refine lv_astore (lv' := [(4, .ref v6), (3, .ref v3), (0, .ref a0), (1, .int a1), (2, .int a2)]) Z.x Z.b dX5_fallSick_26 hl (by decide) rfl (fun ls hl => ?_)
    refine lv_aload Z.x Z.b dX5_fallSick_28 (lv_at hl 0 rfl) ?_
    refine z_alenR (kd := 2) Z E rfl dX5_fallSick_30 hf (fun v7 hf => ?_)
    refine lv_istore (lv' := [(5, .int v7), (4, .ref v6), (3, .ref v3), (0, .ref a0), (1, .int a1), (2, .int a2)]) Z.x Z.b dX5_fallSick_31 hl (by decide) rfl (fun ls hl => ?_)
    refine lv_iconst (v := 0) Z.x Z.b dX5_fallSick_33 (by decide) ?_
    refine lv_istore (lv' := [(6, .int 0), (5, .int v7), (4, .ref v6), (3, .ref v3), (0, .ref a0), (1, .int a1), (2, .int a2)]) Z.x Z.b dX5_fallSick_34 hl (by decide) rfl (fun ls hl => ?_)
    exact t_X5_fallSick_36 Z hr zN hf E (lv_sub hl [4, 5, 3, 2, 1, 0] rfl)
set_option maxHeartbeats 4000000 in
set_option maxRecDepth 20000 in
theorem c_X5_fallSick (l : Launch) (G : zG) (h : zHp) (h' : zHp) (a0 : Nat) (a1 : Int32) (a2 : Int32) (r : Int32) (hf : f_X5_fallSick a0 a1 a2 h = some (r, h')) : zM0 l yX5_fallSick cX5_fallSick 9 (some .int) rm_X5_fallSick G [.ref a0, .int a1, .int a2] h (zQi G r h') := by
  refine Met.ofW (cc := cX5_fallSick) (maxL := 9) (ret := (some .int)) (by decide) rfl ?_
  intro p e s m args below meth c s₁ B hml hv
  obtain ⟨rfl, hW⟩ := hv
  obtain ⟨Z, E, hr⟩ := zEnter (own := RX5) B hml rfl hW
  have hl := lv_entry ([.ref a0, .int a1, .int a2]) (n := 9) (Nat.le_of_ble_eq_true rfl)
  rw [lg_entry_eq]
  generalize (lg_sl ([.ref a0, .int a1, .int a2]) ++ List.replicate (9 - (lg_sl ([.ref a0, .int a1, .int a2])).length) Slot.unset).toArray = ls at hl ⊢
  have hl : lv_has ls 9 [(0, .ref a0), (1, .int a1), (2, .int a2)] := hl
  exact t_X5_fallSick (out := (r, h')) Z hr hf E hl
/-! FerryCrews$State.goOn(I)I -/
theorem dX5_goOn_0 : decode cX5_goOn 0 = .ok (.aload_n 0, 1) := by decide +kernel
theorem dX5_goOn_1 : decode cX5_goOn 1 = .ok (.dup, 1) := by decide +kernel
theorem dX5_goOn_2 : decode cX5_goOn 2 = .ok (.getfield 37, 3) := by decide +kernel
theorem dX5_goOn_5 : decode cX5_goOn 5 = .ok (.iload_n 1, 1) := by decide +kernel
theorem dX5_goOn_6 : decode cX5_goOn 6 = .ok (.iadd, 1) := by decide +kernel
theorem dX5_goOn_7 : decode cX5_goOn 7 = .ok (.putfield 37, 3) := by decide +kernel
theorem dX5_goOn_10 : decode cX5_goOn 10 = .ok (.aload_n 0, 1) := by decide +kernel
theorem dX5_goOn_11 : decode cX5_goOn 11 = .ok (.getfield 17, 3) := by decide +kernel
theorem dX5_goOn_14 : decode cX5_goOn 14 = .ok (.astore_n 2, 1) := by decide +kernel
theorem dX5_goOn_15 : decode cX5_goOn 15 = .ok (.aload_n 2, 1) := by decide +kernel
theorem dX5_goOn_16 : decode cX5_goOn 16 = .ok (.arraylength, 1) := by decide +kernel
theorem dX5_goOn_17 : decode cX5_goOn 17 = .ok (.istore_n 3, 1) := by decide +kernel
theorem dX5_goOn_18 : decode cX5_goOn 18 = .ok (.iconst 0, 1) := by decide +kernel
theorem dX5_goOn_19 : decode cX5_goOn 19 = .ok (.istore 4, 2) := by decide +kernel
theorem dX5_goOn_21 : decode cX5_goOn 21 = .ok (.iload 4, 2) := by decide +kernel
theorem dX5_goOn_23 : decode cX5_goOn 23 = .ok (.iload_n 3, 1) := by decide +kernel
theorem dX5_goOn_24 : decode cX5_goOn 24 = .ok (.if_icmp .ge 40, 3) := by decide +kernel
theorem dX5_goOn_27 : decode cX5_goOn 27 = .ok (.aload_n 2, 1) := by decide +kernel
theorem dX5_goOn_28 : decode cX5_goOn 28 = .ok (.iload 4, 2) := by decide +kernel
theorem dX5_goOn_30 : decode cX5_goOn 30 = .ok (.aaload, 1) := by decide +kernel
theorem dX5_goOn_31 : decode cX5_goOn 31 = .ok (.astore 5, 2) := by decide +kernel
theorem dX5_goOn_33 : decode cX5_goOn 33 = .ok (.aload 5, 2) := by decide +kernel
theorem dX5_goOn_35 : decode cX5_goOn 35 = .ok (.invokevirtual 108, 3) := by decide +kernel
theorem dX5_goOn_38 : decode cX5_goOn 38 = .ok (.ifCond .eq 20, 3) := by decide +kernel
theorem dX5_goOn_41 : decode cX5_goOn 41 = .ok (.aload 5, 2) := by decide +kernel
theorem dX5_goOn_43 : decode cX5_goOn 43 = .ok (.getfield 97, 3) := by decide +kernel
theorem dX5_goOn_46 : decode cX5_goOn 46 = .ok (.aload_n 0, 1) := by decide +kernel
theorem dX5_goOn_47 : decode cX5_goOn 47 = .ok (.getfield 37, 3) := by decide +kernel
theorem dX5_goOn_50 : decode cX5_goOn 50 = .ok (.if_icmp .ge 8, 3) := by decide +kernel
theorem dX5_goOn_53 : decode cX5_goOn 53 = .ok (.aload 5, 2) := by decide +kernel
theorem dX5_goOn_55 : decode cX5_goOn 55 = .ok (.invokevirtual 204, 3) := by decide +kernel
theorem dX5_goOn_58 : decode cX5_goOn 58 = .ok (.iinc 4 1, 3) := by decide +kernel
theorem dX5_goOn_61 : decode cX5_goOn 61 = .ok (.goto (-40), 3) := by decide +kernel
theorem dX5_goOn_64 : decode cX5_goOn 64 = .ok (.aload_n 0, 1) := by decide +kernel
theorem dX5_goOn_65 : decode cX5_goOn 65 = .ok (.getfield 37, 3) := by decide +kernel
theorem dX5_goOn_68 : decode cX5_goOn 68 = .ok (.ireturn, 1) := by decide +kernel
set_option maxRecDepth 20000 in
theorem wc_X4_depart : Cond.code yX4_depart cX4_depart 1 none ∈ zB := List.mem_filter.mpr ⟨List.mem_of_getElem? (i := 661) (by decide +kernel), by decide +kernel⟩
set_option maxRecDepth 20000 in
theorem wm_X5_204 : Cond.methodLink RX5 204 yX4_depart ∈ zB := List.mem_filter.mpr ⟨List.mem_of_getElem? (i := 658) (by decide +kernel), by decide +kernel⟩
theorem k_X5_204 : zCal RX5 204 yX4_depart cX4_depart 1 none 0 := ⟨wm_X5_204, wi_X4, wc_X4_depart, by decide +kernel, by decide +kernel, by decide +kernel⟩
set_option maxRecDepth 20000 in
theorem wn_X4_depart : Cond.instanceMethod yX4_depart ∈ zB := List.mem_filter.mpr ⟨List.mem_of_getElem? (i := 659) (by decide +kernel), by decide +kernel⟩
set_option maxRecDepth 20000 in
theorem ws_X4_depart : Cond.selects RX4 yX4_depart yX4_depart ∈ zB := List.mem_filter.mpr ⟨List.mem_of_getElem? (i := 660) (by decide +kernel), by decide +kernel⟩
theorem v_X4_depart : zVir yX4_depart 4 := ⟨wn_X4_depart, ws_X4_depart, TX4, 9, rfl⟩
def rm_X5_goOn : Room := { frames := 3, cells := 0, slots := 0, locals := 63 }
set_option maxHeartbeats 4000000 in
set_option maxRecDepth 20000 in
theorem t_X5_goOn_58 {p : Program} {l : Launch} {e : Env} {s : State} {m : MethodId} {args : Array Value} {below : List Frame} {meth : Method} {c : Code} {G : zG} (Z : zF p s m args c meth cX5_goOn 6 RX5 G) (hr : meth.sig.returnType = (some .int)) {out : Int32 × zHp} {r21 : Nat → Nat → Int32 → Int32 → zHp → Option (Int32 × zHp)} (k21 : ∀ {a0 : Nat} {a2 : Nat} {a3 : Int32} {a4 : Int32} {h : zHp} {H : Heap} {locs : List Loc} {ls : Array Slot}, r21 a0 a2 a3 a4 h = some out → zE G s h H locs → lv_has ls 6 [(0, .ref a0), (2, .ref a2), (3, .int a3), (4, .int a4)] → W p l e rm_X5_goOn s m args below meth c H locs 0 0 (MQ below (zQi G out.1 out.2) args s 0 0 (zA G)) (F0 m 21 ls [])) {a0 : Nat} {a2 : Nat} {a3 : Int32} {a4 : Int32} {h : zHp} {H : Heap} {locs : List Loc} {ls : Array Slot} (hf : f_X5_goOn_58 r21 a0 a2 a3 a4 h = some out) (E : zE G s h H locs) (hl : lv_has ls 6 [(0, .ref a0), (2, .ref a2), (3, .int a3), (4, .int a4)]) : W p l e rm_X5_goOn s m args below meth c H locs 0 0 (MQ below (zQi G out.1 out.2) args s 0 0 (zA G)) (F0 m 58 ls []) := by
  unfold f_X5_goOn_58 at hf
  refine lv_iinc (v := (a4 + 1)) (lv' := [(4, .int (a4 + 1)), (0, .ref a0), (2, .ref a2), (3, .int a3)]) Z.x Z.b dX5_goOn_58 hl (k := 3) rfl rfl (by decide) rfl (fun ls hl => ?_)
  refine lv_goto (tgt := 21) Z.x Z.b dX5_goOn_61 (by decide) ?_
  exact k21 hf E (lv_sub hl [1, 2, 3, 0] rfl)
set_option maxHeartbeats 4000000 in
set_option maxRecDepth 20000 in
theorem t_X5_goOn_21_body {p : Program} {l : Launch} {e : Env} {s : State} {m : MethodId} {args : Array Value} {below : List Frame} {meth : Method} {c : Code} {G : zG} (Z : zF p s m args c meth cX5_goOn 6 RX5 G) (hr : meth.sig.returnType = (some .int)) {out : Int32 × zHp} {r21 : Nat → Nat → Int32 → Int32 → zHp → Option (Int32 × zHp)} (k21 : ∀ {a0 : Nat} {a2 : Nat} {a3 : Int32} {a4 : Int32} {h : zHp} {H : Heap} {locs : List Loc} {ls : Array Slot}, r21 a0 a2 a3 a4 h = some out → zE G s h H locs → lv_has ls 6 [(0, .ref a0), (2, .ref a2), (3, .int a3), (4, .int a4)] → W p l e rm_X5_goOn s m args below meth c H locs 0 0 (MQ below (zQi G out.1 out.2) args s 0 0 (zA G)) (F0 m 21 ls [])) {a0 : Nat} {a2 : Nat} {a3 : Int32} {a4 : Int32} {h : zHp} {H : Heap} {locs : List Loc} {ls : Array Slot} (hf : f_X5_goOn_21_body r21 a0 a2 a3 a4 h = some out) (E : zE G s h H locs) (hl : lv_has ls 6 [(0, .ref a0), (2, .ref a2), (3, .int a3), (4, .int a4)]) : W p l e rm_X5_goOn s m args below meth c H locs 0 0 (MQ below (zQi G out.1 out.2) args s 0 0 (zA G)) (F0 m 21 ls []) := by
  unfold f_X5_goOn_21_body at hf
  refine lv_iload Z.x Z.b dX5_goOn_21 (lv_at hl 3 rfl) ?_
  refine lv_iload_n Z.x Z.b dX5_goOn_23 rfl (lv_at hl 2 rfl) ?_
  refine lv_icmp_ge (tgt := 64) Z.x Z.b dX5_goOn_24 (by decide) (fun c => ?_) (fun c => ?_)
  · have hf := zit hf c
    refine lv_aload_n Z.x Z.b dX5_goOn_64 rfl (lv_at hl 0 rfl) ?_
    refine z_getI Z E q_X5_37 dX5_goOn_65 hf (fun v1 hf => ?_)
    exact z_iret Z E hr dX5_goOn_68 hf
  · have hf := zif_ hf c
    refine lv_aload_n Z.x Z.b dX5_goOn_27 rfl (lv_at hl 1 rfl) ?_
    refine lv_iload Z.x Z.b dX5_goOn_28 (lv_at hl 3 rfl) ?_
    refine z_aald (kd := 2) Z E rfl dX5_goOn_30 hf (fun v2 hf => ?_)
    refine lv_astore (lv' := [(5, .ref v2), (0, .ref a0), (2, .ref a2), (3, .int a3), (4, .int a4)]) Z.x Z.b dX5_goOn_31 hl (by decide) rfl (fun ls hl => ?_)
    refine lv_aload Z.x Z.b dX5_goOn_33 (lv_at hl 0 rfl) ?_
    refine z_Vi (As := []) Z E hl.1 k_X5_108 v_X4_isOpen hf (fun r h' e => c_X4_isOpen l G h h' v2 r e) rfl rfl (Nat.le_of_ble_eq_true rfl) (zRm_of rfl (Nat.zero_le _) (Nat.zero_le _)) dX5_goOn_35 (fun v3 h4 H locs hf E => ?_)
    refine lv_if_eq (tgt := 58) Z.x Z.b dX5_goOn_38 (by decide) (fun c => ?_) (fun c => ?_)
    · have hf := zit hf c
      exact t_X5_goOn_58 Z hr k21 hf E (lv_sub hl [1, 2, 3, 4] rfl)
    · have hf := zif_ hf c
      refine lv_aload Z.x Z.b dX5_goOn_41 (lv_at hl 0 rfl) ?_
      refine z_getI Z E q_X5_97 dX5_goOn_43 hf (fun v5 hf => ?_)
      refine lv_aload_n Z.x Z.b dX5_goOn_46 rfl (lv_at hl 1 rfl) ?_
      refine z_getI Z E q_X5_37 dX5_goOn_47 hf (fun v6 hf => ?_)
      refine lv_icmp_ge (tgt := 58) Z.x Z.b dX5_goOn_50 (by decide) (fun c => ?_) (fun c => ?_)
      · have hf := zit hf c
        exact t_X5_goOn_58 Z hr k21 hf E (lv_sub hl [1, 2, 3, 4] rfl)
      · have hf := zif_ hf c
        refine lv_aload Z.x Z.b dX5_goOn_53 (lv_at hl 0 rfl) ?_
        refine z_Vv (As := []) Z E hl.1 k_X5_204 v_X4_depart hf (fun h' e => c_X4_depart l G h4 h' v2 e) rfl rfl (Nat.le_of_ble_eq_true rfl) (zRm_of rfl (Nat.zero_le _) (Nat.zero_le _)) dX5_goOn_55 (fun h7 H locs hf E => ?_)
        exact t_X5_goOn_58 Z hr k21 hf E (lv_sub hl [1, 2, 3, 4] rfl)
theorem t_X5_goOn_21 {p : Program} {l : Launch} {e : Env} {s : State} {m : MethodId} {args : Array Value} {below : List Frame} {meth : Method} {c : Code} {G : zG} (Z : zF p s m args c meth cX5_goOn 6 RX5 G) (hr : meth.sig.returnType = (some .int)) {out : Int32 × zHp} : ∀ (n : Nat), ∀ {a0 : Nat} {a2 : Nat} {a3 : Int32} {a4 : Int32} {h : zHp} {H : Heap} {locs : List Loc} {ls : Array Slot}, f_X5_goOn_21 n a0 a2 a3 a4 h = some out → zE G s h H locs → lv_has ls 6 [(0, .ref a0), (2, .ref a2), (3, .int a3), (4, .int a4)] → W p l e rm_X5_goOn s m args below meth c H locs 0 0 (MQ below (zQi G out.1 out.2) args s 0 0 (zA G)) (F0 m 21 ls [])
  | 0 => fun hf => by cases hf
  | n + 1 => fun hf E hl => t_X5_goOn_21_body Z hr (r21 := f_X5_goOn_21 n) (t_X5_goOn_21 Z hr n) hf E hl
set_option maxHeartbeats 4000000 in
set_option maxRecDepth 20000 in
theorem t_X5_goOn {p : Program} {l : Launch} {e : Env} {s : State} {m : MethodId} {args : Array Value} {below : List Frame} {meth : Method} {c : Code} {G : zG} (Z : zF p s m args c meth cX5_goOn 6 RX5 G) (hr : meth.sig.returnType = (some .int)) {out : Int32 × zHp} {a0 : Nat} {a1 : Int32} {h : zHp} {H : Heap} {locs : List Loc} {ls : Array Slot} (hf : f_X5_goOn a0 a1 h = some out) (E : zE G s h H locs) (hl : lv_has ls 6 [(0, .ref a0), (1, .int a1)]) : W p l e rm_X5_goOn s m args below meth c H locs 0 0 (MQ below (zQi G out.1 out.2) args s 0 0 (zA G)) (F0 m 0 ls []) := by
  unfold f_X5_goOn at hf
  refine lv_aload_n Z.x Z.b dX5_goOn_0 rfl (lv_at hl 0 rfl) ?_
  refine lv_dup Z.x Z.b dX5_goOn_1 rfl ?_
  refine z_getI Z E q_X5_37 dX5_goOn_2 hf (fun v1 hf => ?_)
  refine lv_iload_n Z.x Z.b dX5_goOn_5 rfl (lv_at hl 1 rfl) ?_
  refine lv_iadd Z.x Z.b dX5_goOn_6 ?_
  refine z_put Z E p_X5_37 rfl rfl dX5_goOn_7 hf (fun h2 H locs hf E => ?_)
  refine lv_aload_n Z.x Z.b dX5_goOn_10 rfl (lv_at hl 0 rfl) ?_
  refine z_getR Z E q_X5_17 dX5_goOn_11 hf (fun v3 hf => ?_)
  refine lv_astore_n (lv' := [(2, .ref v3), (0, .ref a0), (1, .int a1)]) Z.x Z.b dX5_goOn_14 rfl hl (by decide) rfl (fun ls hl => ?_)
  refine lv_aload_n Z.x Z.b dX5_goOn_15 rfl (lv_at hl 0 rfl) ?_
  refine z_alenR (kd := 2) Z E rfl dX5_goOn_16 hf (fun v4 hf => ?_)
  refine lv_istore_n (lv' := [(3, .int v4), (2, .ref v3), (0, .ref a0), (1, .int a1)]) Z.x Z.b dX5_goOn_17 rfl hl (by decide) rfl (fun ls hl => ?_)
  refine lv_iconst (v := 0) Z.x Z.b dX5_goOn_18 (by decide) ?_
  refine lv_istore (lv' := [(4, .int 0), (3, .int v4), (2, .ref v3), (0, .ref a0), (1, .int a1)]) Z.x Z.b dX5_goOn_19 hl (by decide) rfl (fun ls hl => ?_)
  exact t_X5_goOn_21 Z hr zN hf E (lv_sub hl [3, 2, 1, 0] rfl)
set_option maxHeartbeats 4000000 in
set_option maxRecDepth 20000 in
theorem c_X5_goOn (l : Launch) (G : zG) (h : zHp) (h' : zHp) (a0 : Nat) (a1 : Int32) (r : Int32) (hf : f_X5_goOn a0 a1 h = some (r, h')) : zM0 l yX5_goOn cX5_goOn 6 (some .int) rm_X5_goOn G [.ref a0, .int a1] h (zQi G r h') := by
  refine Met.ofW (cc := cX5_goOn) (maxL := 6) (ret := (some .int)) (by decide) rfl ?_
  intro p e s m args below meth c s₁ B hml hv
  obtain ⟨rfl, hW⟩ := hv
  obtain ⟨Z, E, hr⟩ := zEnter (own := RX5) B hml rfl hW
  have hl := lv_entry ([.ref a0, .int a1]) (n := 6) (Nat.le_of_ble_eq_true rfl)
  rw [lg_entry_eq]
  generalize (lg_sl ([.ref a0, .int a1]) ++ List.replicate (6 - (lg_sl ([.ref a0, .int a1])).length) Slot.unset).toArray = ls at hl ⊢
  have hl : lv_has ls 6 [(0, .ref a0), (1, .int a1)] := hl
  exact t_X5_goOn (out := (r, h')) Z hr hf E hl
/-! FerryCrews$State.placesOf(II)I -/
theorem dX5_placesOf_0 : decode cX5_placesOf 0 = .ok (.iconst 0, 1) := by decide +kernel
theorem dX5_placesOf_1 : decode cX5_placesOf 1 = .ok (.istore_n 3, 1) := by decide +kernel
theorem dX5_placesOf_2 : decode cX5_placesOf 2 = .ok (.aload_n 0, 1) := by decide +kernel
theorem dX5_placesOf_3 : decode cX5_placesOf 3 = .ok (.getfield 17, 3) := by decide +kernel
theorem dX5_placesOf_6 : decode cX5_placesOf 6 = .ok (.astore 4, 2) := by decide +kernel
theorem dX5_placesOf_8 : decode cX5_placesOf 8 = .ok (.aload 4, 2) := by decide +kernel
theorem dX5_placesOf_10 : decode cX5_placesOf 10 = .ok (.arraylength, 1) := by decide +kernel
theorem dX5_placesOf_11 : decode cX5_placesOf 11 = .ok (.istore 5, 2) := by decide +kernel
theorem dX5_placesOf_13 : decode cX5_placesOf 13 = .ok (.iconst 0, 1) := by decide +kernel
theorem dX5_placesOf_14 : decode cX5_placesOf 14 = .ok (.istore 6, 2) := by decide +kernel
theorem dX5_placesOf_16 : decode cX5_placesOf 16 = .ok (.iload 6, 2) := by decide +kernel
theorem dX5_placesOf_18 : decode cX5_placesOf 18 = .ok (.iload 5, 2) := by decide +kernel
theorem dX5_placesOf_20 : decode cX5_placesOf 20 = .ok (.if_icmp .ge 37, 3) := by decide +kernel
theorem dX5_placesOf_23 : decode cX5_placesOf 23 = .ok (.aload 4, 2) := by decide +kernel
theorem dX5_placesOf_25 : decode cX5_placesOf 25 = .ok (.iload 6, 2) := by decide +kernel
theorem dX5_placesOf_27 : decode cX5_placesOf 27 = .ok (.aaload, 1) := by decide +kernel
theorem dX5_placesOf_28 : decode cX5_placesOf 28 = .ok (.astore 7, 2) := by decide +kernel
theorem dX5_placesOf_30 : decode cX5_placesOf 30 = .ok (.aload 7, 2) := by decide +kernel
theorem dX5_placesOf_32 : decode cX5_placesOf 32 = .ok (.getfield 207, 3) := by decide +kernel
theorem dX5_placesOf_35 : decode cX5_placesOf 35 = .ok (.iload_n 2, 1) := by decide +kernel
theorem dX5_placesOf_36 : decode cX5_placesOf 36 = .ok (.if_icmp .ne 15, 3) := by decide +kernel
theorem dX5_placesOf_39 : decode cX5_placesOf 39 = .ok (.aload 7, 2) := by decide +kernel
theorem dX5_placesOf_41 : decode cX5_placesOf 41 = .ok (.iload_n 1, 1) := by decide +kernel
theorem dX5_placesOf_42 : decode cX5_placesOf 42 = .ok (.invokevirtual 122, 3) := by decide +kernel
theorem dX5_placesOf_45 : decode cX5_placesOf 45 = .ok (.ifCond .eq 6, 3) := by decide +kernel
theorem dX5_placesOf_48 : decode cX5_placesOf 48 = .ok (.iinc 3 1, 3) := by decide +kernel
theorem dX5_placesOf_51 : decode cX5_placesOf 51 = .ok (.iinc 6 1, 3) := by decide +kernel
theorem dX5_placesOf_54 : decode cX5_placesOf 54 = .ok (.goto (-38), 3) := by decide +kernel
theorem dX5_placesOf_57 : decode cX5_placesOf 57 = .ok (.iload_n 3, 1) := by decide +kernel
theorem dX5_placesOf_58 : decode cX5_placesOf 58 = .ok (.ireturn, 1) := by decide +kernel
set_option maxRecDepth 20000 in
theorem wf_X5_207 : Cond.fieldLink RX5 207 RX4 "status" "I" ∈ zB := List.mem_filter.mpr ⟨List.mem_of_getElem? (i := 87) (by decide +kernel), by decide +kernel⟩
theorem q_X5_207 : zFld RX5 207 4 5 := ⟨RX4, TX4, 9, rfl, by decide, iX4, wf_X5_207, rfl⟩
def rm_X5_placesOf : Room := { frames := 3, cells := 0, slots := 0, locals := 62 }
set_option maxHeartbeats 4000000 in
set_option maxRecDepth 20000 in
theorem t_X5_placesOf_51 {p : Program} {l : Launch} {e : Env} {s : State} {m : MethodId} {args : Array Value} {below : List Frame} {meth : Method} {c : Code} {G : zG} (Z : zF p s m args c meth cX5_placesOf 8 RX5 G) (hr : meth.sig.returnType = (some .int)) {out : Int32 × zHp} {r16 : Int32 → Int32 → Int32 → Nat → Int32 → Int32 → zHp → Option (Int32 × zHp)} (k16 : ∀ {a1 : Int32} {a2 : Int32} {a3 : Int32} {a4 : Nat} {a5 : Int32} {a6 : Int32} {h : zHp} {H : Heap} {locs : List Loc} {ls : Array Slot}, r16 a1 a2 a3 a4 a5 a6 h = some out → zE G s h H locs → lv_has ls 8 [(1, .int a1), (2, .int a2), (3, .int a3), (4, .ref a4), (5, .int a5), (6, .int a6)] → W p l e rm_X5_placesOf s m args below meth c H locs 0 0 (MQ below (zQi G out.1 out.2) args s 0 0 (zA G)) (F0 m 16 ls [])) {a1 : Int32} {a2 : Int32} {a3 : Int32} {a4 : Nat} {a5 : Int32} {a6 : Int32} {h : zHp} {H : Heap} {locs : List Loc} {ls : Array Slot} (hf : f_X5_placesOf_51 r16 a1 a2 a3 a4 a5 a6 h = some out) (E : zE G s h H locs) (hl : lv_has ls 8 [(1, .int a1), (2, .int a2), (3, .int a3), (4, .ref a4), (5, .int a5), (6, .int a6)]) : W p l e rm_X5_placesOf s m args below meth c H locs 0 0 (MQ below (zQi G out.1 out.2) args s 0 0 (zA G)) (F0 m 51 ls []) := by
  unfold f_X5_placesOf_51 at hf
  refine lv_iinc (v := (a6 + 1)) (lv' := [(6, .int (a6 + 1)), (1, .int a1), (2, .int a2), (3, .int a3), (4, .ref a4), (5, .int a5)]) Z.x Z.b dX5_placesOf_51 hl (k := 5) rfl rfl (by decide) rfl (fun ls hl => ?_)
  refine lv_goto (tgt := 16) Z.x Z.b dX5_placesOf_54 (by decide) ?_
  exact k16 hf E (lv_sub hl [1, 2, 3, 4, 5, 0] rfl)
set_option maxHeartbeats 4000000 in
set_option maxRecDepth 20000 in
theorem t_X5_placesOf_16_body {p : Program} {l : Launch} {e : Env} {s : State} {m : MethodId} {args : Array Value} {below : List Frame} {meth : Method} {c : Code} {G : zG} (Z : zF p s m args c meth cX5_placesOf 8 RX5 G) (hr : meth.sig.returnType = (some .int)) {out : Int32 × zHp} {r16 : Int32 → Int32 → Int32 → Nat → Int32 → Int32 → zHp → Option (Int32 × zHp)} (k16 : ∀ {a1 : Int32} {a2 : Int32} {a3 : Int32} {a4 : Nat} {a5 : Int32} {a6 : Int32} {h : zHp} {H : Heap} {locs : List Loc} {ls : Array Slot}, r16 a1 a2 a3 a4 a5 a6 h = some out → zE G s h H locs → lv_has ls 8 [(1, .int a1), (2, .int a2), (3, .int a3), (4, .ref a4), (5, .int a5), (6, .int a6)] → W p l e rm_X5_placesOf s m args below meth c H locs 0 0 (MQ below (zQi G out.1 out.2) args s 0 0 (zA G)) (F0 m 16 ls [])) {a1 : Int32} {a2 : Int32} {a3 : Int32} {a4 : Nat} {a5 : Int32} {a6 : Int32} {h : zHp} {H : Heap} {locs : List Loc} {ls : Array Slot} (hf : f_X5_placesOf_16_body r16 a1 a2 a3 a4 a5 a6 h = some out) (E : zE G s h H locs) (hl : lv_has ls 8 [(1, .int a1), (2, .int a2), (3, .int a3), (4, .ref a4), (5, .int a5), (6, .int a6)]) : W p l e rm_X5_placesOf s m args below meth c H locs 0 0 (MQ below (zQi G out.1 out.2) args s 0 0 (zA G)) (F0 m 16 ls []) := by
  unfold f_X5_placesOf_16_body at hf
  refine lv_iload Z.x Z.b dX5_placesOf_16 (lv_at hl 5 rfl) ?_
  refine lv_iload Z.x Z.b dX5_placesOf_18 (lv_at hl 4 rfl) ?_
  refine lv_icmp_ge (tgt := 57) Z.x Z.b dX5_placesOf_20 (by decide) (fun c => ?_) (fun c => ?_)
  · have hf := zit hf c
    refine lv_iload_n Z.x Z.b dX5_placesOf_57 rfl (lv_at hl 2 rfl) ?_
    exact z_iret Z E hr dX5_placesOf_58 hf
  · have hf := zif_ hf c
    refine lv_aload Z.x Z.b dX5_placesOf_23 (lv_at hl 3 rfl) ?_
    refine lv_iload Z.x Z.b dX5_placesOf_25 (lv_at hl 5 rfl) ?_
    refine z_aald (kd := 2) Z E rfl dX5_placesOf_27 hf (fun v1 hf => ?_)
    refine lv_astore (lv' := [(7, .ref v1), (1, .int a1), (2, .int a2), (3, .int a3), (4, .ref a4), (5, .int a5), (6, .int a6)]) Z.x Z.b dX5_placesOf_28 hl (by decide) rfl (fun ls hl => ?_)
    refine lv_aload Z.x Z.b dX5_placesOf_30 (lv_at hl 0 rfl) ?_
    refine z_getI Z E q_X5_207 dX5_placesOf_32 hf (fun v2 hf => ?_)
    refine lv_iload_n Z.x Z.b dX5_placesOf_35 rfl (lv_at hl 2 rfl) ?_
    refine lv_icmp_ne (tgt := 51) Z.x Z.b dX5_placesOf_36 (by decide) (fun c => ?_) (fun c => ?_)
    · have hf := zif_ hf c
      exact t_X5_placesOf_51 Z hr k16 hf E (lv_sub hl [1, 2, 3, 4, 5, 6] rfl)
    · have hf := zit hf c
      refine lv_aload Z.x Z.b dX5_placesOf_39 (lv_at hl 0 rfl) ?_
      refine lv_iload_n Z.x Z.b dX5_placesOf_41 rfl (lv_at hl 1 rfl) ?_
      refine z_Vi (As := [.int a1]) Z E hl.1 k_X5_122 v_X4_seats hf (fun r h' e => c_X4_seats l G h h' v1 a1 r e) rfl rfl (Nat.le_of_ble_eq_true rfl) (zRm_of rfl (Nat.zero_le _) (Nat.zero_le _)) dX5_placesOf_42 (fun v3 h4 H locs hf E => ?_)
      refine lv_if_eq (tgt := 51) Z.x Z.b dX5_placesOf_45 (by decide) (fun c => ?_) (fun c => ?_)
      · have hf := zit hf c
        exact t_X5_placesOf_51 Z hr k16 hf E (lv_sub hl [1, 2, 3, 4, 5, 6] rfl)
      · have hf := zif_ hf c
        refine lv_iinc (v := (a3 + 1)) (lv' := [(3, .int (a3 + 1)), (7, .ref v1), (1, .int a1), (2, .int a2), (4, .ref a4), (5, .int a5), (6, .int a6)]) Z.x Z.b dX5_placesOf_48 hl (k := 3) rfl rfl (by decide) rfl (fun ls hl => ?_)
        exact t_X5_placesOf_51 Z hr k16 hf E (lv_sub hl [2, 3, 0, 4, 5, 6] rfl)
theorem t_X5_placesOf_16 {p : Program} {l : Launch} {e : Env} {s : State} {m : MethodId} {args : Array Value} {below : List Frame} {meth : Method} {c : Code} {G : zG} (Z : zF p s m args c meth cX5_placesOf 8 RX5 G) (hr : meth.sig.returnType = (some .int)) {out : Int32 × zHp} : ∀ (n : Nat), ∀ {a1 : Int32} {a2 : Int32} {a3 : Int32} {a4 : Nat} {a5 : Int32} {a6 : Int32} {h : zHp} {H : Heap} {locs : List Loc} {ls : Array Slot}, f_X5_placesOf_16 n a1 a2 a3 a4 a5 a6 h = some out → zE G s h H locs → lv_has ls 8 [(1, .int a1), (2, .int a2), (3, .int a3), (4, .ref a4), (5, .int a5), (6, .int a6)] → W p l e rm_X5_placesOf s m args below meth c H locs 0 0 (MQ below (zQi G out.1 out.2) args s 0 0 (zA G)) (F0 m 16 ls [])
  | 0 => fun hf => by cases hf
  | n + 1 => fun hf E hl => t_X5_placesOf_16_body Z hr (r16 := f_X5_placesOf_16 n) (t_X5_placesOf_16 Z hr n) hf E hl
set_option maxHeartbeats 4000000 in
set_option maxRecDepth 20000 in
theorem t_X5_placesOf {p : Program} {l : Launch} {e : Env} {s : State} {m : MethodId} {args : Array Value} {below : List Frame} {meth : Method} {c : Code} {G : zG} (Z : zF p s m args c meth cX5_placesOf 8 RX5 G) (hr : meth.sig.returnType = (some .int)) {out : Int32 × zHp} {a0 : Nat} {a1 : Int32} {a2 : Int32} {h : zHp} {H : Heap} {locs : List Loc} {ls : Array Slot} (hf : f_X5_placesOf a0 a1 a2 h = some out) (E : zE G s h H locs) (hl : lv_has ls 8 [(0, .ref a0), (1, .int a1), (2, .int a2)]) : W p l e rm_X5_placesOf s m args below meth c H locs 0 0 (MQ below (zQi G out.1 out.2) args s 0 0 (zA G)) (F0 m 0 ls []) := by
  unfold f_X5_placesOf at hf
  refine lv_iconst (v := 0) Z.x Z.b dX5_placesOf_0 (by decide) ?_
  refine lv_istore_n (lv' := [(3, .int 0), (0, .ref a0), (1, .int a1), (2, .int a2)]) Z.x Z.b dX5_placesOf_1 rfl hl (by decide) rfl (fun ls hl => ?_)
  refine lv_aload_n Z.x Z.b dX5_placesOf_2 rfl (lv_at hl 1 rfl) ?_
  refine z_getR Z E q_X5_17 dX5_placesOf_3 hf (fun v1 hf => ?_)
  refine lv_astore (lv' := [(4, .ref v1), (3, .int 0), (0, .ref a0), (1, .int a1), (2, .int a2)]) Z.x Z.b dX5_placesOf_6 hl (by decide) rfl (fun ls hl => ?_)
  refine lv_aload Z.x Z.b dX5_placesOf_8 (lv_at hl 0 rfl) ?_
  refine z_alenR (kd := 2) Z E rfl dX5_placesOf_10 hf (fun v2 hf => ?_)
  refine lv_istore (lv' := [(5, .int v2), (4, .ref v1), (3, .int 0), (0, .ref a0), (1, .int a1), (2, .int a2)]) Z.x Z.b dX5_placesOf_11 hl (by decide) rfl (fun ls hl => ?_)
  refine lv_iconst (v := 0) Z.x Z.b dX5_placesOf_13 (by decide) ?_
  refine lv_istore (lv' := [(6, .int 0), (5, .int v2), (4, .ref v1), (3, .int 0), (0, .ref a0), (1, .int a1), (2, .int a2)]) Z.x Z.b dX5_placesOf_14 hl (by decide) rfl (fun ls hl => ?_)
  exact t_X5_placesOf_16 Z hr zN hf E (lv_sub hl [5, 6, 3, 2, 1, 0] rfl)
set_option maxHeartbeats 4000000 in
set_option maxRecDepth 20000 in
theorem c_X5_placesOf (l : Launch) (G : zG) (h : zHp) (h' : zHp) (a0 : Nat) (a1 : Int32) (a2 : Int32) (r : Int32) (hf : f_X5_placesOf a0 a1 a2 h = some (r, h')) : zM0 l yX5_placesOf cX5_placesOf 8 (some .int) rm_X5_placesOf G [.ref a0, .int a1, .int a2] h (zQi G r h') := by
  refine Met.ofW (cc := cX5_placesOf) (maxL := 8) (ret := (some .int)) (by decide) rfl ?_
  intro p e s m args below meth c s₁ B hml hv
  obtain ⟨rfl, hW⟩ := hv
  obtain ⟨Z, E, hr⟩ := zEnter (own := RX5) B hml rfl hW
  have hl := lv_entry ([.ref a0, .int a1, .int a2]) (n := 8) (Nat.le_of_ble_eq_true rfl)
  rw [lg_entry_eq]
  generalize (lg_sl ([.ref a0, .int a1, .int a2]) ++ List.replicate (8 - (lg_sl ([.ref a0, .int a1, .int a2])).length) Slot.unset).toArray = ls at hl ⊢
  have hl : lv_has ls 8 [(0, .ref a0), (1, .int a1), (2, .int a2)] := hl
  exact t_X5_placesOf (out := (r, h')) Z hr hf E hl
/-! FerryCrews$State.nextSailingOf(I)I -/
theorem dX5_nextSailingOf_0 : decode cX5_nextSailingOf 0 = .ok (.aload_n 0, 1) := by decide +kernel
theorem dX5_nextSailingOf_1 : decode cX5_nextSailingOf 1 = .ok (.getfield 17, 3) := by decide +kernel
theorem dX5_nextSailingOf_4 : decode cX5_nextSailingOf 4 = .ok (.astore_n 2, 1) := by decide +kernel
theorem dX5_nextSailingOf_5 : decode cX5_nextSailingOf 5 = .ok (.aload_n 2, 1) := by decide +kernel
theorem dX5_nextSailingOf_6 : decode cX5_nextSailingOf 6 = .ok (.arraylength, 1) := by decide +kernel
theorem dX5_nextSailingOf_7 : decode cX5_nextSailingOf 7 = .ok (.istore_n 3, 1) := by decide +kernel
theorem dX5_nextSailingOf_8 : decode cX5_nextSailingOf 8 = .ok (.iconst 0, 1) := by decide +kernel
theorem dX5_nextSailingOf_9 : decode cX5_nextSailingOf 9 = .ok (.istore 4, 2) := by decide +kernel
theorem dX5_nextSailingOf_11 : decode cX5_nextSailingOf 11 = .ok (.iload 4, 2) := by decide +kernel
theorem dX5_nextSailingOf_13 : decode cX5_nextSailingOf 13 = .ok (.iload_n 3, 1) := by decide +kernel
theorem dX5_nextSailingOf_14 : decode cX5_nextSailingOf 14 = .ok (.if_icmp .ge 38, 3) := by decide +kernel
theorem dX5_nextSailingOf_17 : decode cX5_nextSailingOf 17 = .ok (.aload_n 2, 1) := by decide +kernel
theorem dX5_nextSailingOf_18 : decode cX5_nextSailingOf 18 = .ok (.iload 4, 2) := by decide +kernel
theorem dX5_nextSailingOf_20 : decode cX5_nextSailingOf 20 = .ok (.aaload, 1) := by decide +kernel
theorem dX5_nextSailingOf_21 : decode cX5_nextSailingOf 21 = .ok (.astore 5, 2) := by decide +kernel
theorem dX5_nextSailingOf_23 : decode cX5_nextSailingOf 23 = .ok (.aload 5, 2) := by decide +kernel
theorem dX5_nextSailingOf_25 : decode cX5_nextSailingOf 25 = .ok (.invokevirtual 108, 3) := by decide +kernel
theorem dX5_nextSailingOf_28 : decode cX5_nextSailingOf 28 = .ok (.ifCond .eq 18, 3) := by decide +kernel
theorem dX5_nextSailingOf_31 : decode cX5_nextSailingOf 31 = .ok (.aload 5, 2) := by decide +kernel
theorem dX5_nextSailingOf_33 : decode cX5_nextSailingOf 33 = .ok (.iload_n 1, 1) := by decide +kernel
theorem dX5_nextSailingOf_34 : decode cX5_nextSailingOf 34 = .ok (.invokevirtual 122, 3) := by decide +kernel
theorem dX5_nextSailingOf_37 : decode cX5_nextSailingOf 37 = .ok (.ifCond .eq 9, 3) := by decide +kernel
theorem dX5_nextSailingOf_40 : decode cX5_nextSailingOf 40 = .ok (.aload 5, 2) := by decide +kernel
theorem dX5_nextSailingOf_42 : decode cX5_nextSailingOf 42 = .ok (.getfield 73, 3) := by decide +kernel
theorem dX5_nextSailingOf_45 : decode cX5_nextSailingOf 45 = .ok (.ireturn, 1) := by decide +kernel
theorem dX5_nextSailingOf_46 : decode cX5_nextSailingOf 46 = .ok (.iinc 4 1, 3) := by decide +kernel
theorem dX5_nextSailingOf_49 : decode cX5_nextSailingOf 49 = .ok (.goto (-38), 3) := by decide +kernel
theorem dX5_nextSailingOf_52 : decode cX5_nextSailingOf 52 = .ok (.bipush (-5), 2) := by decide +kernel
theorem dX5_nextSailingOf_54 : decode cX5_nextSailingOf 54 = .ok (.ireturn, 1) := by decide +kernel
def rm_X5_nextSailingOf : Room := { frames := 3, cells := 0, slots := 0, locals := 62 }
set_option maxHeartbeats 4000000 in
set_option maxRecDepth 20000 in
theorem t_X5_nextSailingOf_46 {p : Program} {l : Launch} {e : Env} {s : State} {m : MethodId} {args : Array Value} {below : List Frame} {meth : Method} {c : Code} {G : zG} (Z : zF p s m args c meth cX5_nextSailingOf 6 RX5 G) (hr : meth.sig.returnType = (some .int)) {out : Int32 × zHp} {r11 : Int32 → Nat → Int32 → Int32 → zHp → Option (Int32 × zHp)} (k11 : ∀ {a1 : Int32} {a2 : Nat} {a3 : Int32} {a4 : Int32} {h : zHp} {H : Heap} {locs : List Loc} {ls : Array Slot}, r11 a1 a2 a3 a4 h = some out → zE G s h H locs → lv_has ls 6 [(1, .int a1), (2, .ref a2), (3, .int a3), (4, .int a4)] → W p l e rm_X5_nextSailingOf s m args below meth c H locs 0 0 (MQ below (zQi G out.1 out.2) args s 0 0 (zA G)) (F0 m 11 ls [])) {a1 : Int32} {a2 : Nat} {a3 : Int32} {a4 : Int32} {h : zHp} {H : Heap} {locs : List Loc} {ls : Array Slot} (hf : f_X5_nextSailingOf_46 r11 a1 a2 a3 a4 h = some out) (E : zE G s h H locs) (hl : lv_has ls 6 [(1, .int a1), (2, .ref a2), (3, .int a3), (4, .int a4)]) : W p l e rm_X5_nextSailingOf s m args below meth c H locs 0 0 (MQ below (zQi G out.1 out.2) args s 0 0 (zA G)) (F0 m 46 ls []) := by
  unfold f_X5_nextSailingOf_46 at hf
  refine lv_iinc (v := (a4 + 1)) (lv' := [(4, .int (a4 + 1)), (1, .int a1), (2, .ref a2), (3, .int a3)]) Z.x Z.b dX5_nextSailingOf_46 hl (k := 3) rfl rfl (by decide) rfl (fun ls hl => ?_)
  refine lv_goto (tgt := 11) Z.x Z.b dX5_nextSailingOf_49 (by decide) ?_
  exact k11 hf E (lv_sub hl [1, 2, 3, 0] rfl)
set_option maxHeartbeats 4000000 in
set_option maxRecDepth 20000 in
theorem t_X5_nextSailingOf_11_body {p : Program} {l : Launch} {e : Env} {s : State} {m : MethodId} {args : Array Value} {below : List Frame} {meth : Method} {c : Code} {G : zG} (Z : zF p s m args c meth cX5_nextSailingOf 6 RX5 G) (hr : meth.sig.returnType = (some .int)) {out : Int32 × zHp} {r11 : Int32 → Nat → Int32 → Int32 → zHp → Option (Int32 × zHp)} (k11 : ∀ {a1 : Int32} {a2 : Nat} {a3 : Int32} {a4 : Int32} {h : zHp} {H : Heap} {locs : List Loc} {ls : Array Slot}, r11 a1 a2 a3 a4 h = some out → zE G s h H locs → lv_has ls 6 [(1, .int a1), (2, .ref a2), (3, .int a3), (4, .int a4)] → W p l e rm_X5_nextSailingOf s m args below meth c H locs 0 0 (MQ below (zQi G out.1 out.2) args s 0 0 (zA G)) (F0 m 11 ls [])) {a1 : Int32} {a2 : Nat} {a3 : Int32} {a4 : Int32} {h : zHp} {H : Heap} {locs : List Loc} {ls : Array Slot} (hf : f_X5_nextSailingOf_11_body r11 a1 a2 a3 a4 h = some out) (E : zE G s h H locs) (hl : lv_has ls 6 [(1, .int a1), (2, .ref a2), (3, .int a3), (4, .int a4)]) : W p l e rm_X5_nextSailingOf s m args below meth c H locs 0 0 (MQ below (zQi G out.1 out.2) args s 0 0 (zA G)) (F0 m 11 ls []) := by
  unfold f_X5_nextSailingOf_11_body at hf
  refine lv_iload Z.x Z.b dX5_nextSailingOf_11 (lv_at hl 3 rfl) ?_
  refine lv_iload_n Z.x Z.b dX5_nextSailingOf_13 rfl (lv_at hl 2 rfl) ?_
  refine lv_icmp_ge (tgt := 52) Z.x Z.b dX5_nextSailingOf_14 (by decide) (fun c => ?_) (fun c => ?_)
  · have hf := zit hf c
    refine lv_bipush (v := (-5)) Z.x Z.b dX5_nextSailingOf_52 (by decide) ?_
    exact z_iret Z E hr dX5_nextSailingOf_54 hf
  · have hf := zif_ hf c
    refine lv_aload_n Z.x Z.b dX5_nextSailingOf_17 rfl (lv_at hl 1 rfl) ?_
    refine lv_iload Z.x Z.b dX5_nextSailingOf_18 (lv_at hl 3 rfl) ?_
    refine z_aald (kd := 2) Z E rfl dX5_nextSailingOf_20 hf (fun v1 hf => ?_)
    refine lv_astore (lv' := [(5, .ref v1), (1, .int a1), (2, .ref a2), (3, .int a3), (4, .int a4)]) Z.x Z.b dX5_nextSailingOf_21 hl (by decide) rfl (fun ls hl => ?_)
    refine lv_aload Z.x Z.b dX5_nextSailingOf_23 (lv_at hl 0 rfl) ?_
    refine z_Vi (As := []) Z E hl.1 k_X5_108 v_X4_isOpen hf (fun r h' e => c_X4_isOpen l G h h' v1 r e) rfl rfl (Nat.le_of_ble_eq_true rfl) (zRm_of rfl (Nat.zero_le _) (Nat.zero_le _)) dX5_nextSailingOf_25 (fun v2 h3 H locs hf E => ?_)
    refine lv_if_eq (tgt := 46) Z.x Z.b dX5_nextSailingOf_28 (by decide) (fun c => ?_) (fun c => ?_)
    · have hf := zit hf c
      exact t_X5_nextSailingOf_46 Z hr k11 hf E (lv_sub hl [1, 2, 3, 4] rfl)
    · have hf := zif_ hf c
      refine lv_aload Z.x Z.b dX5_nextSailingOf_31 (lv_at hl 0 rfl) ?_
      refine lv_iload_n Z.x Z.b dX5_nextSailingOf_33 rfl (lv_at hl 1 rfl) ?_
      refine z_Vi (As := [.int a1]) Z E hl.1 k_X5_122 v_X4_seats hf (fun r h' e => c_X4_seats l G h3 h' v1 a1 r e) rfl rfl (Nat.le_of_ble_eq_true rfl) (zRm_of rfl (Nat.zero_le _) (Nat.zero_le _)) dX5_nextSailingOf_34 (fun v4 h5 H locs hf E => ?_)
      refine lv_if_eq (tgt := 46) Z.x Z.b dX5_nextSailingOf_37 (by decide) (fun c => ?_) (fun c => ?_)
      · have hf := zit hf c
        exact t_X5_nextSailingOf_46 Z hr k11 hf E (lv_sub hl [1, 2, 3, 4] rfl)
      · have hf := zif_ hf c
        refine lv_aload Z.x Z.b dX5_nextSailingOf_40 (lv_at hl 0 rfl) ?_
        refine z_getI Z E q_X5_73 dX5_nextSailingOf_42 hf (fun v6 hf => ?_)
        exact z_iret Z E hr dX5_nextSailingOf_45 hf
theorem t_X5_nextSailingOf_11 {p : Program} {l : Launch} {e : Env} {s : State} {m : MethodId} {args : Array Value} {below : List Frame} {meth : Method} {c : Code} {G : zG} (Z : zF p s m args c meth cX5_nextSailingOf 6 RX5 G) (hr : meth.sig.returnType = (some .int)) {out : Int32 × zHp} : ∀ (n : Nat), ∀ {a1 : Int32} {a2 : Nat} {a3 : Int32} {a4 : Int32} {h : zHp} {H : Heap} {locs : List Loc} {ls : Array Slot}, f_X5_nextSailingOf_11 n a1 a2 a3 a4 h = some out → zE G s h H locs → lv_has ls 6 [(1, .int a1), (2, .ref a2), (3, .int a3), (4, .int a4)] → W p l e rm_X5_nextSailingOf s m args below meth c H locs 0 0 (MQ below (zQi G out.1 out.2) args s 0 0 (zA G)) (F0 m 11 ls [])
  | 0 => fun hf => by cases hf
  | n + 1 => fun hf E hl => t_X5_nextSailingOf_11_body Z hr (r11 := f_X5_nextSailingOf_11 n) (t_X5_nextSailingOf_11 Z hr n) hf E hl
set_option maxHeartbeats 4000000 in
set_option maxRecDepth 20000 in
theorem t_X5_nextSailingOf {p : Program} {l : Launch} {e : Env} {s : State} {m : MethodId} {args : Array Value} {below : List Frame} {meth : Method} {c : Code} {G : zG} (Z : zF p s m args c meth cX5_nextSailingOf 6 RX5 G) (hr : meth.sig.returnType = (some .int)) {out : Int32 × zHp} {a0 : Nat} {a1 : Int32} {h : zHp} {H : Heap} {locs : List Loc} {ls : Array Slot} (hf : f_X5_nextSailingOf a0 a1 h = some out) (E : zE G s h H locs) (hl : lv_has ls 6 [(0, .ref a0), (1, .int a1)]) : W p l e rm_X5_nextSailingOf s m args below meth c H locs 0 0 (MQ below (zQi G out.1 out.2) args s 0 0 (zA G)) (F0 m 0 ls []) := by
  unfold f_X5_nextSailingOf at hf
  refine lv_aload_n Z.x Z.b dX5_nextSailingOf_0 rfl (lv_at hl 0 rfl) ?_
  refine z_getR Z E q_X5_17 dX5_nextSailingOf_1 hf (fun v1 hf => ?_)
  refine lv_astore_n (lv' := [(2, .ref v1), (0, .ref a0), (1, .int a1)]) Z.x Z.b dX5_nextSailingOf_4 rfl hl (by decide) rfl (fun ls hl => ?_)
  refine lv_aload_n Z.x Z.b dX5_nextSailingOf_5 rfl (lv_at hl 0 rfl) ?_
  refine z_alenR (kd := 2) Z E rfl dX5_nextSailingOf_6 hf (fun v2 hf => ?_)
  refine lv_istore_n (lv' := [(3, .int v2), (2, .ref v1), (0, .ref a0), (1, .int a1)]) Z.x Z.b dX5_nextSailingOf_7 rfl hl (by decide) rfl (fun ls hl => ?_)
  refine lv_iconst (v := 0) Z.x Z.b dX5_nextSailingOf_8 (by decide) ?_
  refine lv_istore (lv' := [(4, .int 0), (3, .int v2), (2, .ref v1), (0, .ref a0), (1, .int a1)]) Z.x Z.b dX5_nextSailingOf_9 hl (by decide) rfl (fun ls hl => ?_)
  exact t_X5_nextSailingOf_11 Z hr zN hf E (lv_sub hl [4, 2, 1, 0] rfl)
set_option maxHeartbeats 4000000 in
set_option maxRecDepth 20000 in
theorem c_X5_nextSailingOf (l : Launch) (G : zG) (h : zHp) (h' : zHp) (a0 : Nat) (a1 : Int32) (r : Int32) (hf : f_X5_nextSailingOf a0 a1 h = some (r, h')) : zM0 l yX5_nextSailingOf cX5_nextSailingOf 6 (some .int) rm_X5_nextSailingOf G [.ref a0, .int a1] h (zQi G r h') := by
  refine Met.ofW (cc := cX5_nextSailingOf) (maxL := 6) (ret := (some .int)) (by decide) rfl ?_
  intro p e s m args below meth c s₁ B hml hv
  obtain ⟨rfl, hW⟩ := hv
  obtain ⟨Z, E, hr⟩ := zEnter (own := RX5) B hml rfl hW
  have hl := lv_entry ([.ref a0, .int a1]) (n := 6) (Nat.le_of_ble_eq_true rfl)
  rw [lg_entry_eq]
  generalize (lg_sl ([.ref a0, .int a1]) ++ List.replicate (6 - (lg_sl ([.ref a0, .int a1])).length) Slot.unset).toArray = ls at hl ⊢
  have hl : lv_has ls 6 [(0, .ref a0), (1, .int a1)] := hl
  exact t_X5_nextSailingOf (out := (r, h')) Z hr hf E hl
/-! FerryCrews$State.sailingsThatAre(I)I -/
theorem dX5_sailingsThatAre_0 : decode cX5_sailingsThatAre 0 = .ok (.iconst 0, 1) := by decide +kernel
theorem dX5_sailingsThatAre_1 : decode cX5_sailingsThatAre 1 = .ok (.istore_n 2, 1) := by decide +kernel
theorem dX5_sailingsThatAre_2 : decode cX5_sailingsThatAre 2 = .ok (.aload_n 0, 1) := by decide +kernel
theorem dX5_sailingsThatAre_3 : decode cX5_sailingsThatAre 3 = .ok (.getfield 17, 3) := by decide +kernel
theorem dX5_sailingsThatAre_6 : decode cX5_sailingsThatAre 6 = .ok (.astore_n 3, 1) := by decide +kernel
theorem dX5_sailingsThatAre_7 : decode cX5_sailingsThatAre 7 = .ok (.aload_n 3, 1) := by decide +kernel
theorem dX5_sailingsThatAre_8 : decode cX5_sailingsThatAre 8 = .ok (.arraylength, 1) := by decide +kernel
theorem dX5_sailingsThatAre_9 : decode cX5_sailingsThatAre 9 = .ok (.istore 4, 2) := by decide +kernel
theorem dX5_sailingsThatAre_11 : decode cX5_sailingsThatAre 11 = .ok (.iconst 0, 1) := by decide +kernel
theorem dX5_sailingsThatAre_12 : decode cX5_sailingsThatAre 12 = .ok (.istore 5, 2) := by decide +kernel
theorem dX5_sailingsThatAre_14 : decode cX5_sailingsThatAre 14 = .ok (.iload 5, 2) := by decide +kernel
theorem dX5_sailingsThatAre_16 : decode cX5_sailingsThatAre 16 = .ok (.iload 4, 2) := by decide +kernel
theorem dX5_sailingsThatAre_18 : decode cX5_sailingsThatAre 18 = .ok (.if_icmp .ge 27, 3) := by decide +kernel
theorem dX5_sailingsThatAre_21 : decode cX5_sailingsThatAre 21 = .ok (.aload_n 3, 1) := by decide +kernel
theorem dX5_sailingsThatAre_22 : decode cX5_sailingsThatAre 22 = .ok (.iload 5, 2) := by decide +kernel
theorem dX5_sailingsThatAre_24 : decode cX5_sailingsThatAre 24 = .ok (.aaload, 1) := by decide +kernel
theorem dX5_sailingsThatAre_25 : decode cX5_sailingsThatAre 25 = .ok (.astore 6, 2) := by decide +kernel
theorem dX5_sailingsThatAre_27 : decode cX5_sailingsThatAre 27 = .ok (.aload 6, 2) := by decide +kernel
theorem dX5_sailingsThatAre_29 : decode cX5_sailingsThatAre 29 = .ok (.getfield 207, 3) := by decide +kernel
theorem dX5_sailingsThatAre_32 : decode cX5_sailingsThatAre 32 = .ok (.iload_n 1, 1) := by decide +kernel
theorem dX5_sailingsThatAre_33 : decode cX5_sailingsThatAre 33 = .ok (.if_icmp .ne 6, 3) := by decide +kernel
theorem dX5_sailingsThatAre_36 : decode cX5_sailingsThatAre 36 = .ok (.iinc 2 1, 3) := by decide +kernel
theorem dX5_sailingsThatAre_39 : decode cX5_sailingsThatAre 39 = .ok (.iinc 5 1, 3) := by decide +kernel
theorem dX5_sailingsThatAre_42 : decode cX5_sailingsThatAre 42 = .ok (.goto (-28), 3) := by decide +kernel
theorem dX5_sailingsThatAre_45 : decode cX5_sailingsThatAre 45 = .ok (.iload_n 2, 1) := by decide +kernel
theorem dX5_sailingsThatAre_46 : decode cX5_sailingsThatAre 46 = .ok (.ireturn, 1) := by decide +kernel
def rm_X5_sailingsThatAre : Room := { frames := 0, cells := 0, slots := 0, locals := 0 }
set_option maxHeartbeats 4000000 in
set_option maxRecDepth 20000 in
theorem t_X5_sailingsThatAre_39 {p : Program} {l : Launch} {e : Env} {s : State} {m : MethodId} {args : Array Value} {below : List Frame} {meth : Method} {c : Code} {G : zG} (Z : zF p s m args c meth cX5_sailingsThatAre 7 RX5 G) (hr : meth.sig.returnType = (some .int)) {out : Int32 × zHp} {r14 : Int32 → Int32 → Nat → Int32 → Int32 → zHp → Option (Int32 × zHp)} (k14 : ∀ {a1 : Int32} {a2 : Int32} {a3 : Nat} {a4 : Int32} {a5 : Int32} {h : zHp} {H : Heap} {locs : List Loc} {ls : Array Slot}, r14 a1 a2 a3 a4 a5 h = some out → zE G s h H locs → lv_has ls 7 [(1, .int a1), (2, .int a2), (3, .ref a3), (4, .int a4), (5, .int a5)] → W p l e rm_X5_sailingsThatAre s m args below meth c H locs 0 0 (MQ below (zQi G out.1 out.2) args s 0 0 (zA G)) (F0 m 14 ls [])) {a1 : Int32} {a2 : Int32} {a3 : Nat} {a4 : Int32} {a5 : Int32} {h : zHp} {H : Heap} {locs : List Loc} {ls : Array Slot} (hf : f_X5_sailingsThatAre_39 r14 a1 a2 a3 a4 a5 h = some out) (E : zE G s h H locs) (hl : lv_has ls 7 [(1, .int a1), (2, .int a2), (3, .ref a3), (4, .int a4), (5, .int a5)]) : W p l e rm_X5_sailingsThatAre s m args below meth c H locs 0 0 (MQ below (zQi G out.1 out.2) args s 0 0 (zA G)) (F0 m 39 ls []) := by
  unfold f_X5_sailingsThatAre_39 at hf
  refine lv_iinc (v := (a5 + 1)) (lv' := [(5, .int (a5 + 1)), (1, .int a1), (2, .int a2), (3, .ref a3), (4, .int a4)]) Z.x Z.b dX5_sailingsThatAre_39 hl (k := 4) rfl rfl (by decide) rfl (fun ls hl => ?_)
  refine lv_goto (tgt := 14) Z.x Z.b dX5_sailingsThatAre_42 (by decide) ?_
  exact k14 hf E (lv_sub hl [1, 2, 3, 4, 0] rfl)
set_option maxHeartbeats 4000000 in
set_option maxRecDepth 20000 in
theorem t_X5_sailingsThatAre_14_body {p : Program} {l : Launch} {e : Env} {s : State} {m : MethodId} {args : Array Value} {below : List Frame} {meth : Method} {c : Code} {G : zG} (Z : zF p s m args c meth cX5_sailingsThatAre 7 RX5 G) (hr : meth.sig.returnType = (some .int)) {out : Int32 × zHp} {r14 : Int32 → Int32 → Nat → Int32 → Int32 → zHp → Option (Int32 × zHp)} (k14 : ∀ {a1 : Int32} {a2 : Int32} {a3 : Nat} {a4 : Int32} {a5 : Int32} {h : zHp} {H : Heap} {locs : List Loc} {ls : Array Slot}, r14 a1 a2 a3 a4 a5 h = some out → zE G s h H locs → lv_has ls 7 [(1, .int a1), (2, .int a2), (3, .ref a3), (4, .int a4), (5, .int a5)] → W p l e rm_X5_sailingsThatAre s m args below meth c H locs 0 0 (MQ below (zQi G out.1 out.2) args s 0 0 (zA G)) (F0 m 14 ls [])) {a1 : Int32} {a2 : Int32} {a3 : Nat} {a4 : Int32} {a5 : Int32} {h : zHp} {H : Heap} {locs : List Loc} {ls : Array Slot} (hf : f_X5_sailingsThatAre_14_body r14 a1 a2 a3 a4 a5 h = some out) (E : zE G s h H locs) (hl : lv_has ls 7 [(1, .int a1), (2, .int a2), (3, .ref a3), (4, .int a4), (5, .int a5)]) : W p l e rm_X5_sailingsThatAre s m args below meth c H locs 0 0 (MQ below (zQi G out.1 out.2) args s 0 0 (zA G)) (F0 m 14 ls []) := by
  unfold f_X5_sailingsThatAre_14_body at hf
  refine lv_iload Z.x Z.b dX5_sailingsThatAre_14 (lv_at hl 4 rfl) ?_
  refine lv_iload Z.x Z.b dX5_sailingsThatAre_16 (lv_at hl 3 rfl) ?_
  refine lv_icmp_ge (tgt := 45) Z.x Z.b dX5_sailingsThatAre_18 (by decide) (fun c => ?_) (fun c => ?_)
  · have hf := zit hf c
    refine lv_iload_n Z.x Z.b dX5_sailingsThatAre_45 rfl (lv_at hl 1 rfl) ?_
    exact z_iret Z E hr dX5_sailingsThatAre_46 hf
  · have hf := zif_ hf c
    refine lv_aload_n Z.x Z.b dX5_sailingsThatAre_21 rfl (lv_at hl 2 rfl) ?_
    refine lv_iload Z.x Z.b dX5_sailingsThatAre_22 (lv_at hl 4 rfl) ?_
    refine z_aald (kd := 2) Z E rfl dX5_sailingsThatAre_24 hf (fun v1 hf => ?_)
    refine lv_astore (lv' := [(6, .ref v1), (1, .int a1), (2, .int a2), (3, .ref a3), (4, .int a4), (5, .int a5)]) Z.x Z.b dX5_sailingsThatAre_25 hl (by decide) rfl (fun ls hl => ?_)
    refine lv_aload Z.x Z.b dX5_sailingsThatAre_27 (lv_at hl 0 rfl) ?_
    refine z_getI Z E q_X5_207 dX5_sailingsThatAre_29 hf (fun v2 hf => ?_)
    refine lv_iload_n Z.x Z.b dX5_sailingsThatAre_32 rfl (lv_at hl 1 rfl) ?_
    refine lv_icmp_ne (tgt := 39) Z.x Z.b dX5_sailingsThatAre_33 (by decide) (fun c => ?_) (fun c => ?_)
    · have hf := zif_ hf c
      exact t_X5_sailingsThatAre_39 Z hr k14 hf E (lv_sub hl [1, 2, 3, 4, 5] rfl)
    · have hf := zit hf c
      refine lv_iinc (v := (a2 + 1)) (lv' := [(2, .int (a2 + 1)), (6, .ref v1), (1, .int a1), (3, .ref a3), (4, .int a4), (5, .int a5)]) Z.x Z.b dX5_sailingsThatAre_36 hl (k := 2) rfl rfl (by decide) rfl (fun ls hl => ?_)
      exact t_X5_sailingsThatAre_39 Z hr k14 hf E (lv_sub hl [2, 0, 3, 4, 5] rfl)
theorem t_X5_sailingsThatAre_14 {p : Program} {l : Launch} {e : Env} {s : State} {m : MethodId} {args : Array Value} {below : List Frame} {meth : Method} {c : Code} {G : zG} (Z : zF p s m args c meth cX5_sailingsThatAre 7 RX5 G) (hr : meth.sig.returnType = (some .int)) {out : Int32 × zHp} : ∀ (n : Nat), ∀ {a1 : Int32} {a2 : Int32} {a3 : Nat} {a4 : Int32} {a5 : Int32} {h : zHp} {H : Heap} {locs : List Loc} {ls : Array Slot}, f_X5_sailingsThatAre_14 n a1 a2 a3 a4 a5 h = some out → zE G s h H locs → lv_has ls 7 [(1, .int a1), (2, .int a2), (3, .ref a3), (4, .int a4), (5, .int a5)] → W p l e rm_X5_sailingsThatAre s m args below meth c H locs 0 0 (MQ below (zQi G out.1 out.2) args s 0 0 (zA G)) (F0 m 14 ls [])
  | 0 => fun hf => by cases hf
  | n + 1 => fun hf E hl => t_X5_sailingsThatAre_14_body Z hr (r14 := f_X5_sailingsThatAre_14 n) (t_X5_sailingsThatAre_14 Z hr n) hf E hl
set_option maxHeartbeats 4000000 in
set_option maxRecDepth 20000 in
theorem t_X5_sailingsThatAre {p : Program} {l : Launch} {e : Env} {s : State} {m : MethodId} {args : Array Value} {below : List Frame} {meth : Method} {c : Code} {G : zG} (Z : zF p s m args c meth cX5_sailingsThatAre 7 RX5 G) (hr : meth.sig.returnType = (some .int)) {out : Int32 × zHp} {a0 : Nat} {a1 : Int32} {h : zHp} {H : Heap} {locs : List Loc} {ls : Array Slot} (hf : f_X5_sailingsThatAre a0 a1 h = some out) (E : zE G s h H locs) (hl : lv_has ls 7 [(0, .ref a0), (1, .int a1)]) : W p l e rm_X5_sailingsThatAre s m args below meth c H locs 0 0 (MQ below (zQi G out.1 out.2) args s 0 0 (zA G)) (F0 m 0 ls []) := by
  unfold f_X5_sailingsThatAre at hf
  refine lv_iconst (v := 0) Z.x Z.b dX5_sailingsThatAre_0 (by decide) ?_
  refine lv_istore_n (lv' := [(2, .int 0), (0, .ref a0), (1, .int a1)]) Z.x Z.b dX5_sailingsThatAre_1 rfl hl (by decide) rfl (fun ls hl => ?_)
  refine lv_aload_n Z.x Z.b dX5_sailingsThatAre_2 rfl (lv_at hl 1 rfl) ?_
  refine z_getR Z E q_X5_17 dX5_sailingsThatAre_3 hf (fun v1 hf => ?_)
  refine lv_astore_n (lv' := [(3, .ref v1), (2, .int 0), (0, .ref a0), (1, .int a1)]) Z.x Z.b dX5_sailingsThatAre_6 rfl hl (by decide) rfl (fun ls hl => ?_)
  refine lv_aload_n Z.x Z.b dX5_sailingsThatAre_7 rfl (lv_at hl 0 rfl) ?_
  refine z_alenR (kd := 2) Z E rfl dX5_sailingsThatAre_8 hf (fun v2 hf => ?_)
  refine lv_istore (lv' := [(4, .int v2), (3, .ref v1), (2, .int 0), (0, .ref a0), (1, .int a1)]) Z.x Z.b dX5_sailingsThatAre_9 hl (by decide) rfl (fun ls hl => ?_)
  refine lv_iconst (v := 0) Z.x Z.b dX5_sailingsThatAre_11 (by decide) ?_
  refine lv_istore (lv' := [(5, .int 0), (4, .int v2), (3, .ref v1), (2, .int 0), (0, .ref a0), (1, .int a1)]) Z.x Z.b dX5_sailingsThatAre_12 hl (by decide) rfl (fun ls hl => ?_)
  exact t_X5_sailingsThatAre_14 Z hr zN hf E (lv_sub hl [5, 3, 2, 1, 0] rfl)
set_option maxHeartbeats 4000000 in
set_option maxRecDepth 20000 in
theorem c_X5_sailingsThatAre (l : Launch) (G : zG) (h : zHp) (h' : zHp) (a0 : Nat) (a1 : Int32) (r : Int32) (hf : f_X5_sailingsThatAre a0 a1 h = some (r, h')) : zM0 l yX5_sailingsThatAre cX5_sailingsThatAre 7 (some .int) rm_X5_sailingsThatAre G [.ref a0, .int a1] h (zQi G r h') := by
  refine Met.ofW (cc := cX5_sailingsThatAre) (maxL := 7) (ret := (some .int)) (by decide) rfl ?_
  intro p e s m args below meth c s₁ B hml hv
  obtain ⟨rfl, hW⟩ := hv
  obtain ⟨Z, E, hr⟩ := zEnter (own := RX5) B hml rfl hW
  have hl := lv_entry ([.ref a0, .int a1]) (n := 7) (Nat.le_of_ble_eq_true rfl)
  rw [lg_entry_eq]
  generalize (lg_sl ([.ref a0, .int a1]) ++ List.replicate (7 - (lg_sl ([.ref a0, .int a1])).length) Slot.unset).toArray = ls at hl ⊢
  have hl : lv_has ls 7 [(0, .ref a0), (1, .int a1)] := hl
  exact t_X5_sailingsThatAre (out := (r, h')) Z hr hf E hl
/-! FerryCrews$State.freeOpenPlaces()I -/
theorem dX5_freeOpenPlaces_0 : decode cX5_freeOpenPlaces 0 = .ok (.iconst 0, 1) := by decide +kernel
theorem dX5_freeOpenPlaces_1 : decode cX5_freeOpenPlaces 1 = .ok (.istore_n 1, 1) := by decide +kernel
theorem dX5_freeOpenPlaces_2 : decode cX5_freeOpenPlaces 2 = .ok (.aload_n 0, 1) := by decide +kernel
theorem dX5_freeOpenPlaces_3 : decode cX5_freeOpenPlaces 3 = .ok (.getfield 17, 3) := by decide +kernel
theorem dX5_freeOpenPlaces_6 : decode cX5_freeOpenPlaces 6 = .ok (.astore_n 2, 1) := by decide +kernel
theorem dX5_freeOpenPlaces_7 : decode cX5_freeOpenPlaces 7 = .ok (.aload_n 2, 1) := by decide +kernel
theorem dX5_freeOpenPlaces_8 : decode cX5_freeOpenPlaces 8 = .ok (.arraylength, 1) := by decide +kernel
theorem dX5_freeOpenPlaces_9 : decode cX5_freeOpenPlaces 9 = .ok (.istore_n 3, 1) := by decide +kernel
theorem dX5_freeOpenPlaces_10 : decode cX5_freeOpenPlaces 10 = .ok (.iconst 0, 1) := by decide +kernel
theorem dX5_freeOpenPlaces_11 : decode cX5_freeOpenPlaces 11 = .ok (.istore 4, 2) := by decide +kernel
theorem dX5_freeOpenPlaces_13 : decode cX5_freeOpenPlaces 13 = .ok (.iload 4, 2) := by decide +kernel
theorem dX5_freeOpenPlaces_15 : decode cX5_freeOpenPlaces 15 = .ok (.iload_n 3, 1) := by decide +kernel
theorem dX5_freeOpenPlaces_16 : decode cX5_freeOpenPlaces 16 = .ok (.if_icmp .ge 31, 3) := by decide +kernel
theorem dX5_freeOpenPlaces_19 : decode cX5_freeOpenPlaces 19 = .ok (.aload_n 2, 1) := by decide +kernel
theorem dX5_freeOpenPlaces_20 : decode cX5_freeOpenPlaces 20 = .ok (.iload 4, 2) := by decide +kernel
theorem dX5_freeOpenPlaces_22 : decode cX5_freeOpenPlaces 22 = .ok (.aaload, 1) := by decide +kernel
theorem dX5_freeOpenPlaces_23 : decode cX5_freeOpenPlaces 23 = .ok (.astore 5, 2) := by decide +kernel
theorem dX5_freeOpenPlaces_25 : decode cX5_freeOpenPlaces 25 = .ok (.aload 5, 2) := by decide +kernel
theorem dX5_freeOpenPlaces_27 : decode cX5_freeOpenPlaces 27 = .ok (.invokevirtual 108, 3) := by decide +kernel
theorem dX5_freeOpenPlaces_30 : decode cX5_freeOpenPlaces 30 = .ok (.ifCond .eq 11, 3) := by decide +kernel
theorem dX5_freeOpenPlaces_33 : decode cX5_freeOpenPlaces 33 = .ok (.iload_n 1, 1) := by decide +kernel
theorem dX5_freeOpenPlaces_34 : decode cX5_freeOpenPlaces 34 = .ok (.aload 5, 2) := by decide +kernel
theorem dX5_freeOpenPlaces_36 : decode cX5_freeOpenPlaces 36 = .ok (.invokevirtual 194, 3) := by decide +kernel
theorem dX5_freeOpenPlaces_39 : decode cX5_freeOpenPlaces 39 = .ok (.iadd, 1) := by decide +kernel
theorem dX5_freeOpenPlaces_40 : decode cX5_freeOpenPlaces 40 = .ok (.istore_n 1, 1) := by decide +kernel
theorem dX5_freeOpenPlaces_41 : decode cX5_freeOpenPlaces 41 = .ok (.iinc 4 1, 3) := by decide +kernel
theorem dX5_freeOpenPlaces_44 : decode cX5_freeOpenPlaces 44 = .ok (.goto (-31), 3) := by decide +kernel
theorem dX5_freeOpenPlaces_47 : decode cX5_freeOpenPlaces 47 = .ok (.iload_n 1, 1) := by decide +kernel
theorem dX5_freeOpenPlaces_48 : decode cX5_freeOpenPlaces 48 = .ok (.ireturn, 1) := by decide +kernel
def rm_X5_freeOpenPlaces : Room := { frames := 2, cells := 0, slots := 0, locals := 42 }
set_option maxHeartbeats 4000000 in
set_option maxRecDepth 20000 in
theorem t_X5_freeOpenPlaces_41 {p : Program} {l : Launch} {e : Env} {s : State} {m : MethodId} {args : Array Value} {below : List Frame} {meth : Method} {c : Code} {G : zG} (Z : zF p s m args c meth cX5_freeOpenPlaces 6 RX5 G) (hr : meth.sig.returnType = (some .int)) {out : Int32 × zHp} {r13 : Int32 → Nat → Int32 → Int32 → zHp → Option (Int32 × zHp)} (k13 : ∀ {a1 : Int32} {a2 : Nat} {a3 : Int32} {a4 : Int32} {h : zHp} {H : Heap} {locs : List Loc} {ls : Array Slot}, r13 a1 a2 a3 a4 h = some out → zE G s h H locs → lv_has ls 6 [(1, .int a1), (2, .ref a2), (3, .int a3), (4, .int a4)] → W p l e rm_X5_freeOpenPlaces s m args below meth c H locs 0 0 (MQ below (zQi G out.1 out.2) args s 0 0 (zA G)) (F0 m 13 ls [])) {a1 : Int32} {a2 : Nat} {a3 : Int32} {a4 : Int32} {h : zHp} {H : Heap} {locs : List Loc} {ls : Array Slot} (hf : f_X5_freeOpenPlaces_41 r13 a1 a2 a3 a4 h = some out) (E : zE G s h H locs) (hl : lv_has ls 6 [(1, .int a1), (2, .ref a2), (3, .int a3), (4, .int a4)]) : W p l e rm_X5_freeOpenPlaces s m args below meth c H locs 0 0 (MQ below (zQi G out.1 out.2) args s 0 0 (zA G)) (F0 m 41 ls []) := by
  unfold f_X5_freeOpenPlaces_41 at hf
  refine lv_iinc (v := (a4 + 1)) (lv' := [(4, .int (a4 + 1)), (1, .int a1), (2, .ref a2), (3, .int a3)]) Z.x Z.b dX5_freeOpenPlaces_41 hl (k := 3) rfl rfl (by decide) rfl (fun ls hl => ?_)
  refine lv_goto (tgt := 13) Z.x Z.b dX5_freeOpenPlaces_44 (by decide) ?_
  exact k13 hf E (lv_sub hl [1, 2, 3, 0] rfl)
set_option maxHeartbeats 4000000 in
set_option maxRecDepth 20000 in
theorem t_X5_freeOpenPlaces_13_body {p : Program} {l : Launch} {e : Env} {s : State} {m : MethodId} {args : Array Value} {below : List Frame} {meth : Method} {c : Code} {G : zG} (Z : zF p s m args c meth cX5_freeOpenPlaces 6 RX5 G) (hr : meth.sig.returnType = (some .int)) {out : Int32 × zHp} {r13 : Int32 → Nat → Int32 → Int32 → zHp → Option (Int32 × zHp)} (k13 : ∀ {a1 : Int32} {a2 : Nat} {a3 : Int32} {a4 : Int32} {h : zHp} {H : Heap} {locs : List Loc} {ls : Array Slot}, r13 a1 a2 a3 a4 h = some out → zE G s h H locs → lv_has ls 6 [(1, .int a1), (2, .ref a2), (3, .int a3), (4, .int a4)] → W p l e rm_X5_freeOpenPlaces s m args below meth c H locs 0 0 (MQ below (zQi G out.1 out.2) args s 0 0 (zA G)) (F0 m 13 ls [])) {a1 : Int32} {a2 : Nat} {a3 : Int32} {a4 : Int32} {h : zHp} {H : Heap} {locs : List Loc} {ls : Array Slot} (hf : f_X5_freeOpenPlaces_13_body r13 a1 a2 a3 a4 h = some out) (E : zE G s h H locs) (hl : lv_has ls 6 [(1, .int a1), (2, .ref a2), (3, .int a3), (4, .int a4)]) : W p l e rm_X5_freeOpenPlaces s m args below meth c H locs 0 0 (MQ below (zQi G out.1 out.2) args s 0 0 (zA G)) (F0 m 13 ls []) := by
  unfold f_X5_freeOpenPlaces_13_body at hf
  refine lv_iload Z.x Z.b dX5_freeOpenPlaces_13 (lv_at hl 3 rfl) ?_
  refine lv_iload_n Z.x Z.b dX5_freeOpenPlaces_15 rfl (lv_at hl 2 rfl) ?_
  refine lv_icmp_ge (tgt := 47) Z.x Z.b dX5_freeOpenPlaces_16 (by decide) (fun c => ?_) (fun c => ?_)
  · have hf := zit hf c
    refine lv_iload_n Z.x Z.b dX5_freeOpenPlaces_47 rfl (lv_at hl 0 rfl) ?_
    exact z_iret Z E hr dX5_freeOpenPlaces_48 hf
  · have hf := zif_ hf c
    refine lv_aload_n Z.x Z.b dX5_freeOpenPlaces_19 rfl (lv_at hl 1 rfl) ?_
    refine lv_iload Z.x Z.b dX5_freeOpenPlaces_20 (lv_at hl 3 rfl) ?_
    refine z_aald (kd := 2) Z E rfl dX5_freeOpenPlaces_22 hf (fun v1 hf => ?_)
    refine lv_astore (lv' := [(5, .ref v1), (1, .int a1), (2, .ref a2), (3, .int a3), (4, .int a4)]) Z.x Z.b dX5_freeOpenPlaces_23 hl (by decide) rfl (fun ls hl => ?_)
    refine lv_aload Z.x Z.b dX5_freeOpenPlaces_25 (lv_at hl 0 rfl) ?_
    refine z_Vi (As := []) Z E hl.1 k_X5_108 v_X4_isOpen hf (fun r h' e => c_X4_isOpen l G h h' v1 r e) rfl rfl (Nat.le_of_ble_eq_true rfl) (zRm_of rfl (Nat.zero_le _) (Nat.zero_le _)) dX5_freeOpenPlaces_27 (fun v2 h3 H locs hf E => ?_)
    refine lv_if_eq (tgt := 41) Z.x Z.b dX5_freeOpenPlaces_30 (by decide) (fun c => ?_) (fun c => ?_)
    · have hf := zit hf c
      exact t_X5_freeOpenPlaces_41 Z hr k13 hf E (lv_sub hl [1, 2, 3, 4] rfl)
    · have hf := zif_ hf c
      refine lv_iload_n Z.x Z.b dX5_freeOpenPlaces_33 rfl (lv_at hl 1 rfl) ?_
      refine lv_aload Z.x Z.b dX5_freeOpenPlaces_34 (lv_at hl 0 rfl) ?_
      refine z_Vi (As := []) Z E hl.1 k_X5_194 v_X4_freePlaces hf (fun r h' e => c_X4_freePlaces l G h3 h' v1 r e) rfl rfl (Nat.le_of_ble_eq_true rfl) (zRm_of rfl (Nat.zero_le _) (Nat.zero_le _)) dX5_freeOpenPlaces_36 (fun v4 h5 H locs hf E => ?_)
      refine lv_iadd Z.x Z.b dX5_freeOpenPlaces_39 ?_
      refine lv_istore_n (lv' := [(1, .int (a1 + v4)), (5, .ref v1), (2, .ref a2), (3, .int a3), (4, .int a4)]) Z.x Z.b dX5_freeOpenPlaces_40 rfl hl (by decide) rfl (fun ls hl => ?_)
      exact t_X5_freeOpenPlaces_41 Z hr k13 hf E (lv_sub hl [0, 2, 3, 4] rfl)
theorem t_X5_freeOpenPlaces_13 {p : Program} {l : Launch} {e : Env} {s : State} {m : MethodId} {args : Array Value} {below : List Frame} {meth : Method} {c : Code} {G : zG} (Z : zF p s m args c meth cX5_freeOpenPlaces 6 RX5 G) (hr : meth.sig.returnType = (some .int)) {out : Int32 × zHp} : ∀ (n : Nat), ∀ {a1 : Int32} {a2 : Nat} {a3 : Int32} {a4 : Int32} {h : zHp} {H : Heap} {locs : List Loc} {ls : Array Slot}, f_X5_freeOpenPlaces_13 n a1 a2 a3 a4 h = some out → zE G s h H locs → lv_has ls 6 [(1, .int a1), (2, .ref a2), (3, .int a3), (4, .int a4)] → W p l e rm_X5_freeOpenPlaces s m args below meth c H locs 0 0 (MQ below (zQi G out.1 out.2) args s 0 0 (zA G)) (F0 m 13 ls [])
  | 0 => fun hf => by cases hf
  | n + 1 => fun hf E hl => t_X5_freeOpenPlaces_13_body Z hr (r13 := f_X5_freeOpenPlaces_13 n) (t_X5_freeOpenPlaces_13 Z hr n) hf E hl
set_option maxHeartbeats 4000000 in
set_option maxRecDepth 20000 in
theorem t_X5_freeOpenPlaces {p : Program} {l : Launch} {e : Env} {s : State} {m : MethodId} {args : Array Value} {below : List Frame} {meth : Method} {c : Code} {G : zG} (Z : zF p s m args c meth cX5_freeOpenPlaces 6 RX5 G) (hr : meth.sig.returnType = (some .int)) {out : Int32 × zHp} {a0 : Nat} {h : zHp} {H : Heap} {locs : List Loc} {ls : Array Slot} (hf : f_X5_freeOpenPlaces a0 h = some out) (E : zE G s h H locs) (hl : lv_has ls 6 [(0, .ref a0)]) : W p l e rm_X5_freeOpenPlaces s m args below meth c H locs 0 0 (MQ below (zQi G out.1 out.2) args s 0 0 (zA G)) (F0 m 0 ls []) := by
  unfold f_X5_freeOpenPlaces at hf
  refine lv_iconst (v := 0) Z.x Z.b dX5_freeOpenPlaces_0 (by decide) ?_
  refine lv_istore_n (lv' := [(1, .int 0), (0, .ref a0)]) Z.x Z.b dX5_freeOpenPlaces_1 rfl hl (by decide) rfl (fun ls hl => ?_)
  refine lv_aload_n Z.x Z.b dX5_freeOpenPlaces_2 rfl (lv_at hl 1 rfl) ?_
  refine z_getR Z E q_X5_17 dX5_freeOpenPlaces_3 hf (fun v1 hf => ?_)
  refine lv_astore_n (lv' := [(2, .ref v1), (1, .int 0), (0, .ref a0)]) Z.x Z.b dX5_freeOpenPlaces_6 rfl hl (by decide) rfl (fun ls hl => ?_)
  refine lv_aload_n Z.x Z.b dX5_freeOpenPlaces_7 rfl (lv_at hl 0 rfl) ?_
  refine z_alenR (kd := 2) Z E rfl dX5_freeOpenPlaces_8 hf (fun v2 hf => ?_)
  refine lv_istore_n (lv' := [(3, .int v2), (2, .ref v1), (1, .int 0), (0, .ref a0)]) Z.x Z.b dX5_freeOpenPlaces_9 rfl hl (by decide) rfl (fun ls hl => ?_)
  refine lv_iconst (v := 0) Z.x Z.b dX5_freeOpenPlaces_10 (by decide) ?_
  refine lv_istore (lv' := [(4, .int 0), (3, .int v2), (2, .ref v1), (1, .int 0), (0, .ref a0)]) Z.x Z.b dX5_freeOpenPlaces_11 hl (by decide) rfl (fun ls hl => ?_)
  exact t_X5_freeOpenPlaces_13 Z hr zN hf E (lv_sub hl [3, 2, 1, 0] rfl)
set_option maxHeartbeats 4000000 in
set_option maxRecDepth 20000 in
theorem c_X5_freeOpenPlaces (l : Launch) (G : zG) (h : zHp) (h' : zHp) (a0 : Nat) (r : Int32) (hf : f_X5_freeOpenPlaces a0 h = some (r, h')) : zM0 l yX5_freeOpenPlaces cX5_freeOpenPlaces 6 (some .int) rm_X5_freeOpenPlaces G [.ref a0] h (zQi G r h') := by
  refine Met.ofW (cc := cX5_freeOpenPlaces) (maxL := 6) (ret := (some .int)) (by decide) rfl ?_
  intro p e s m args below meth c s₁ B hml hv
  obtain ⟨rfl, hW⟩ := hv
  obtain ⟨Z, E, hr⟩ := zEnter (own := RX5) B hml rfl hW
  have hl := lv_entry ([.ref a0]) (n := 6) (Nat.le_of_ble_eq_true rfl)
  rw [lg_entry_eq]
  generalize (lg_sl ([.ref a0]) ++ List.replicate (6 - (lg_sl ([.ref a0])).length) Slot.unset).toArray = ls at hl ⊢
  have hl : lv_has ls 6 [(0, .ref a0)] := hl
  exact t_X5_freeOpenPlaces (out := (r, h')) Z hr hf E hl
/-! FerryCrews$State.takenOpenPlaces()I -/
theorem dX5_takenOpenPlaces_0 : decode cX5_takenOpenPlaces 0 = .ok (.iconst 0, 1) := by decide +kernel
theorem dX5_takenOpenPlaces_1 : decode cX5_takenOpenPlaces 1 = .ok (.istore_n 1, 1) := by decide +kernel
theorem dX5_takenOpenPlaces_2 : decode cX5_takenOpenPlaces 2 = .ok (.aload_n 0, 1) := by decide +kernel
theorem dX5_takenOpenPlaces_3 : decode cX5_takenOpenPlaces 3 = .ok (.getfield 17, 3) := by decide +kernel
theorem dX5_takenOpenPlaces_6 : decode cX5_takenOpenPlaces 6 = .ok (.astore_n 2, 1) := by decide +kernel
theorem dX5_takenOpenPlaces_7 : decode cX5_takenOpenPlaces 7 = .ok (.aload_n 2, 1) := by decide +kernel
theorem dX5_takenOpenPlaces_8 : decode cX5_takenOpenPlaces 8 = .ok (.arraylength, 1) := by decide +kernel
theorem dX5_takenOpenPlaces_9 : decode cX5_takenOpenPlaces 9 = .ok (.istore_n 3, 1) := by decide +kernel
theorem dX5_takenOpenPlaces_10 : decode cX5_takenOpenPlaces 10 = .ok (.iconst 0, 1) := by decide +kernel
theorem dX5_takenOpenPlaces_11 : decode cX5_takenOpenPlaces 11 = .ok (.istore 4, 2) := by decide +kernel
theorem dX5_takenOpenPlaces_13 : decode cX5_takenOpenPlaces 13 = .ok (.iload 4, 2) := by decide +kernel
theorem dX5_takenOpenPlaces_15 : decode cX5_takenOpenPlaces 15 = .ok (.iload_n 3, 1) := by decide +kernel
theorem dX5_takenOpenPlaces_16 : decode cX5_takenOpenPlaces 16 = .ok (.if_icmp .ge 31, 3) := by decide +kernel
theorem dX5_takenOpenPlaces_19 : decode cX5_takenOpenPlaces 19 = .ok (.aload_n 2, 1) := by decide +kernel
theorem dX5_takenOpenPlaces_20 : decode cX5_takenOpenPlaces 20 = .ok (.iload 4, 2) := by decide +kernel
theorem dX5_takenOpenPlaces_22 : decode cX5_takenOpenPlaces 22 = .ok (.aaload, 1) := by decide +kernel
theorem dX5_takenOpenPlaces_23 : decode cX5_takenOpenPlaces 23 = .ok (.astore 5, 2) := by decide +kernel
theorem dX5_takenOpenPlaces_25 : decode cX5_takenOpenPlaces 25 = .ok (.aload 5, 2) := by decide +kernel
theorem dX5_takenOpenPlaces_27 : decode cX5_takenOpenPlaces 27 = .ok (.invokevirtual 108, 3) := by decide +kernel
theorem dX5_takenOpenPlaces_30 : decode cX5_takenOpenPlaces 30 = .ok (.ifCond .eq 11, 3) := by decide +kernel
theorem dX5_takenOpenPlaces_33 : decode cX5_takenOpenPlaces 33 = .ok (.iload_n 1, 1) := by decide +kernel
theorem dX5_takenOpenPlaces_34 : decode cX5_takenOpenPlaces 34 = .ok (.aload 5, 2) := by decide +kernel
theorem dX5_takenOpenPlaces_36 : decode cX5_takenOpenPlaces 36 = .ok (.invokevirtual 210, 3) := by decide +kernel
theorem dX5_takenOpenPlaces_39 : decode cX5_takenOpenPlaces 39 = .ok (.iadd, 1) := by decide +kernel
theorem dX5_takenOpenPlaces_40 : decode cX5_takenOpenPlaces 40 = .ok (.istore_n 1, 1) := by decide +kernel
theorem dX5_takenOpenPlaces_41 : decode cX5_takenOpenPlaces 41 = .ok (.iinc 4 1, 3) := by decide +kernel
theorem dX5_takenOpenPlaces_44 : decode cX5_takenOpenPlaces 44 = .ok (.goto (-31), 3) := by decide +kernel
theorem dX5_takenOpenPlaces_47 : decode cX5_takenOpenPlaces 47 = .ok (.iload_n 1, 1) := by decide +kernel
theorem dX5_takenOpenPlaces_48 : decode cX5_takenOpenPlaces 48 = .ok (.ireturn, 1) := by decide +kernel
set_option maxRecDepth 20000 in
theorem wm_X5_210 : Cond.methodLink RX5 210 yX4_takenPlaces ∈ zB := List.mem_filter.mpr ⟨List.mem_of_getElem? (i := 367) (by decide +kernel), by decide +kernel⟩
theorem k_X5_210 : zCal RX5 210 yX4_takenPlaces cX4_takenPlaces 3 (some .int) 0 := ⟨wm_X5_210, wi_X4, wc_X4_takenPlaces, by decide +kernel, by decide +kernel, by decide +kernel⟩
def rm_X5_takenOpenPlaces : Room := { frames := 1, cells := 0, slots := 0, locals := 22 }
set_option maxHeartbeats 4000000 in
set_option maxRecDepth 20000 in
theorem t_X5_takenOpenPlaces_41 {p : Program} {l : Launch} {e : Env} {s : State} {m : MethodId} {args : Array Value} {below : List Frame} {meth : Method} {c : Code} {G : zG} (Z : zF p s m args c meth cX5_takenOpenPlaces 6 RX5 G) (hr : meth.sig.returnType = (some .int)) {out : Int32 × zHp} {r13 : Int32 → Nat → Int32 → Int32 → zHp → Option (Int32 × zHp)} (k13 : ∀ {a1 : Int32} {a2 : Nat} {a3 : Int32} {a4 : Int32} {h : zHp} {H : Heap} {locs : List Loc} {ls : Array Slot}, r13 a1 a2 a3 a4 h = some out → zE G s h H locs → lv_has ls 6 [(1, .int a1), (2, .ref a2), (3, .int a3), (4, .int a4)] → W p l e rm_X5_takenOpenPlaces s m args below meth c H locs 0 0 (MQ below (zQi G out.1 out.2) args s 0 0 (zA G)) (F0 m 13 ls [])) {a1 : Int32} {a2 : Nat} {a3 : Int32} {a4 : Int32} {h : zHp} {H : Heap} {locs : List Loc} {ls : Array Slot} (hf : f_X5_takenOpenPlaces_41 r13 a1 a2 a3 a4 h = some out) (E : zE G s h H locs) (hl : lv_has ls 6 [(1, .int a1), (2, .ref a2), (3, .int a3), (4, .int a4)]) : W p l e rm_X5_takenOpenPlaces s m args below meth c H locs 0 0 (MQ below (zQi G out.1 out.2) args s 0 0 (zA G)) (F0 m 41 ls []) := by
  unfold f_X5_takenOpenPlaces_41 at hf
  refine lv_iinc (v := (a4 + 1)) (lv' := [(4, .int (a4 + 1)), (1, .int a1), (2, .ref a2), (3, .int a3)]) Z.x Z.b dX5_takenOpenPlaces_41 hl (k := 3) rfl rfl (by decide) rfl (fun ls hl => ?_)
  refine lv_goto (tgt := 13) Z.x Z.b dX5_takenOpenPlaces_44 (by decide) ?_
  exact k13 hf E (lv_sub hl [1, 2, 3, 0] rfl)
set_option maxHeartbeats 4000000 in
set_option maxRecDepth 20000 in
theorem t_X5_takenOpenPlaces_13_body {p : Program} {l : Launch} {e : Env} {s : State} {m : MethodId} {args : Array Value} {below : List Frame} {meth : Method} {c : Code} {G : zG} (Z : zF p s m args c meth cX5_takenOpenPlaces 6 RX5 G) (hr : meth.sig.returnType = (some .int)) {out : Int32 × zHp} {r13 : Int32 → Nat → Int32 → Int32 → zHp → Option (Int32 × zHp)} (k13 : ∀ {a1 : Int32} {a2 : Nat} {a3 : Int32} {a4 : Int32} {h : zHp} {H : Heap} {locs : List Loc} {ls : Array Slot}, r13 a1 a2 a3 a4 h = some out → zE G s h H locs → lv_has ls 6 [(1, .int a1), (2, .ref a2), (3, .int a3), (4, .int a4)] → W p l e rm_X5_takenOpenPlaces s m args below meth c H locs 0 0 (MQ below (zQi G out.1 out.2) args s 0 0 (zA G)) (F0 m 13 ls [])) {a1 : Int32} {a2 : Nat} {a3 : Int32} {a4 : Int32} {h : zHp} {H : Heap} {locs : List Loc} {ls : Array Slot} (hf : f_X5_takenOpenPlaces_13_body r13 a1 a2 a3 a4 h = some out) (E : zE G s h H locs) (hl : lv_has ls 6 [(1, .int a1), (2, .ref a2), (3, .int a3), (4, .int a4)]) : W p l e rm_X5_takenOpenPlaces s m args below meth c H locs 0 0 (MQ below (zQi G out.1 out.2) args s 0 0 (zA G)) (F0 m 13 ls []) := by
  unfold f_X5_takenOpenPlaces_13_body at hf
  refine lv_iload Z.x Z.b dX5_takenOpenPlaces_13 (lv_at hl 3 rfl) ?_
  refine lv_iload_n Z.x Z.b dX5_takenOpenPlaces_15 rfl (lv_at hl 2 rfl) ?_
  refine lv_icmp_ge (tgt := 47) Z.x Z.b dX5_takenOpenPlaces_16 (by decide) (fun c => ?_) (fun c => ?_)
  · have hf := zit hf c
    refine lv_iload_n Z.x Z.b dX5_takenOpenPlaces_47 rfl (lv_at hl 0 rfl) ?_
    exact z_iret Z E hr dX5_takenOpenPlaces_48 hf
  · have hf := zif_ hf c
    refine lv_aload_n Z.x Z.b dX5_takenOpenPlaces_19 rfl (lv_at hl 1 rfl) ?_
    refine lv_iload Z.x Z.b dX5_takenOpenPlaces_20 (lv_at hl 3 rfl) ?_
    refine z_aald (kd := 2) Z E rfl dX5_takenOpenPlaces_22 hf (fun v1 hf => ?_)
    refine lv_astore (lv' := [(5, .ref v1), (1, .int a1), (2, .ref a2), (3, .int a3), (4, .int a4)]) Z.x Z.b dX5_takenOpenPlaces_23 hl (by decide) rfl (fun ls hl => ?_)
    refine lv_aload Z.x Z.b dX5_takenOpenPlaces_25 (lv_at hl 0 rfl) ?_
    refine z_Vi (As := []) Z E hl.1 k_X5_108 v_X4_isOpen hf (fun r h' e => c_X4_isOpen l G h h' v1 r e) rfl rfl (Nat.le_of_ble_eq_true rfl) (zRm_of rfl (Nat.zero_le _) (Nat.zero_le _)) dX5_takenOpenPlaces_27 (fun v2 h3 H locs hf E => ?_)
    refine lv_if_eq (tgt := 41) Z.x Z.b dX5_takenOpenPlaces_30 (by decide) (fun c => ?_) (fun c => ?_)
    · have hf := zit hf c
      exact t_X5_takenOpenPlaces_41 Z hr k13 hf E (lv_sub hl [1, 2, 3, 4] rfl)
    · have hf := zif_ hf c
      refine lv_iload_n Z.x Z.b dX5_takenOpenPlaces_33 rfl (lv_at hl 1 rfl) ?_
      refine lv_aload Z.x Z.b dX5_takenOpenPlaces_34 (lv_at hl 0 rfl) ?_
      refine z_Vi (As := []) Z E hl.1 k_X5_210 v_X4_takenPlaces hf (fun r h' e => c_X4_takenPlaces l G h3 h' v1 r e) rfl rfl (Nat.le_of_ble_eq_true rfl) (zRm_of rfl (Nat.zero_le _) (Nat.zero_le _)) dX5_takenOpenPlaces_36 (fun v4 h5 H locs hf E => ?_)
      refine lv_iadd Z.x Z.b dX5_takenOpenPlaces_39 ?_
      refine lv_istore_n (lv' := [(1, .int (a1 + v4)), (5, .ref v1), (2, .ref a2), (3, .int a3), (4, .int a4)]) Z.x Z.b dX5_takenOpenPlaces_40 rfl hl (by decide) rfl (fun ls hl => ?_)
      exact t_X5_takenOpenPlaces_41 Z hr k13 hf E (lv_sub hl [0, 2, 3, 4] rfl)
theorem t_X5_takenOpenPlaces_13 {p : Program} {l : Launch} {e : Env} {s : State} {m : MethodId} {args : Array Value} {below : List Frame} {meth : Method} {c : Code} {G : zG} (Z : zF p s m args c meth cX5_takenOpenPlaces 6 RX5 G) (hr : meth.sig.returnType = (some .int)) {out : Int32 × zHp} : ∀ (n : Nat), ∀ {a1 : Int32} {a2 : Nat} {a3 : Int32} {a4 : Int32} {h : zHp} {H : Heap} {locs : List Loc} {ls : Array Slot}, f_X5_takenOpenPlaces_13 n a1 a2 a3 a4 h = some out → zE G s h H locs → lv_has ls 6 [(1, .int a1), (2, .ref a2), (3, .int a3), (4, .int a4)] → W p l e rm_X5_takenOpenPlaces s m args below meth c H locs 0 0 (MQ below (zQi G out.1 out.2) args s 0 0 (zA G)) (F0 m 13 ls [])
  | 0 => fun hf => by cases hf
  | n + 1 => fun hf E hl => t_X5_takenOpenPlaces_13_body Z hr (r13 := f_X5_takenOpenPlaces_13 n) (t_X5_takenOpenPlaces_13 Z hr n) hf E hl
set_option maxHeartbeats 4000000 in
set_option maxRecDepth 20000 in
theorem t_X5_takenOpenPlaces {p : Program} {l : Launch} {e : Env} {s : State} {m : MethodId} {args : Array Value} {below : List Frame} {meth : Method} {c : Code} {G : zG} (Z : zF p s m args c meth cX5_takenOpenPlaces 6 RX5 G) (hr : meth.sig.returnType = (some .int)) {out : Int32 × zHp} {a0 : Nat} {h : zHp} {H : Heap} {locs : List Loc} {ls : Array Slot} (hf : f_X5_takenOpenPlaces a0 h = some out) (E : zE G s h H locs) (hl : lv_has ls 6 [(0, .ref a0)]) : W p l e rm_X5_takenOpenPlaces s m args below meth c H locs 0 0 (MQ below (zQi G out.1 out.2) args s 0 0 (zA G)) (F0 m 0 ls []) := by
  unfold f_X5_takenOpenPlaces at hf
  refine lv_iconst (v := 0) Z.x Z.b dX5_takenOpenPlaces_0 (by decide) ?_
  refine lv_istore_n (lv' := [(1, .int 0), (0, .ref a0)]) Z.x Z.b dX5_takenOpenPlaces_1 rfl hl (by decide) rfl (fun ls hl => ?_)
  refine lv_aload_n Z.x Z.b dX5_takenOpenPlaces_2 rfl (lv_at hl 1 rfl) ?_
  refine z_getR Z E q_X5_17 dX5_takenOpenPlaces_3 hf (fun v1 hf => ?_)
  refine lv_astore_n (lv' := [(2, .ref v1), (1, .int 0), (0, .ref a0)]) Z.x Z.b dX5_takenOpenPlaces_6 rfl hl (by decide) rfl (fun ls hl => ?_)
  refine lv_aload_n Z.x Z.b dX5_takenOpenPlaces_7 rfl (lv_at hl 0 rfl) ?_
  refine z_alenR (kd := 2) Z E rfl dX5_takenOpenPlaces_8 hf (fun v2 hf => ?_)
  refine lv_istore_n (lv' := [(3, .int v2), (2, .ref v1), (1, .int 0), (0, .ref a0)]) Z.x Z.b dX5_takenOpenPlaces_9 rfl hl (by decide) rfl (fun ls hl => ?_)
  refine lv_iconst (v := 0) Z.x Z.b dX5_takenOpenPlaces_10 (by decide) ?_
  refine lv_istore (lv' := [(4, .int 0), (3, .int v2), (2, .ref v1), (1, .int 0), (0, .ref a0)]) Z.x Z.b dX5_takenOpenPlaces_11 hl (by decide) rfl (fun ls hl => ?_)
  exact t_X5_takenOpenPlaces_13 Z hr zN hf E (lv_sub hl [3, 2, 1, 0] rfl)
set_option maxHeartbeats 4000000 in
set_option maxRecDepth 20000 in
theorem c_X5_takenOpenPlaces (l : Launch) (G : zG) (h : zHp) (h' : zHp) (a0 : Nat) (r : Int32) (hf : f_X5_takenOpenPlaces a0 h = some (r, h')) : zM0 l yX5_takenOpenPlaces cX5_takenOpenPlaces 6 (some .int) rm_X5_takenOpenPlaces G [.ref a0] h (zQi G r h') := by
  refine Met.ofW (cc := cX5_takenOpenPlaces) (maxL := 6) (ret := (some .int)) (by decide) rfl ?_
  intro p e s m args below meth c s₁ B hml hv
  obtain ⟨rfl, hW⟩ := hv
  obtain ⟨Z, E, hr⟩ := zEnter (own := RX5) B hml rfl hW
  have hl := lv_entry ([.ref a0]) (n := 6) (Nat.le_of_ble_eq_true rfl)
  rw [lg_entry_eq]
  generalize (lg_sl ([.ref a0]) ++ List.replicate (6 - (lg_sl ([.ref a0])).length) Slot.unset).toArray = ls at hl ⊢
  have hl : lv_has ls 6 [(0, .ref a0)] := hl
  exact t_X5_takenOpenPlaces (out := (r, h')) Z hr hf E hl
/-! FerryCrews$State.membersSickNow()I -/
theorem dX5_membersSickNow_0 : decode cX5_membersSickNow 0 = .ok (.iconst 0, 1) := by decide +kernel
theorem dX5_membersSickNow_1 : decode cX5_membersSickNow 1 = .ok (.istore_n 1, 1) := by decide +kernel
theorem dX5_membersSickNow_2 : decode cX5_membersSickNow 2 = .ok (.aload_n 0, 1) := by decide +kernel
theorem dX5_membersSickNow_3 : decode cX5_membersSickNow 3 = .ok (.getfield 23, 3) := by decide +kernel
theorem dX5_membersSickNow_6 : decode cX5_membersSickNow 6 = .ok (.astore_n 2, 1) := by decide +kernel
theorem dX5_membersSickNow_7 : decode cX5_membersSickNow 7 = .ok (.aload_n 2, 1) := by decide +kernel
theorem dX5_membersSickNow_8 : decode cX5_membersSickNow 8 = .ok (.arraylength, 1) := by decide +kernel
theorem dX5_membersSickNow_9 : decode cX5_membersSickNow 9 = .ok (.istore_n 3, 1) := by decide +kernel
theorem dX5_membersSickNow_10 : decode cX5_membersSickNow 10 = .ok (.iconst 0, 1) := by decide +kernel
theorem dX5_membersSickNow_11 : decode cX5_membersSickNow 11 = .ok (.istore 4, 2) := by decide +kernel
theorem dX5_membersSickNow_13 : decode cX5_membersSickNow 13 = .ok (.iload 4, 2) := by decide +kernel
theorem dX5_membersSickNow_15 : decode cX5_membersSickNow 15 = .ok (.iload_n 3, 1) := by decide +kernel
theorem dX5_membersSickNow_16 : decode cX5_membersSickNow 16 = .ok (.if_icmp .ge 30, 3) := by decide +kernel
theorem dX5_membersSickNow_19 : decode cX5_membersSickNow 19 = .ok (.aload_n 2, 1) := by decide +kernel
theorem dX5_membersSickNow_20 : decode cX5_membersSickNow 20 = .ok (.iload 4, 2) := by decide +kernel
theorem dX5_membersSickNow_22 : decode cX5_membersSickNow 22 = .ok (.aaload, 1) := by decide +kernel
theorem dX5_membersSickNow_23 : decode cX5_membersSickNow 23 = .ok (.astore 5, 2) := by decide +kernel
theorem dX5_membersSickNow_25 : decode cX5_membersSickNow 25 = .ok (.aload 5, 2) := by decide +kernel
theorem dX5_membersSickNow_27 : decode cX5_membersSickNow 27 = .ok (.getfield 166, 3) := by decide +kernel
theorem dX5_membersSickNow_30 : decode cX5_membersSickNow 30 = .ok (.aload_n 0, 1) := by decide +kernel
theorem dX5_membersSickNow_31 : decode cX5_membersSickNow 31 = .ok (.getfield 37, 3) := by decide +kernel
theorem dX5_membersSickNow_34 : decode cX5_membersSickNow 34 = .ok (.if_icmp .le 6, 3) := by decide +kernel
theorem dX5_membersSickNow_37 : decode cX5_membersSickNow 37 = .ok (.iinc 1 1, 3) := by decide +kernel
theorem dX5_membersSickNow_40 : decode cX5_membersSickNow 40 = .ok (.iinc 4 1, 3) := by decide +kernel
theorem dX5_membersSickNow_43 : decode cX5_membersSickNow 43 = .ok (.goto (-30), 3) := by decide +kernel
theorem dX5_membersSickNow_46 : decode cX5_membersSickNow 46 = .ok (.iload_n 1, 1) := by decide +kernel
theorem dX5_membersSickNow_47 : decode cX5_membersSickNow 47 = .ok (.ireturn, 1) := by decide +kernel
def rm_X5_membersSickNow : Room := { frames := 0, cells := 0, slots := 0, locals := 0 }
set_option maxHeartbeats 4000000 in
set_option maxRecDepth 20000 in
theorem t_X5_membersSickNow_40 {p : Program} {l : Launch} {e : Env} {s : State} {m : MethodId} {args : Array Value} {below : List Frame} {meth : Method} {c : Code} {G : zG} (Z : zF p s m args c meth cX5_membersSickNow 6 RX5 G) (hr : meth.sig.returnType = (some .int)) {out : Int32 × zHp} {r13 : Nat → Int32 → Nat → Int32 → Int32 → zHp → Option (Int32 × zHp)} (k13 : ∀ {a0 : Nat} {a1 : Int32} {a2 : Nat} {a3 : Int32} {a4 : Int32} {h : zHp} {H : Heap} {locs : List Loc} {ls : Array Slot}, r13 a0 a1 a2 a3 a4 h = some out → zE G s h H locs → lv_has ls 6 [(0, .ref a0), (1, .int a1), (2, .ref a2), (3, .int a3), (4, .int a4)] → W p l e rm_X5_membersSickNow s m args below meth c H locs 0 0 (MQ below (zQi G out.1 out.2) args s 0 0 (zA G)) (F0 m 13 ls [])) {a0 : Nat} {a1 : Int32} {a2 : Nat} {a3 : Int32} {a4 : Int32} {h : zHp} {H : Heap} {locs : List Loc} {ls : Array Slot} (hf : f_X5_membersSickNow_40 r13 a0 a1 a2 a3 a4 h = some out) (E : zE G s h H locs) (hl : lv_has ls 6 [(0, .ref a0), (1, .int a1), (2, .ref a2), (3, .int a3), (4, .int a4)]) : W p l e rm_X5_membersSickNow s m args below meth c H locs 0 0 (MQ below (zQi G out.1 out.2) args s 0 0 (zA G)) (F0 m 40 ls []) := by
  unfold f_X5_membersSickNow_40 at hf
  refine lv_iinc (v := (a4 + 1)) (lv' := [(4, .int (a4 + 1)), (0, .ref a0), (1, .int a1), (2, .ref a2), (3, .int a3)]) Z.x Z.b dX5_membersSickNow_40 hl (k := 4) rfl rfl (by decide) rfl (fun ls hl => ?_)
  refine lv_goto (tgt := 13) Z.x Z.b dX5_membersSickNow_43 (by decide) ?_
  exact k13 hf E (lv_sub hl [1, 2, 3, 4, 0] rfl)
set_option maxHeartbeats 4000000 in
set_option maxRecDepth 20000 in
theorem t_X5_membersSickNow_13_body {p : Program} {l : Launch} {e : Env} {s : State} {m : MethodId} {args : Array Value} {below : List Frame} {meth : Method} {c : Code} {G : zG} (Z : zF p s m args c meth cX5_membersSickNow 6 RX5 G) (hr : meth.sig.returnType = (some .int)) {out : Int32 × zHp} {r13 : Nat → Int32 → Nat → Int32 → Int32 → zHp → Option (Int32 × zHp)} (k13 : ∀ {a0 : Nat} {a1 : Int32} {a2 : Nat} {a3 : Int32} {a4 : Int32} {h : zHp} {H : Heap} {locs : List Loc} {ls : Array Slot}, r13 a0 a1 a2 a3 a4 h = some out → zE G s h H locs → lv_has ls 6 [(0, .ref a0), (1, .int a1), (2, .ref a2), (3, .int a3), (4, .int a4)] → W p l e rm_X5_membersSickNow s m args below meth c H locs 0 0 (MQ below (zQi G out.1 out.2) args s 0 0 (zA G)) (F0 m 13 ls [])) {a0 : Nat} {a1 : Int32} {a2 : Nat} {a3 : Int32} {a4 : Int32} {h : zHp} {H : Heap} {locs : List Loc} {ls : Array Slot} (hf : f_X5_membersSickNow_13_body r13 a0 a1 a2 a3 a4 h = some out) (E : zE G s h H locs) (hl : lv_has ls 6 [(0, .ref a0), (1, .int a1), (2, .ref a2), (3, .int a3), (4, .int a4)]) : W p l e rm_X5_membersSickNow s m args below meth c H locs 0 0 (MQ below (zQi G out.1 out.2) args s 0 0 (zA G)) (F0 m 13 ls []) := by
  unfold f_X5_membersSickNow_13_body at hf
  refine lv_iload Z.x Z.b dX5_membersSickNow_13 (lv_at hl 4 rfl) ?_
  refine lv_iload_n Z.x Z.b dX5_membersSickNow_15 rfl (lv_at hl 3 rfl) ?_
  refine lv_icmp_ge (tgt := 46) Z.x Z.b dX5_membersSickNow_16 (by decide) (fun c => ?_) (fun c => ?_)
  · have hf := zit hf c
    refine lv_iload_n Z.x Z.b dX5_membersSickNow_46 rfl (lv_at hl 1 rfl) ?_
    exact z_iret Z E hr dX5_membersSickNow_47 hf
  · have hf := zif_ hf c
    refine lv_aload_n Z.x Z.b dX5_membersSickNow_19 rfl (lv_at hl 2 rfl) ?_
    refine lv_iload Z.x Z.b dX5_membersSickNow_20 (lv_at hl 4 rfl) ?_
    refine z_aald (kd := 3) Z E rfl dX5_membersSickNow_22 hf (fun v1 hf => ?_)
    refine lv_astore (lv' := [(5, .ref v1), (0, .ref a0), (1, .int a1), (2, .ref a2), (3, .int a3), (4, .int a4)]) Z.x Z.b dX5_membersSickNow_23 hl (by decide) rfl (fun ls hl => ?_)
    refine lv_aload Z.x Z.b dX5_membersSickNow_25 (lv_at hl 0 rfl) ?_
    refine z_getI Z E q_X5_166 dX5_membersSickNow_27 hf (fun v2 hf => ?_)
    refine lv_aload_n Z.x Z.b dX5_membersSickNow_30 rfl (lv_at hl 1 rfl) ?_
    refine z_getI Z E q_X5_37 dX5_membersSickNow_31 hf (fun v3 hf => ?_)
    refine lv_icmp_le (tgt := 40) Z.x Z.b dX5_membersSickNow_34 (by decide) (fun c => ?_) (fun c => ?_)
    · have hf := zit hf c
      exact t_X5_membersSickNow_40 Z hr k13 hf E (lv_sub hl [1, 2, 3, 4, 5] rfl)
    · have hf := zif_ hf c
      refine lv_iinc (v := (a1 + 1)) (lv' := [(1, .int (a1 + 1)), (5, .ref v1), (0, .ref a0), (2, .ref a2), (3, .int a3), (4, .int a4)]) Z.x Z.b dX5_membersSickNow_37 hl (k := 2) rfl rfl (by decide) rfl (fun ls hl => ?_)
      exact t_X5_membersSickNow_40 Z hr k13 hf E (lv_sub hl [2, 0, 3, 4, 5] rfl)
theorem t_X5_membersSickNow_13 {p : Program} {l : Launch} {e : Env} {s : State} {m : MethodId} {args : Array Value} {below : List Frame} {meth : Method} {c : Code} {G : zG} (Z : zF p s m args c meth cX5_membersSickNow 6 RX5 G) (hr : meth.sig.returnType = (some .int)) {out : Int32 × zHp} : ∀ (n : Nat), ∀ {a0 : Nat} {a1 : Int32} {a2 : Nat} {a3 : Int32} {a4 : Int32} {h : zHp} {H : Heap} {locs : List Loc} {ls : Array Slot}, f_X5_membersSickNow_13 n a0 a1 a2 a3 a4 h = some out → zE G s h H locs → lv_has ls 6 [(0, .ref a0), (1, .int a1), (2, .ref a2), (3, .int a3), (4, .int a4)] → W p l e rm_X5_membersSickNow s m args below meth c H locs 0 0 (MQ below (zQi G out.1 out.2) args s 0 0 (zA G)) (F0 m 13 ls [])
  | 0 => fun hf => by cases hf
  | n + 1 => fun hf E hl => t_X5_membersSickNow_13_body Z hr (r13 := f_X5_membersSickNow_13 n) (t_X5_membersSickNow_13 Z hr n) hf E hl
set_option maxHeartbeats 4000000 in
set_option maxRecDepth 20000 in
theorem t_X5_membersSickNow {p : Program} {l : Launch} {e : Env} {s : State} {m : MethodId} {args : Array Value} {below : List Frame} {meth : Method} {c : Code} {G : zG} (Z : zF p s m args c meth cX5_membersSickNow 6 RX5 G) (hr : meth.sig.returnType = (some .int)) {out : Int32 × zHp} {a0 : Nat} {h : zHp} {H : Heap} {locs : List Loc} {ls : Array Slot} (hf : f_X5_membersSickNow a0 h = some out) (E : zE G s h H locs) (hl : lv_has ls 6 [(0, .ref a0)]) : W p l e rm_X5_membersSickNow s m args below meth c H locs 0 0 (MQ below (zQi G out.1 out.2) args s 0 0 (zA G)) (F0 m 0 ls []) := by
  unfold f_X5_membersSickNow at hf
  refine lv_iconst (v := 0) Z.x Z.b dX5_membersSickNow_0 (by decide) ?_
  refine lv_istore_n (lv' := [(1, .int 0), (0, .ref a0)]) Z.x Z.b dX5_membersSickNow_1 rfl hl (by decide) rfl (fun ls hl => ?_)
  refine lv_aload_n Z.x Z.b dX5_membersSickNow_2 rfl (lv_at hl 1 rfl) ?_
  refine z_getR Z E q_X5_23 dX5_membersSickNow_3 hf (fun v1 hf => ?_)
  refine lv_astore_n (lv' := [(2, .ref v1), (1, .int 0), (0, .ref a0)]) Z.x Z.b dX5_membersSickNow_6 rfl hl (by decide) rfl (fun ls hl => ?_)
  refine lv_aload_n Z.x Z.b dX5_membersSickNow_7 rfl (lv_at hl 0 rfl) ?_
  refine z_alenR (kd := 3) Z E rfl dX5_membersSickNow_8 hf (fun v2 hf => ?_)
  refine lv_istore_n (lv' := [(3, .int v2), (2, .ref v1), (1, .int 0), (0, .ref a0)]) Z.x Z.b dX5_membersSickNow_9 rfl hl (by decide) rfl (fun ls hl => ?_)
  refine lv_iconst (v := 0) Z.x Z.b dX5_membersSickNow_10 (by decide) ?_
  refine lv_istore (lv' := [(4, .int 0), (3, .int v2), (2, .ref v1), (1, .int 0), (0, .ref a0)]) Z.x Z.b dX5_membersSickNow_11 hl (by decide) rfl (fun ls hl => ?_)
  exact t_X5_membersSickNow_13 Z hr zN hf E (lv_sub hl [4, 3, 2, 1, 0] rfl)
set_option maxHeartbeats 4000000 in
set_option maxRecDepth 20000 in
theorem c_X5_membersSickNow (l : Launch) (G : zG) (h : zHp) (h' : zHp) (a0 : Nat) (r : Int32) (hf : f_X5_membersSickNow a0 h = some (r, h')) : zM0 l yX5_membersSickNow cX5_membersSickNow 6 (some .int) rm_X5_membersSickNow G [.ref a0] h (zQi G r h') := by
  refine Met.ofW (cc := cX5_membersSickNow) (maxL := 6) (ret := (some .int)) (by decide) rfl ?_
  intro p e s m args below meth c s₁ B hml hv
  obtain ⟨rfl, hW⟩ := hv
  obtain ⟨Z, E, hr⟩ := zEnter (own := RX5) B hml rfl hW
  have hl := lv_entry ([.ref a0]) (n := 6) (Nat.le_of_ble_eq_true rfl)
  rw [lg_entry_eq]
  generalize (lg_sl ([.ref a0]) ++ List.replicate (6 - (lg_sl ([.ref a0])).length) Slot.unset).toArray = ls at hl ⊢
  have hl : lv_has ls 6 [(0, .ref a0)] := hl
  exact t_X5_membersSickNow (out := (r, h')) Z hr hf E hl
/-! FerryCrews$State.allCovers()I -/
theorem dX5_allCovers_0 : decode cX5_allCovers 0 = .ok (.iconst 0, 1) := by decide +kernel
theorem dX5_allCovers_1 : decode cX5_allCovers 1 = .ok (.istore_n 1, 1) := by decide +kernel
theorem dX5_allCovers_2 : decode cX5_allCovers 2 = .ok (.aload_n 0, 1) := by decide +kernel
theorem dX5_allCovers_3 : decode cX5_allCovers 3 = .ok (.getfield 23, 3) := by decide +kernel
theorem dX5_allCovers_6 : decode cX5_allCovers 6 = .ok (.astore_n 2, 1) := by decide +kernel
theorem dX5_allCovers_7 : decode cX5_allCovers 7 = .ok (.aload_n 2, 1) := by decide +kernel
theorem dX5_allCovers_8 : decode cX5_allCovers 8 = .ok (.arraylength, 1) := by decide +kernel
theorem dX5_allCovers_9 : decode cX5_allCovers 9 = .ok (.istore_n 3, 1) := by decide +kernel
theorem dX5_allCovers_10 : decode cX5_allCovers 10 = .ok (.iconst 0, 1) := by decide +kernel
theorem dX5_allCovers_11 : decode cX5_allCovers 11 = .ok (.istore 4, 2) := by decide +kernel
theorem dX5_allCovers_13 : decode cX5_allCovers 13 = .ok (.iload 4, 2) := by decide +kernel
theorem dX5_allCovers_15 : decode cX5_allCovers 15 = .ok (.iload_n 3, 1) := by decide +kernel
theorem dX5_allCovers_16 : decode cX5_allCovers 16 = .ok (.if_icmp .ge 23, 3) := by decide +kernel
theorem dX5_allCovers_19 : decode cX5_allCovers 19 = .ok (.aload_n 2, 1) := by decide +kernel
theorem dX5_allCovers_20 : decode cX5_allCovers 20 = .ok (.iload 4, 2) := by decide +kernel
theorem dX5_allCovers_22 : decode cX5_allCovers 22 = .ok (.aaload, 1) := by decide +kernel
theorem dX5_allCovers_23 : decode cX5_allCovers 23 = .ok (.astore 5, 2) := by decide +kernel
theorem dX5_allCovers_25 : decode cX5_allCovers 25 = .ok (.iload_n 1, 1) := by decide +kernel
theorem dX5_allCovers_26 : decode cX5_allCovers 26 = .ok (.aload 5, 2) := by decide +kernel
theorem dX5_allCovers_28 : decode cX5_allCovers 28 = .ok (.getfield 187, 3) := by decide +kernel
theorem dX5_allCovers_31 : decode cX5_allCovers 31 = .ok (.iadd, 1) := by decide +kernel
theorem dX5_allCovers_32 : decode cX5_allCovers 32 = .ok (.istore_n 1, 1) := by decide +kernel
theorem dX5_allCovers_33 : decode cX5_allCovers 33 = .ok (.iinc 4 1, 3) := by decide +kernel
theorem dX5_allCovers_36 : decode cX5_allCovers 36 = .ok (.goto (-23), 3) := by decide +kernel
theorem dX5_allCovers_39 : decode cX5_allCovers 39 = .ok (.iload_n 1, 1) := by decide +kernel
theorem dX5_allCovers_40 : decode cX5_allCovers 40 = .ok (.ireturn, 1) := by decide +kernel
def rm_X5_allCovers : Room := { frames := 0, cells := 0, slots := 0, locals := 0 }
set_option maxHeartbeats 4000000 in
set_option maxRecDepth 20000 in
theorem t_X5_allCovers_13_body {p : Program} {l : Launch} {e : Env} {s : State} {m : MethodId} {args : Array Value} {below : List Frame} {meth : Method} {c : Code} {G : zG} (Z : zF p s m args c meth cX5_allCovers 6 RX5 G) (hr : meth.sig.returnType = (some .int)) {out : Int32 × zHp} {r13 : Int32 → Nat → Int32 → Int32 → zHp → Option (Int32 × zHp)} (k13 : ∀ {a1 : Int32} {a2 : Nat} {a3 : Int32} {a4 : Int32} {h : zHp} {H : Heap} {locs : List Loc} {ls : Array Slot}, r13 a1 a2 a3 a4 h = some out → zE G s h H locs → lv_has ls 6 [(1, .int a1), (2, .ref a2), (3, .int a3), (4, .int a4)] → W p l e rm_X5_allCovers s m args below meth c H locs 0 0 (MQ below (zQi G out.1 out.2) args s 0 0 (zA G)) (F0 m 13 ls [])) {a1 : Int32} {a2 : Nat} {a3 : Int32} {a4 : Int32} {h : zHp} {H : Heap} {locs : List Loc} {ls : Array Slot} (hf : f_X5_allCovers_13_body r13 a1 a2 a3 a4 h = some out) (E : zE G s h H locs) (hl : lv_has ls 6 [(1, .int a1), (2, .ref a2), (3, .int a3), (4, .int a4)]) : W p l e rm_X5_allCovers s m args below meth c H locs 0 0 (MQ below (zQi G out.1 out.2) args s 0 0 (zA G)) (F0 m 13 ls []) := by
  unfold f_X5_allCovers_13_body at hf
  refine lv_iload Z.x Z.b dX5_allCovers_13 (lv_at hl 3 rfl) ?_
  refine lv_iload_n Z.x Z.b dX5_allCovers_15 rfl (lv_at hl 2 rfl) ?_
  refine lv_icmp_ge (tgt := 39) Z.x Z.b dX5_allCovers_16 (by decide) (fun c => ?_) (fun c => ?_)
  · have hf := zit hf c
    refine lv_iload_n Z.x Z.b dX5_allCovers_39 rfl (lv_at hl 0 rfl) ?_
    exact z_iret Z E hr dX5_allCovers_40 hf
  · have hf := zif_ hf c
    refine lv_aload_n Z.x Z.b dX5_allCovers_19 rfl (lv_at hl 1 rfl) ?_
    refine lv_iload Z.x Z.b dX5_allCovers_20 (lv_at hl 3 rfl) ?_
    refine z_aald (kd := 3) Z E rfl dX5_allCovers_22 hf (fun v1 hf => ?_)
    refine lv_astore (lv' := [(5, .ref v1), (1, .int a1), (2, .ref a2), (3, .int a3), (4, .int a4)]) Z.x Z.b dX5_allCovers_23 hl (by decide) rfl (fun ls hl => ?_)
    refine lv_iload_n Z.x Z.b dX5_allCovers_25 rfl (lv_at hl 1 rfl) ?_
    refine lv_aload Z.x Z.b dX5_allCovers_26 (lv_at hl 0 rfl) ?_
    refine z_getI Z E q_X5_187 dX5_allCovers_28 hf (fun v2 hf => ?_)
    refine lv_iadd Z.x Z.b dX5_allCovers_31 ?_
    refine lv_istore_n (lv' := [(1, .int (a1 + v2)), (5, .ref v1), (2, .ref a2), (3, .int a3), (4, .int a4)]) Z.x Z.b dX5_allCovers_32 rfl hl (by decide) rfl (fun ls hl => ?_)
    refine lv_iinc (v := (a4 + 1)) (lv' := [(4, .int (a4 + 1)), (1, .int (a1 + v2)), (5, .ref v1), (2, .ref a2), (3, .int a3)]) Z.x Z.b dX5_allCovers_33 hl (k := 4) rfl rfl (by decide) rfl (fun ls hl => ?_)
    refine lv_goto (tgt := 13) Z.x Z.b dX5_allCovers_36 (by decide) ?_
    exact k13 hf E (lv_sub hl [1, 3, 4, 0] rfl)
theorem t_X5_allCovers_13 {p : Program} {l : Launch} {e : Env} {s : State} {m : MethodId} {args : Array Value} {below : List Frame} {meth : Method} {c : Code} {G : zG} (Z : zF p s m args c meth cX5_allCovers 6 RX5 G) (hr : meth.sig.returnType = (some .int)) {out : Int32 × zHp} : ∀ (n : Nat), ∀ {a1 : Int32} {a2 : Nat} {a3 : Int32} {a4 : Int32} {h : zHp} {H : Heap} {locs : List Loc} {ls : Array Slot}, f_X5_allCovers_13 n a1 a2 a3 a4 h = some out → zE G s h H locs → lv_has ls 6 [(1, .int a1), (2, .ref a2), (3, .int a3), (4, .int a4)] → W p l e rm_X5_allCovers s m args below meth c H locs 0 0 (MQ below (zQi G out.1 out.2) args s 0 0 (zA G)) (F0 m 13 ls [])
  | 0 => fun hf => by cases hf
  | n + 1 => fun hf E hl => t_X5_allCovers_13_body Z hr (r13 := f_X5_allCovers_13 n) (t_X5_allCovers_13 Z hr n) hf E hl
set_option maxHeartbeats 4000000 in
set_option maxRecDepth 20000 in
theorem t_X5_allCovers {p : Program} {l : Launch} {e : Env} {s : State} {m : MethodId} {args : Array Value} {below : List Frame} {meth : Method} {c : Code} {G : zG} (Z : zF p s m args c meth cX5_allCovers 6 RX5 G) (hr : meth.sig.returnType = (some .int)) {out : Int32 × zHp} {a0 : Nat} {h : zHp} {H : Heap} {locs : List Loc} {ls : Array Slot} (hf : f_X5_allCovers a0 h = some out) (E : zE G s h H locs) (hl : lv_has ls 6 [(0, .ref a0)]) : W p l e rm_X5_allCovers s m args below meth c H locs 0 0 (MQ below (zQi G out.1 out.2) args s 0 0 (zA G)) (F0 m 0 ls []) := by
  unfold f_X5_allCovers at hf
  refine lv_iconst (v := 0) Z.x Z.b dX5_allCovers_0 (by decide) ?_
  refine lv_istore_n (lv' := [(1, .int 0), (0, .ref a0)]) Z.x Z.b dX5_allCovers_1 rfl hl (by decide) rfl (fun ls hl => ?_)
  refine lv_aload_n Z.x Z.b dX5_allCovers_2 rfl (lv_at hl 1 rfl) ?_
  refine z_getR Z E q_X5_23 dX5_allCovers_3 hf (fun v1 hf => ?_)
  refine lv_astore_n (lv' := [(2, .ref v1), (1, .int 0), (0, .ref a0)]) Z.x Z.b dX5_allCovers_6 rfl hl (by decide) rfl (fun ls hl => ?_)
  refine lv_aload_n Z.x Z.b dX5_allCovers_7 rfl (lv_at hl 0 rfl) ?_
  refine z_alenR (kd := 3) Z E rfl dX5_allCovers_8 hf (fun v2 hf => ?_)
  refine lv_istore_n (lv' := [(3, .int v2), (2, .ref v1), (1, .int 0), (0, .ref a0)]) Z.x Z.b dX5_allCovers_9 rfl hl (by decide) rfl (fun ls hl => ?_)
  refine lv_iconst (v := 0) Z.x Z.b dX5_allCovers_10 (by decide) ?_
  refine lv_istore (lv' := [(4, .int 0), (3, .int v2), (2, .ref v1), (1, .int 0), (0, .ref a0)]) Z.x Z.b dX5_allCovers_11 hl (by decide) rfl (fun ls hl => ?_)
  exact t_X5_allCovers_13 Z hr zN hf E (lv_sub hl [3, 2, 1, 0] rfl)
set_option maxHeartbeats 4000000 in
set_option maxRecDepth 20000 in
theorem c_X5_allCovers (l : Launch) (G : zG) (h : zHp) (h' : zHp) (a0 : Nat) (r : Int32) (hf : f_X5_allCovers a0 h = some (r, h')) : zM0 l yX5_allCovers cX5_allCovers 6 (some .int) rm_X5_allCovers G [.ref a0] h (zQi G r h') := by
  refine Met.ofW (cc := cX5_allCovers) (maxL := 6) (ret := (some .int)) (by decide) rfl ?_
  intro p e s m args below meth c s₁ B hml hv
  obtain ⟨rfl, hW⟩ := hv
  obtain ⟨Z, E, hr⟩ := zEnter (own := RX5) B hml rfl hW
  have hl := lv_entry ([.ref a0]) (n := 6) (Nat.le_of_ble_eq_true rfl)
  rw [lg_entry_eq]
  generalize (lg_sl ([.ref a0]) ++ List.replicate (6 - (lg_sl ([.ref a0])).length) Slot.unset).toArray = ls at hl ⊢
  have hl : lv_has ls 6 [(0, .ref a0)] := hl
  exact t_X5_allCovers (out := (r, h')) Z hr hf E hl
/-! FerryCrews$State.hoursBeyond(LFerryCrews$Duties;I)I -/
theorem dX5_hoursBeyond_0 : decode cX5_hoursBeyond 0 = .ok (.sipush 168, 3) := by decide +kernel
theorem dX5_hoursBeyond_3 : decode cX5_hoursBeyond 3 = .ok (.aload_n 1, 1) := by decide +kernel
theorem dX5_hoursBeyond_4 : decode cX5_hoursBeyond 4 = .ok (.iload_n 2, 1) := by decide +kernel
theorem dX5_hoursBeyond_5 : decode cX5_hoursBeyond 5 = .ok (.sipush 168, 3) := by decide +kernel
theorem dX5_hoursBeyond_8 : decode cX5_hoursBeyond 8 = .ok (.imul, 1) := by decide +kernel
theorem dX5_hoursBeyond_9 : decode cX5_hoursBeyond 9 = .ok (.sipush 168, 3) := by decide +kernel
theorem dX5_hoursBeyond_12 : decode cX5_hoursBeyond 12 = .ok (.invokevirtual 213, 3) := by decide +kernel
theorem dX5_hoursBeyond_15 : decode cX5_hoursBeyond 15 = .ok (.isub, 1) := by decide +kernel
theorem dX5_hoursBeyond_16 : decode cX5_hoursBeyond 16 = .ok (.istore_n 3, 1) := by decide +kernel
theorem dX5_hoursBeyond_17 : decode cX5_hoursBeyond 17 = .ok (.iconst 0, 1) := by decide +kernel
theorem dX5_hoursBeyond_18 : decode cX5_hoursBeyond 18 = .ok (.iload_n 3, 1) := by decide +kernel
theorem dX5_hoursBeyond_19 : decode cX5_hoursBeyond 19 = .ok (.aload_n 0, 1) := by decide +kernel
theorem dX5_hoursBeyond_20 : decode cX5_hoursBeyond 20 = .ok (.getfield 9, 3) := by decide +kernel
theorem dX5_hoursBeyond_23 : decode cX5_hoursBeyond 23 = .ok (.iconst 4, 1) := by decide +kernel
theorem dX5_hoursBeyond_24 : decode cX5_hoursBeyond 24 = .ok (.iaload, 1) := by decide +kernel
theorem dX5_hoursBeyond_25 : decode cX5_hoursBeyond 25 = .ok (.isub, 1) := by decide +kernel
theorem dX5_hoursBeyond_26 : decode cX5_hoursBeyond 26 = .ok (.invokestatic 131, 3) := by decide +kernel
theorem dX5_hoursBeyond_29 : decode cX5_hoursBeyond 29 = .ok (.ireturn, 1) := by decide +kernel
set_option maxRecDepth 20000 in
theorem wm_X5_213 : Cond.methodLink RX5 213 yX0_restIn ∈ zB := List.mem_filter.mpr ⟨List.mem_of_getElem? (i := 381) (by decide +kernel), by decide +kernel⟩
theorem k_X5_213 : zCal RX5 213 yX0_restIn cX0_restIn 5 (some .int) 2 := ⟨wm_X5_213, wi_X0, wc_X0_restIn, by decide +kernel, by decide +kernel, by decide +kernel⟩
def rm_X5_hoursBeyond : Room := { frames := 1, cells := 0, slots := 0, locals := 24 }
set_option maxHeartbeats 4000000 in
set_option maxRecDepth 20000 in
theorem t_X5_hoursBeyond {p : Program} {l : Launch} {e : Env} {s : State} {m : MethodId} {args : Array Value} {below : List Frame} {meth : Method} {c : Code} {G : zG} (Z : zF p s m args c meth cX5_hoursBeyond 4 RX5 G) (hr : meth.sig.returnType = (some .int)) {out : Int32 × zHp} {a0 : Nat} {a1 : Nat} {a2 : Int32} {h : zHp} {H : Heap} {locs : List Loc} {ls : Array Slot} (hf : f_X5_hoursBeyond a0 a1 a2 h = some out) (E : zE G s h H locs) (hl : lv_has ls 4 [(0, .ref a0), (1, .ref a1), (2, .int a2)]) : W p l e rm_X5_hoursBeyond s m args below meth c H locs 0 0 (MQ below (zQi G out.1 out.2) args s 0 0 (zA G)) (F0 m 0 ls []) := by
  unfold f_X5_hoursBeyond at hf
  refine lv_sipush (v := 168) Z.x Z.b dX5_hoursBeyond_0 (by decide) ?_
  refine lv_aload_n Z.x Z.b dX5_hoursBeyond_3 rfl (lv_at hl 1 rfl) ?_
  refine lv_iload_n Z.x Z.b dX5_hoursBeyond_4 rfl (lv_at hl 2 rfl) ?_
  refine lv_sipush (v := 168) Z.x Z.b dX5_hoursBeyond_5 (by decide) ?_
  refine lv_imul Z.x Z.b dX5_hoursBeyond_8 ?_
  refine lv_sipush (v := 168) Z.x Z.b dX5_hoursBeyond_9 (by decide) ?_
  refine z_Vi (As := [.int (a2 * 168), .int 168]) Z E hl.1 k_X5_213 v_X0_restIn hf (fun r h' e => c_X0_restIn l G h h' a1 (a2 * 168) 168 r e) rfl rfl (Nat.le_of_ble_eq_true rfl) (zRm_of rfl (Nat.zero_le _) (Nat.zero_le _)) dX5_hoursBeyond_12 (fun v1 h2 H locs hf E => ?_)
  refine lv_isub Z.x Z.b dX5_hoursBeyond_15 ?_
  refine lv_istore_n (lv' := [(3, .int (168 - v1)), (0, .ref a0), (1, .ref a1), (2, .int a2)]) Z.x Z.b dX5_hoursBeyond_16 rfl hl (by decide) rfl (fun ls hl => ?_)
  refine lv_iconst (v := 0) Z.x Z.b dX5_hoursBeyond_17 (by decide) ?_
  refine lv_iload_n Z.x Z.b dX5_hoursBeyond_18 rfl (lv_at hl 0 rfl) ?_
  refine lv_aload_n Z.x Z.b dX5_hoursBeyond_19 rfl (lv_at hl 1 rfl) ?_
  refine z_getR Z E q_X5_9 dX5_hoursBeyond_20 hf (fun v3 hf => ?_)
  refine lv_iconst (v := 4) Z.x Z.b dX5_hoursBeyond_23 (by decide) ?_
  refine z_iald Z E dX5_hoursBeyond_24 hf (fun v4 hf => ?_)
  refine lv_isub Z.x Z.b dX5_hoursBeyond_25 ?_
  refine z_max Z hl.1 wm_X5_131 wx_stat wi_math wx_code (by decide) (by decide) (Nat.zero_le _) (Nat.zero_le _) dX5_hoursBeyond_26 ?_
  exact z_iret Z E hr dX5_hoursBeyond_29 hf
set_option maxHeartbeats 4000000 in
set_option maxRecDepth 20000 in
theorem c_X5_hoursBeyond (l : Launch) (G : zG) (h : zHp) (h' : zHp) (a0 : Nat) (a1 : Nat) (a2 : Int32) (r : Int32) (hf : f_X5_hoursBeyond a0 a1 a2 h = some (r, h')) : zM0 l yX5_hoursBeyond cX5_hoursBeyond 4 (some .int) rm_X5_hoursBeyond G [.ref a0, .ref a1, .int a2] h (zQi G r h') := by
  refine Met.ofW (cc := cX5_hoursBeyond) (maxL := 4) (ret := (some .int)) (by decide) rfl ?_
  intro p e s m args below meth c s₁ B hml hv
  obtain ⟨rfl, hW⟩ := hv
  obtain ⟨Z, E, hr⟩ := zEnter (own := RX5) B hml rfl hW
  have hl := lv_entry ([.ref a0, .ref a1, .int a2]) (n := 4) (Nat.le_of_ble_eq_true rfl)
  rw [lg_entry_eq]
  generalize (lg_sl ([.ref a0, .ref a1, .int a2]) ++ List.replicate (4 - (lg_sl ([.ref a0, .ref a1, .int a2])).length) Slot.unset).toArray = ls at hl ⊢
  have hl : lv_has ls 4 [(0, .ref a0), (1, .ref a1), (2, .int a2)] := hl
  exact t_X5_hoursBeyond (out := (r, h')) Z hr hf E hl
/-! FerryCrews$State.allHoursBeyond()I -/
theorem dX5_allHoursBeyond_0 : decode cX5_allHoursBeyond 0 = .ok (.iconst 0, 1) := by decide +kernel
theorem dX5_allHoursBeyond_1 : decode cX5_allHoursBeyond 1 = .ok (.istore_n 1, 1) := by decide +kernel
theorem dX5_allHoursBeyond_2 : decode cX5_allHoursBeyond 2 = .ok (.iconst 0, 1) := by decide +kernel
theorem dX5_allHoursBeyond_3 : decode cX5_allHoursBeyond 3 = .ok (.istore_n 2, 1) := by decide +kernel
theorem dX5_allHoursBeyond_4 : decode cX5_allHoursBeyond 4 = .ok (.iload_n 2, 1) := by decide +kernel
theorem dX5_allHoursBeyond_5 : decode cX5_allHoursBeyond 5 = .ok (.aload_n 0, 1) := by decide +kernel
theorem dX5_allHoursBeyond_6 : decode cX5_allHoursBeyond 6 = .ok (.getfield 44, 3) := by decide +kernel
theorem dX5_allHoursBeyond_9 : decode cX5_allHoursBeyond 9 = .ok (.if_icmp .ge 42, 3) := by decide +kernel
theorem dX5_allHoursBeyond_12 : decode cX5_allHoursBeyond 12 = .ok (.aload_n 0, 1) := by decide +kernel
theorem dX5_allHoursBeyond_13 : decode cX5_allHoursBeyond 13 = .ok (.iload_n 2, 1) := by decide +kernel
theorem dX5_allHoursBeyond_14 : decode cX5_allHoursBeyond 14 = .ok (.aconst_null, 1) := by decide +kernel
theorem dX5_allHoursBeyond_15 : decode cX5_allHoursBeyond 15 = .ok (.invokevirtual 147, 3) := by decide +kernel
theorem dX5_allHoursBeyond_18 : decode cX5_allHoursBeyond 18 = .ok (.astore_n 3, 1) := by decide +kernel
theorem dX5_allHoursBeyond_19 : decode cX5_allHoursBeyond 19 = .ok (.iconst 0, 1) := by decide +kernel
theorem dX5_allHoursBeyond_20 : decode cX5_allHoursBeyond 20 = .ok (.istore 4, 2) := by decide +kernel
theorem dX5_allHoursBeyond_22 : decode cX5_allHoursBeyond 22 = .ok (.iload 4, 2) := by decide +kernel
theorem dX5_allHoursBeyond_24 : decode cX5_allHoursBeyond 24 = .ok (.bipush 6, 2) := by decide +kernel
theorem dX5_allHoursBeyond_26 : decode cX5_allHoursBeyond 26 = .ok (.if_icmp .ge 19, 3) := by decide +kernel
theorem dX5_allHoursBeyond_29 : decode cX5_allHoursBeyond 29 = .ok (.iload_n 1, 1) := by decide +kernel
theorem dX5_allHoursBeyond_30 : decode cX5_allHoursBeyond 30 = .ok (.aload_n 0, 1) := by decide +kernel
theorem dX5_allHoursBeyond_31 : decode cX5_allHoursBeyond 31 = .ok (.aload_n 3, 1) := by decide +kernel
theorem dX5_allHoursBeyond_32 : decode cX5_allHoursBeyond 32 = .ok (.iload 4, 2) := by decide +kernel
theorem dX5_allHoursBeyond_34 : decode cX5_allHoursBeyond 34 = .ok (.invokevirtual 216, 3) := by decide +kernel
theorem dX5_allHoursBeyond_37 : decode cX5_allHoursBeyond 37 = .ok (.iadd, 1) := by decide +kernel
theorem dX5_allHoursBeyond_38 : decode cX5_allHoursBeyond 38 = .ok (.istore_n 1, 1) := by decide +kernel
theorem dX5_allHoursBeyond_39 : decode cX5_allHoursBeyond 39 = .ok (.iinc 4 1, 3) := by decide +kernel
theorem dX5_allHoursBeyond_42 : decode cX5_allHoursBeyond 42 = .ok (.goto (-20), 3) := by decide +kernel
theorem dX5_allHoursBeyond_45 : decode cX5_allHoursBeyond 45 = .ok (.iinc 2 1, 3) := by decide +kernel
theorem dX5_allHoursBeyond_48 : decode cX5_allHoursBeyond 48 = .ok (.goto (-44), 3) := by decide +kernel
theorem dX5_allHoursBeyond_51 : decode cX5_allHoursBeyond 51 = .ok (.iload_n 1, 1) := by decide +kernel
theorem dX5_allHoursBeyond_52 : decode cX5_allHoursBeyond 52 = .ok (.ireturn, 1) := by decide +kernel
set_option maxRecDepth 20000 in
theorem wc_X5_hoursBeyond : Cond.code yX5_hoursBeyond cX5_hoursBeyond 4 (some .int) ∈ zB := List.mem_filter.mpr ⟨List.mem_of_getElem? (i := 380) (by decide +kernel), by decide +kernel⟩
set_option maxRecDepth 20000 in
theorem wm_X5_216 : Cond.methodLink RX5 216 yX5_hoursBeyond ∈ zB := List.mem_filter.mpr ⟨List.mem_of_getElem? (i := 377) (by decide +kernel), by decide +kernel⟩
theorem k_X5_216 : zCal RX5 216 yX5_hoursBeyond cX5_hoursBeyond 4 (some .int) 2 := ⟨wm_X5_216, wi_X5, wc_X5_hoursBeyond, by decide +kernel, by decide +kernel, by decide +kernel⟩
set_option maxRecDepth 20000 in
theorem wn_X5_hoursBeyond : Cond.instanceMethod yX5_hoursBeyond ∈ zB := List.mem_filter.mpr ⟨List.mem_of_getElem? (i := 378) (by decide +kernel), by decide +kernel⟩
set_option maxRecDepth 20000 in
theorem ws_X5_hoursBeyond : Cond.selects RX5 yX5_hoursBeyond yX5_hoursBeyond ∈ zB := List.mem_filter.mpr ⟨List.mem_of_getElem? (i := 379) (by decide +kernel), by decide +kernel⟩
theorem v_X5_hoursBeyond : zVir yX5_hoursBeyond 5 := ⟨wn_X5_hoursBeyond, ws_X5_hoursBeyond, TX5, 8, rfl⟩
def rm_X5_allHoursBeyond : Room := { frames := 4, cells := 0, slots := 0, locals := 88 }
set_option maxHeartbeats 4000000 in
set_option maxRecDepth 20000 in
theorem t_X5_allHoursBeyond_22_body {p : Program} {l : Launch} {e : Env} {s : State} {m : MethodId} {args : Array Value} {below : List Frame} {meth : Method} {c : Code} {G : zG} (Z : zF p s m args c meth cX5_allHoursBeyond 5 RX5 G) (hr : meth.sig.returnType = (some .int)) {out : Int32 × zHp} {r4 : Nat → Int32 → Int32 → zHp → Option (Int32 × zHp)} (k4 : ∀ {a0 : Nat} {a1 : Int32} {a2 : Int32} {h : zHp} {H : Heap} {locs : List Loc} {ls : Array Slot}, r4 a0 a1 a2 h = some out → zE G s h H locs → lv_has ls 5 [(0, .ref a0), (1, .int a1), (2, .int a2)] → W p l e rm_X5_allHoursBeyond s m args below meth c H locs 0 0 (MQ below (zQi G out.1 out.2) args s 0 0 (zA G)) (F0 m 4 ls [])) {r22 : Nat → Int32 → Int32 → Nat → Int32 → zHp → Option (Int32 × zHp)} (k22 : ∀ {a0 : Nat} {a1 : Int32} {a2 : Int32} {a3 : Nat} {a4 : Int32} {h : zHp} {H : Heap} {locs : List Loc} {ls : Array Slot}, r22 a0 a1 a2 a3 a4 h = some out → zE G s h H locs → lv_has ls 5 [(0, .ref a0), (1, .int a1), (2, .int a2), (3, .ref a3), (4, .int a4)] → W p l e rm_X5_allHoursBeyond s m args below meth c H locs 0 0 (MQ below (zQi G out.1 out.2) args s 0 0 (zA G)) (F0 m 22 ls [])) {a0 : Nat} {a1 : Int32} {a2 : Int32} {a3 : Nat} {a4 : Int32} {h : zHp} {H : Heap} {locs : List Loc} {ls : Array Slot} (hf : f_X5_allHoursBeyond_22_body r4 r22 a0 a1 a2 a3 a4 h = some out) (E : zE G s h H locs) (hl : lv_has ls 5 [(0, .ref a0), (1, .int a1), (2, .int a2), (3, .ref a3), (4, .int a4)]) : W p l e rm_X5_allHoursBeyond s m args below meth c H locs 0 0 (MQ below (zQi G out.1 out.2) args s 0 0 (zA G)) (F0 m 22 ls []) := by
  unfold f_X5_allHoursBeyond_22_body at hf
  refine lv_iload Z.x Z.b dX5_allHoursBeyond_22 (lv_at hl 4 rfl) ?_
  refine lv_bipush (v := 6) Z.x Z.b dX5_allHoursBeyond_24 (by decide) ?_
  refine lv_icmp_ge (tgt := 45) Z.x Z.b dX5_allHoursBeyond_26 (by decide) (fun c => ?_) (fun c => ?_)
  · have hf := zit hf c
    refine lv_iinc (v := (a2 + 1)) (lv' := [(2, .int (a2 + 1)), (0, .ref a0), (1, .int a1), (3, .ref a3), (4, .int a4)]) Z.x Z.b dX5_allHoursBeyond_45 hl (k := 2) rfl rfl (by decide) rfl (fun ls hl => ?_)
    refine lv_goto (tgt := 4) Z.x Z.b dX5_allHoursBeyond_48 (by decide) ?_
    exact k4 hf E (lv_sub hl [1, 2, 0] rfl)
  · have hf := zif_ hf c
    refine lv_iload_n Z.x Z.b dX5_allHoursBeyond_29 rfl (lv_at hl 1 rfl) ?_
    refine lv_aload_n Z.x Z.b dX5_allHoursBeyond_30 rfl (lv_at hl 0 rfl) ?_
    refine lv_aload_n Z.x Z.b dX5_allHoursBeyond_31 rfl (lv_at hl 3 rfl) ?_
    refine lv_iload Z.x Z.b dX5_allHoursBeyond_32 (lv_at hl 4 rfl) ?_
    refine z_Vi (As := [.ref a3, .int a4]) Z E hl.1 k_X5_216 v_X5_hoursBeyond hf (fun r h' e => c_X5_hoursBeyond l G h h' a0 a3 a4 r e) rfl rfl (Nat.le_of_ble_eq_true rfl) (zRm_of rfl (Nat.zero_le _) (Nat.zero_le _)) dX5_allHoursBeyond_34 (fun v1 h2 H locs hf E => ?_)
    refine lv_iadd Z.x Z.b dX5_allHoursBeyond_37 ?_
    refine lv_istore_n (lv' := [(1, .int (a1 + v1)), (0, .ref a0), (2, .int a2), (3, .ref a3), (4, .int a4)]) Z.x Z.b dX5_allHoursBeyond_38 rfl hl (by decide) rfl (fun ls hl => ?_)
    refine lv_iinc (v := (a4 + 1)) (lv' := [(4, .int (a4 + 1)), (1, .int (a1 + v1)), (0, .ref a0), (2, .int a2), (3, .ref a3)]) Z.x Z.b dX5_allHoursBeyond_39 hl (k := 4) rfl rfl (by decide) rfl (fun ls hl => ?_)
    refine lv_goto (tgt := 22) Z.x Z.b dX5_allHoursBeyond_42 (by decide) ?_
    exact k22 hf E (lv_sub hl [2, 1, 3, 4, 0] rfl)
theorem t_X5_allHoursBeyond_22 {p : Program} {l : Launch} {e : Env} {s : State} {m : MethodId} {args : Array Value} {below : List Frame} {meth : Method} {c : Code} {G : zG} (Z : zF p s m args c meth cX5_allHoursBeyond 5 RX5 G) (hr : meth.sig.returnType = (some .int)) {out : Int32 × zHp} {r4 : Nat → Int32 → Int32 → zHp → Option (Int32 × zHp)} (k4 : ∀ {a0 : Nat} {a1 : Int32} {a2 : Int32} {h : zHp} {H : Heap} {locs : List Loc} {ls : Array Slot}, r4 a0 a1 a2 h = some out → zE G s h H locs → lv_has ls 5 [(0, .ref a0), (1, .int a1), (2, .int a2)] → W p l e rm_X5_allHoursBeyond s m args below meth c H locs 0 0 (MQ below (zQi G out.1 out.2) args s 0 0 (zA G)) (F0 m 4 ls [])) : ∀ (n : Nat), ∀ {a0 : Nat} {a1 : Int32} {a2 : Int32} {a3 : Nat} {a4 : Int32} {h : zHp} {H : Heap} {locs : List Loc} {ls : Array Slot}, f_X5_allHoursBeyond_22 r4 n a0 a1 a2 a3 a4 h = some out → zE G s h H locs → lv_has ls 5 [(0, .ref a0), (1, .int a1), (2, .int a2), (3, .ref a3), (4, .int a4)] → W p l e rm_X5_allHoursBeyond s m args below meth c H locs 0 0 (MQ below (zQi G out.1 out.2) args s 0 0 (zA G)) (F0 m 22 ls [])
  | 0 => fun hf => by cases hf
  | n + 1 => fun hf E hl => t_X5_allHoursBeyond_22_body Z hr k4 (r22 := f_X5_allHoursBeyond_22 r4 n) (t_X5_allHoursBeyond_22 Z hr k4 n) hf E hl
set_option maxHeartbeats 4000000 in
set_option maxRecDepth 20000 in
theorem t_X5_allHoursBeyond_4_body {p : Program} {l : Launch} {e : Env} {s : State} {m : MethodId} {args : Array Value} {below : List Frame} {meth : Method} {c : Code} {G : zG} (Z : zF p s m args c meth cX5_allHoursBeyond 5 RX5 G) (hr : meth.sig.returnType = (some .int)) {out : Int32 × zHp} {r4 : Nat → Int32 → Int32 → zHp → Option (Int32 × zHp)} (k4 : ∀ {a0 : Nat} {a1 : Int32} {a2 : Int32} {h : zHp} {H : Heap} {locs : List Loc} {ls : Array Slot}, r4 a0 a1 a2 h = some out → zE G s h H locs → lv_has ls 5 [(0, .ref a0), (1, .int a1), (2, .int a2)] → W p l e rm_X5_allHoursBeyond s m args below meth c H locs 0 0 (MQ below (zQi G out.1 out.2) args s 0 0 (zA G)) (F0 m 4 ls [])) {a0 : Nat} {a1 : Int32} {a2 : Int32} {h : zHp} {H : Heap} {locs : List Loc} {ls : Array Slot} (hf : f_X5_allHoursBeyond_4_body r4 a0 a1 a2 h = some out) (E : zE G s h H locs) (hl : lv_has ls 5 [(0, .ref a0), (1, .int a1), (2, .int a2)]) : W p l e rm_X5_allHoursBeyond s m args below meth c H locs 0 0 (MQ below (zQi G out.1 out.2) args s 0 0 (zA G)) (F0 m 4 ls []) := by
  unfold f_X5_allHoursBeyond_4_body at hf
  refine lv_iload_n Z.x Z.b dX5_allHoursBeyond_4 rfl (lv_at hl 2 rfl) ?_
  refine lv_aload_n Z.x Z.b dX5_allHoursBeyond_5 rfl (lv_at hl 0 rfl) ?_
  refine z_getI Z E q_X5_44 dX5_allHoursBeyond_6 hf (fun v1 hf => ?_)
  refine lv_icmp_ge (tgt := 51) Z.x Z.b dX5_allHoursBeyond_9 (by decide) (fun c => ?_) (fun c => ?_)
  · have hf := zit hf c
    refine lv_iload_n Z.x Z.b dX5_allHoursBeyond_51 rfl (lv_at hl 1 rfl) ?_
    exact z_iret Z E hr dX5_allHoursBeyond_52 hf
  · have hf := zif_ hf c
    refine lv_aload_n Z.x Z.b dX5_allHoursBeyond_12 rfl (lv_at hl 0 rfl) ?_
    refine lv_iload_n Z.x Z.b dX5_allHoursBeyond_13 rfl (lv_at hl 2 rfl) ?_
    refine lv_null Z.x Z.b dX5_allHoursBeyond_14 ?_
    refine z_Vq (As := [.int a2, va_rf none]) Z E hl.1 k_X5_147 v_X5_dutiesOf hf (fun r h' e => c_X5_dutiesOf l G h h' a0 a2 none r e) rfl rfl (Nat.le_of_ble_eq_true rfl) (zRm_of rfl (Nat.zero_le _) (Nat.zero_le _)) dX5_allHoursBeyond_15 (fun w2 h3 H locs hf E => ?_)
    obtain ⟨v4, ex, h8_15⟩ := zopt_inv hf
    subst ex
    have hf := h8_15
    refine lv_astore_n (lv' := [(3, .ref v4), (0, .ref a0), (1, .int a1), (2, .int a2)]) Z.x Z.b dX5_allHoursBeyond_18 rfl hl (by decide) rfl (fun ls hl => ?_)
    refine lv_iconst (v := 0) Z.x Z.b dX5_allHoursBeyond_19 (by decide) ?_
    refine lv_istore (lv' := [(4, .int 0), (3, .ref v4), (0, .ref a0), (1, .int a1), (2, .int a2)]) Z.x Z.b dX5_allHoursBeyond_20 hl (by decide) rfl (fun ls hl => ?_)
    exact t_X5_allHoursBeyond_22 Z hr k4 zN hf E (lv_sub hl [2, 3, 4, 1, 0] rfl)
theorem t_X5_allHoursBeyond_4 {p : Program} {l : Launch} {e : Env} {s : State} {m : MethodId} {args : Array Value} {below : List Frame} {meth : Method} {c : Code} {G : zG} (Z : zF p s m args c meth cX5_allHoursBeyond 5 RX5 G) (hr : meth.sig.returnType = (some .int)) {out : Int32 × zHp} : ∀ (n : Nat), ∀ {a0 : Nat} {a1 : Int32} {a2 : Int32} {h : zHp} {H : Heap} {locs : List Loc} {ls : Array Slot}, f_X5_allHoursBeyond_4 n a0 a1 a2 h = some out → zE G s h H locs → lv_has ls 5 [(0, .ref a0), (1, .int a1), (2, .int a2)] → W p l e rm_X5_allHoursBeyond s m args below meth c H locs 0 0 (MQ below (zQi G out.1 out.2) args s 0 0 (zA G)) (F0 m 4 ls [])
  | 0 => fun hf => by cases hf
  | n + 1 => fun hf E hl => t_X5_allHoursBeyond_4_body Z hr (r4 := f_X5_allHoursBeyond_4 n) (t_X5_allHoursBeyond_4 Z hr n) hf E hl
set_option maxHeartbeats 4000000 in
set_option maxRecDepth 20000 in
theorem t_X5_allHoursBeyond {p : Program} {l : Launch} {e : Env} {s : State} {m : MethodId} {args : Array Value} {below : List Frame} {meth : Method} {c : Code} {G : zG} (Z : zF p s m args c meth cX5_allHoursBeyond 5 RX5 G) (hr : meth.sig.returnType = (some .int)) {out : Int32 × zHp} {a0 : Nat} {h : zHp} {H : Heap} {locs : List Loc} {ls : Array Slot} (hf : f_X5_allHoursBeyond a0 h = some out) (E : zE G s h H locs) (hl : lv_has ls 5 [(0, .ref a0)]) : W p l e rm_X5_allHoursBeyond s m args below meth c H locs 0 0 (MQ below (zQi G out.1 out.2) args s 0 0 (zA G)) (F0 m 0 ls []) := by
  unfold f_X5_allHoursBeyond at hf
  refine lv_iconst (v := 0) Z.x Z.b dX5_allHoursBeyond_0 (by decide) ?_
  refine lv_istore_n (lv' := [(1, .int 0), (0, .ref a0)]) Z.x Z.b dX5_allHoursBeyond_1 rfl hl (by decide) rfl (fun ls hl => ?_)
  refine lv_iconst (v := 0) Z.x Z.b dX5_allHoursBeyond_2 (by decide) ?_
  refine lv_istore_n (lv' := [(2, .int 0), (1, .int 0), (0, .ref a0)]) Z.x Z.b dX5_allHoursBeyond_3 rfl hl (by decide) rfl (fun ls hl => ?_)
  exact t_X5_allHoursBeyond_4 Z hr zN hf E (lv_sub hl [2, 1, 0] rfl)
set_option maxHeartbeats 4000000 in
set_option maxRecDepth 20000 in
theorem c_X5_allHoursBeyond (l : Launch) (G : zG) (h : zHp) (h' : zHp) (a0 : Nat) (r : Int32) (hf : f_X5_allHoursBeyond a0 h = some (r, h')) : zM0 l yX5_allHoursBeyond cX5_allHoursBeyond 5 (some .int) rm_X5_allHoursBeyond G [.ref a0] h (zQi G r h') := by
  refine Met.ofW (cc := cX5_allHoursBeyond) (maxL := 5) (ret := (some .int)) (by decide) rfl ?_
  intro p e s m args below meth c s₁ B hml hv
  obtain ⟨rfl, hW⟩ := hv
  obtain ⟨Z, E, hr⟩ := zEnter (own := RX5) B hml rfl hW
  have hl := lv_entry ([.ref a0]) (n := 5) (Nat.le_of_ble_eq_true rfl)
  rw [lg_entry_eq]
  generalize (lg_sl ([.ref a0]) ++ List.replicate (5 - (lg_sl ([.ref a0])).length) Slot.unset).toArray = ls at hl ⊢
  have hl : lv_has ls 5 [(0, .ref a0)] := hl
  exact t_X5_allHoursBeyond (out := (r, h')) Z hr hf E hl
/-! FerryCrews$Text.<init>()V -/
theorem dX6_init_0 : decode cX6_init 0 = .ok (.aload_n 0, 1) := by decide +kernel
theorem dX6_init_1 : decode cX6_init 1 = .ok (.invokespecial 3, 3) := by decide +kernel
theorem dX6_init_4 : decode cX6_init 4 = .ok (.aload_n 0, 1) := by decide +kernel
theorem dX6_init_5 : decode cX6_init 5 = .ok (.bipush 60, 2) := by decide +kernel
theorem dX6_init_7 : decode cX6_init 7 = .ok (.newarray .char, 2) := by decide +kernel
theorem dX6_init_9 : decode cX6_init 9 = .ok (.putfield 9, 3) := by decide +kernel
theorem dX6_init_12 : decode cX6_init 12 = .ok (.aload_n 0, 1) := by decide +kernel
theorem dX6_init_13 : decode cX6_init 13 = .ok (.bipush 6, 2) := by decide +kernel
theorem dX6_init_15 : decode cX6_init 15 = .ok (.newarray .int, 2) := by decide +kernel
theorem dX6_init_17 : decode cX6_init 17 = .ok (.putfield 15, 3) := by decide +kernel
theorem dX6_init_20 : decode cX6_init 20 = .ok (.aload_n 0, 1) := by decide +kernel
theorem dX6_init_21 : decode cX6_init 21 = .ok (.bipush 6, 2) := by decide +kernel
theorem dX6_init_23 : decode cX6_init 23 = .ok (.newarray .int, 2) := by decide +kernel
theorem dX6_init_25 : decode cX6_init 25 = .ok (.putfield 19, 3) := by decide +kernel
theorem dX6_init_28 : decode cX6_init 28 = .ok (.aload_n 0, 1) := by decide +kernel
theorem dX6_init_29 : decode cX6_init 29 = .ok (.bipush 6, 2) := by decide +kernel
theorem dX6_init_31 : decode cX6_init 31 = .ok (.newarray .int, 2) := by decide +kernel
theorem dX6_init_33 : decode cX6_init 33 = .ok (.putfield 22, 3) := by decide +kernel
theorem dX6_init_36 : decode cX6_init 36 = .ok (.aload_n 0, 1) := by decide +kernel
theorem dX6_init_37 : decode cX6_init 37 = .ok (.bipush 6, 2) := by decide +kernel
theorem dX6_init_39 : decode cX6_init 39 = .ok (.newarray .int, 2) := by decide +kernel
theorem dX6_init_41 : decode cX6_init 41 = .ok (.putfield 25, 3) := by decide +kernel
theorem dX6_init_44 : decode cX6_init 44 = .ok (.return_, 1) := by decide +kernel
set_option maxRecDepth 20000 in
theorem wo_X6_3 : Cond.methodLink RX6 3 objectInit ∈ zB := List.mem_filter.mpr ⟨List.mem_of_getElem? (i := 195) (by decide +kernel), by decide +kernel⟩
set_option maxRecDepth 20000 in
theorem wr_1 : Cond.arrayClass .char ∈ zB := List.mem_filter.mpr ⟨List.mem_of_getElem? (i := 219) (by decide +kernel), by decide +kernel⟩
set_option maxRecDepth 20000 in
theorem wf_X6_9 : Cond.fieldLink RX6 9 RX6 "characters" "[C" ∈ zB := List.mem_filter.mpr ⟨List.mem_of_getElem? (i := 196) (by decide +kernel), by decide +kernel⟩
theorem p_X6_9 : zPut RX6 9 6 0 true (.array .char) := ⟨RX6, TX6, 8, tyX6, rfl, by decide, iX6, wf_X6_9, rfl, tyX6_ok, nmX6, rfl, by decide +kernel, fun _ => rfl⟩
set_option maxRecDepth 20000 in
theorem wf_X6_15 : Cond.fieldLink RX6 15 RX6 "ferries" "[I" ∈ zB := List.mem_filter.mpr ⟨List.mem_of_getElem? (i := 198) (by decide +kernel), by decide +kernel⟩
theorem p_X6_15 : zPut RX6 15 6 4 true (.array .int) := ⟨RX6, TX6, 8, tyX6, rfl, by decide, iX6, wf_X6_15, rfl, tyX6_ok, nmX6, rfl, by decide +kernel, fun _ => rfl⟩
set_option maxRecDepth 20000 in
theorem wf_X6_19 : Cond.fieldLink RX6 19 RX6 "starts" "[I" ∈ zB := List.mem_filter.mpr ⟨List.mem_of_getElem? (i := 199) (by decide +kernel), by decide +kernel⟩
theorem p_X6_19 : zPut RX6 19 6 5 true (.array .int) := ⟨RX6, TX6, 8, tyX6, rfl, by decide, iX6, wf_X6_19, rfl, tyX6_ok, nmX6, rfl, by decide +kernel, fun _ => rfl⟩
set_option maxRecDepth 20000 in
theorem wf_X6_22 : Cond.fieldLink RX6 22 RX6 "hours" "[I" ∈ zB := List.mem_filter.mpr ⟨List.mem_of_getElem? (i := 200) (by decide +kernel), by decide +kernel⟩
theorem p_X6_22 : zPut RX6 22 6 6 true (.array .int) := ⟨RX6, TX6, 8, tyX6, rfl, by decide, iX6, wf_X6_22, rfl, tyX6_ok, nmX6, rfl, by decide +kernel, fun _ => rfl⟩
set_option maxRecDepth 20000 in
theorem wf_X6_25 : Cond.fieldLink RX6 25 RX6 "sets" "[I" ∈ zB := List.mem_filter.mpr ⟨List.mem_of_getElem? (i := 201) (by decide +kernel), by decide +kernel⟩
theorem p_X6_25 : zPut RX6 25 6 7 true (.array .int) := ⟨RX6, TX6, 8, tyX6, rfl, by decide, iX6, wf_X6_25, rfl, tyX6_ok, nmX6, rfl, by decide +kernel, fun _ => rfl⟩
def rm_X6_init : Room := { frames := 1, cells := 5, slots := 84, locals := 20 }
set_option maxHeartbeats 4000000 in
set_option maxRecDepth 20000 in
theorem t_X6_init {p : Program} {l : Launch} {e : Env} {s : State} {m : MethodId} {args : Array Value} {below : List Frame} {meth : Method} {c : Code} {G : zG} (Z : zF p s m args c meth cX6_init 1 RX6 G) (hr : meth.sig.returnType = none) (hin : meth.name = "<init>") {out : zHp} {a0 : Nat} {h : zHp} {H : Heap} {locs : List Loc} {ls : Array Slot} {cells slots : Nat} (hf : f_X6_init a0 h = some out) (E : zE G s h H locs) (hl : lv_has ls 1 [(0, .ref a0)]) (hc : cells + 5 ≤ 5) (hs : slots + 84 ≤ 84) : W p l e rm_X6_init s m args below meth c H locs cells slots (MQ below (zQv G out) args s 5 84 (zA G)) (F0 m 0 ls []) := by
  unfold f_X6_init at hf
  refine lv_aload_n Z.x Z.b dX6_init_0 rfl (lv_at hl 0 rfl) ?_
  refine z_obj Z E hl.1 wo_X6_3 wo_inst wo_code dX6_init_1 (by decide) (by decide) ?_
  refine lv_aload_n Z.x Z.b dX6_init_4 rfl (lv_at hl 0 rfl) ?_
  refine lv_bipush (v := 60) Z.x Z.b dX6_init_5 (by decide) ?_
  refine z_newc (N := 60) Z E wr_1 (by decide) (by decide) (by decide) (show _ ≤ 5 by omega) (show _ ≤ 84 by omega) dX6_init_7 hf (fun q1 h2 H hf E => ?_)
  refine z_putF Z E hin p_X6_9 rfl rfl dX6_init_9 hf (fun h3 H locs hf E => ?_)
  refine lv_aload_n Z.x Z.b dX6_init_12 rfl (lv_at hl 0 rfl) ?_
  refine lv_bipush (v := 6) Z.x Z.b dX6_init_13 (by decide) ?_
  refine z_newi (N := 6) Z E wr_0 (by decide) (by decide) (by decide) (show _ ≤ 5 by omega) (show _ ≤ 84 by omega) dX6_init_15 hf (fun q4 h5 H hf E => ?_)
  refine z_putF Z E hin p_X6_15 rfl rfl dX6_init_17 hf (fun h6 H locs hf E => ?_)
  refine lv_aload_n Z.x Z.b dX6_init_20 rfl (lv_at hl 0 rfl) ?_
  refine lv_bipush (v := 6) Z.x Z.b dX6_init_21 (by decide) ?_
  refine z_newi (N := 6) Z E wr_0 (by decide) (by decide) (by decide) (show _ ≤ 5 by omega) (show _ ≤ 84 by omega) dX6_init_23 hf (fun q7 h8 H hf E => ?_)
  refine z_putF Z E hin p_X6_19 rfl rfl dX6_init_25 hf (fun h9 H locs hf E => ?_)
  refine lv_aload_n Z.x Z.b dX6_init_28 rfl (lv_at hl 0 rfl) ?_
  refine lv_bipush (v := 6) Z.x Z.b dX6_init_29 (by decide) ?_
  refine z_newi (N := 6) Z E wr_0 (by decide) (by decide) (by decide) (show _ ≤ 5 by omega) (show _ ≤ 84 by omega) dX6_init_31 hf (fun q10 h11 H hf E => ?_)
  refine z_putF Z E hin p_X6_22 rfl rfl dX6_init_33 hf (fun h12 H locs hf E => ?_)
  refine lv_aload_n Z.x Z.b dX6_init_36 rfl (lv_at hl 0 rfl) ?_
  refine lv_bipush (v := 6) Z.x Z.b dX6_init_37 (by decide) ?_
  refine z_newi (N := 6) Z E wr_0 (by decide) (by decide) (by decide) (show _ ≤ 5 by omega) (show _ ≤ 84 by omega) dX6_init_39 hf (fun q13 h14 H hf E => ?_)
  refine z_putF Z E hin p_X6_25 rfl rfl dX6_init_41 hf (fun h15 H locs hf E => ?_)
  refine W.widen (k := 5) (n := 84) (by omega) (by omega) ?_
  exact z_vret Z E hr dX6_init_44 hf
set_option maxHeartbeats 4000000 in
set_option maxRecDepth 20000 in
theorem c_X6_init (l : Launch) (G : zG) (h : zHp) (h' : zHp) (a0 : Nat) (hf : f_X6_init a0 h = some h') : zMn l yX6_init cX6_init 1 rm_X6_init 5 84 G [.ref a0] h h' := by
  refine Met.ofW (cc := cX6_init) (maxL := 1) (ret := none) (by decide) rfl ?_
  intro p e s m args below meth c s₁ B hml hv
  obtain ⟨rfl, hW⟩ := hv
  obtain ⟨Z, E, hr⟩ := zEnter (own := RX6) B hml rfl hW
  have hin : meth.name = "<init>" := (name_of_methodNamed B.named B.method).1
  have hl := lv_entry ([.ref a0]) (n := 1) (Nat.le_of_ble_eq_true rfl)
  rw [lg_entry_eq]
  generalize (lg_sl ([.ref a0]) ++ List.replicate (1 - (lg_sl ([.ref a0])).length) Slot.unset).toArray = ls at hl ⊢
  have hl : lv_has ls 1 [(0, .ref a0)] := hl
  exact t_X6_init (out := h') Z hr hin hf E hl (by decide) (by decide)
