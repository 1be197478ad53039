/-! FerryCrewsModel.leastRest(II)I -/
theorem dX8_leastRest_0 : decode cX8_leastRest 0 = .ok (.aload_n 0, 1) := by decide +kernel
theorem dX8_leastRest_1 : decode cX8_leastRest 1 = .ok (.iload_n 1, 1) := by decide +kernel
theorem dX8_leastRest_2 : decode cX8_leastRest 2 = .ok (.invokevirtual 160, 3) := by decide +kernel
theorem dX8_leastRest_5 : decode cX8_leastRest 5 = .ok (.ifCond .ne 5, 3) := by decide +kernel
theorem dX8_leastRest_8 : decode cX8_leastRest 8 = .ok (.iconst (-1), 1) := by decide +kernel
theorem dX8_leastRest_9 : decode cX8_leastRest 9 = .ok (.ireturn, 1) := by decide +kernel
theorem dX8_leastRest_10 : decode cX8_leastRest 10 = .ok (.iload_n 2, 1) := by decide +kernel
theorem dX8_leastRest_11 : decode cX8_leastRest 11 = .ok (.iconst 0, 1) := by decide +kernel
theorem dX8_leastRest_12 : decode cX8_leastRest 12 = .ok (.iconst 2, 1) := by decide +kernel
theorem dX8_leastRest_13 : decode cX8_leastRest 13 = .ok (.invokestatic 42, 3) := by decide +kernel
theorem dX8_leastRest_16 : decode cX8_leastRest 16 = .ok (.ifCond .ne 6, 3) := by decide +kernel
theorem dX8_leastRest_19 : decode cX8_leastRest 19 = .ok (.bipush (-2), 2) := by decide +kernel
theorem dX8_leastRest_21 : decode cX8_leastRest 21 = .ok (.ireturn, 1) := by decide +kernel
theorem dX8_leastRest_22 : decode cX8_leastRest 22 = .ok (.aload_n 0, 1) := by decide +kernel
theorem dX8_leastRest_23 : decode cX8_leastRest 23 = .ok (.iload_n 1, 1) := by decide +kernel
theorem dX8_leastRest_24 : decode cX8_leastRest 24 = .ok (.invokevirtual 78, 3) := by decide +kernel
theorem dX8_leastRest_27 : decode cX8_leastRest 27 = .ok (.iconst 0, 1) := by decide +kernel
theorem dX8_leastRest_28 : decode cX8_leastRest 28 = .ok (.istore_n 3, 1) := by decide +kernel
theorem dX8_leastRest_29 : decode cX8_leastRest 29 = .ok (.aload_n 0, 1) := by decide +kernel
theorem dX8_leastRest_30 : decode cX8_leastRest 30 = .ok (.iconst 0, 1) := by decide +kernel
theorem dX8_leastRest_31 : decode cX8_leastRest 31 = .ok (.bipush 24, 2) := by decide +kernel
theorem dX8_leastRest_33 : decode cX8_leastRest 33 = .ok (.invokevirtual 75, 3) := by decide +kernel
theorem dX8_leastRest_36 : decode cX8_leastRest 36 = .ok (.istore 4, 2) := by decide +kernel
theorem dX8_leastRest_38 : decode cX8_leastRest 38 = .ok (.aload_n 0, 1) := by decide +kernel
theorem dX8_leastRest_39 : decode cX8_leastRest 39 = .ok (.iconst 0, 1) := by decide +kernel
theorem dX8_leastRest_40 : decode cX8_leastRest 40 = .ok (.invokevirtual 207, 3) := by decide +kernel
theorem dX8_leastRest_43 : decode cX8_leastRest 43 = .ok (.istore 5, 2) := by decide +kernel
theorem dX8_leastRest_45 : decode cX8_leastRest 45 = .ok (.iconst 1, 1) := by decide +kernel
theorem dX8_leastRest_46 : decode cX8_leastRest 46 = .ok (.istore 6, 2) := by decide +kernel
theorem dX8_leastRest_48 : decode cX8_leastRest 48 = .ok (.iload 6, 2) := by decide +kernel
theorem dX8_leastRest_50 : decode cX8_leastRest 50 = .ok (.sipush 1000, 3) := by decide +kernel
theorem dX8_leastRest_53 : decode cX8_leastRest 53 = .ok (.if_icmp .gt 73, 3) := by decide +kernel
theorem dX8_leastRest_56 : decode cX8_leastRest 56 = .ok (.aload_n 0, 1) := by decide +kernel
theorem dX8_leastRest_57 : decode cX8_leastRest 57 = .ok (.iload 6, 2) := by decide +kernel
theorem dX8_leastRest_59 : decode cX8_leastRest 59 = .ok (.bipush 24, 2) := by decide +kernel
theorem dX8_leastRest_61 : decode cX8_leastRest 61 = .ok (.invokevirtual 75, 3) := by decide +kernel
theorem dX8_leastRest_64 : decode cX8_leastRest 64 = .ok (.istore 7, 2) := by decide +kernel
theorem dX8_leastRest_66 : decode cX8_leastRest 66 = .ok (.aload_n 0, 1) := by decide +kernel
theorem dX8_leastRest_67 : decode cX8_leastRest 67 = .ok (.iload 6, 2) := by decide +kernel
theorem dX8_leastRest_69 : decode cX8_leastRest 69 = .ok (.invokevirtual 207, 3) := by decide +kernel
theorem dX8_leastRest_72 : decode cX8_leastRest 72 = .ok (.istore 8, 2) := by decide +kernel
theorem dX8_leastRest_74 : decode cX8_leastRest 74 = .ok (.iload 7, 2) := by decide +kernel
theorem dX8_leastRest_76 : decode cX8_leastRest 76 = .ok (.iload 4, 2) := by decide +kernel
theorem dX8_leastRest_78 : decode cX8_leastRest 78 = .ok (.if_icmp .ge 8, 3) := by decide +kernel
theorem dX8_leastRest_81 : decode cX8_leastRest 81 = .ok (.iload 6, 2) := by decide +kernel
theorem dX8_leastRest_83 : decode cX8_leastRest 83 = .ok (.goto 4, 3) := by decide +kernel
theorem dX8_leastRest_86 : decode cX8_leastRest 86 = .ok (.iload_n 3, 1) := by decide +kernel
theorem dX8_leastRest_87 : decode cX8_leastRest 87 = .ok (.istore_n 3, 1) := by decide +kernel
theorem dX8_leastRest_88 : decode cX8_leastRest 88 = .ok (.iload 7, 2) := by decide +kernel
theorem dX8_leastRest_90 : decode cX8_leastRest 90 = .ok (.iload 4, 2) := by decide +kernel
theorem dX8_leastRest_92 : decode cX8_leastRest 92 = .ok (.if_icmp .ge 8, 3) := by decide +kernel
theorem dX8_leastRest_95 : decode cX8_leastRest 95 = .ok (.iload 7, 2) := by decide +kernel
theorem dX8_leastRest_97 : decode cX8_leastRest 97 = .ok (.goto 5, 3) := by decide +kernel
theorem dX8_leastRest_100 : decode cX8_leastRest 100 = .ok (.iload 4, 2) := by decide +kernel
theorem dX8_leastRest_102 : decode cX8_leastRest 102 = .ok (.istore 4, 2) := by decide +kernel
theorem dX8_leastRest_104 : decode cX8_leastRest 104 = .ok (.iload 8, 2) := by decide +kernel
theorem dX8_leastRest_106 : decode cX8_leastRest 106 = .ok (.iload 5, 2) := by decide +kernel
theorem dX8_leastRest_108 : decode cX8_leastRest 108 = .ok (.if_icmp .ge 8, 3) := by decide +kernel
theorem dX8_leastRest_111 : decode cX8_leastRest 111 = .ok (.iload 8, 2) := by decide +kernel
theorem dX8_leastRest_113 : decode cX8_leastRest 113 = .ok (.goto 5, 3) := by decide +kernel
theorem dX8_leastRest_116 : decode cX8_leastRest 116 = .ok (.iload 5, 2) := by decide +kernel
theorem dX8_leastRest_118 : decode cX8_leastRest 118 = .ok (.istore 5, 2) := by decide +kernel
theorem dX8_leastRest_120 : decode cX8_leastRest 120 = .ok (.iinc 6 1, 3) := by decide +kernel
theorem dX8_leastRest_123 : decode cX8_leastRest 123 = .ok (.goto (-75), 3) := by decide +kernel
theorem dX8_leastRest_126 : decode cX8_leastRest 126 = .ok (.iload_n 2, 1) := by decide +kernel
theorem dX8_leastRest_127 : decode cX8_leastRest 127 = .ok (.ifCond .ne 8, 3) := by decide +kernel
theorem dX8_leastRest_130 : decode cX8_leastRest 130 = .ok (.iload 4, 2) := by decide +kernel
theorem dX8_leastRest_132 : decode cX8_leastRest 132 = .ok (.goto 14, 3) := by decide +kernel
theorem dX8_leastRest_135 : decode cX8_leastRest 135 = .ok (.iload_n 2, 1) := by decide +kernel
theorem dX8_leastRest_136 : decode cX8_leastRest 136 = .ok (.iconst 1, 1) := by decide +kernel
theorem dX8_leastRest_137 : decode cX8_leastRest 137 = .ok (.if_icmp .ne 7, 3) := by decide +kernel
theorem dX8_leastRest_140 : decode cX8_leastRest 140 = .ok (.iload_n 3, 1) := by decide +kernel
theorem dX8_leastRest_141 : decode cX8_leastRest 141 = .ok (.goto 5, 3) := by decide +kernel
theorem dX8_leastRest_144 : decode cX8_leastRest 144 = .ok (.iload 5, 2) := by decide +kernel
theorem dX8_leastRest_146 : decode cX8_leastRest 146 = .ok (.ireturn, 1) := by decide +kernel
set_option maxRecDepth 20000 in
theorem wc_X8_longRest : Cond.code yX8_longRest cX8_longRest 5 (some .int) ∈ zB := List.mem_filter.mpr ⟨List.mem_of_getElem? (i := 1138) (by decide +kernel), by decide +kernel⟩
set_option maxRecDepth 20000 in
theorem wm_X8_207 : Cond.methodLink RX8 207 yX8_longRest ∈ zB := List.mem_filter.mpr ⟨List.mem_of_getElem? (i := 1135) (by decide +kernel), by decide +kernel⟩
theorem k_X8_207 : zCal RX8 207 yX8_longRest cX8_longRest 5 (some .int) 1 := ⟨wm_X8_207, wi_X8, wc_X8_longRest, by decide +kernel, by decide +kernel, by decide +kernel⟩
set_option maxRecDepth 20000 in
theorem wn_X8_longRest : Cond.instanceMethod yX8_longRest ∈ zB := List.mem_filter.mpr ⟨List.mem_of_getElem? (i := 1137) (by decide +kernel), by decide +kernel⟩
set_option maxRecDepth 20000 in
theorem ws_X8_longRest : Cond.selects RX8 yX8_longRest yX8_longRest ∈ zB := List.mem_filter.mpr ⟨List.mem_of_getElem? (i := 56) (by decide +kernel), by decide +kernel⟩
theorem v_X8_longRest : zVir yX8_longRest 8 := ⟨wn_X8_longRest, ws_X8_longRest, TX8, 12, rfl⟩
def rm_X8_leastRest : Room := { frames := 5, cells := 0, slots := 0, locals := 114 }
set_option maxHeartbeats 4000000 in
set_option maxRecDepth 20000 in
theorem t_X8_leastRest_118 {p : Program} {l : Launch} {e : Env} {s : State} {m : MethodId} {args : Array Value} {below : List Frame} {meth : Method} {c : Code} {G : zG} (Z : zF p s m args c meth cX8_leastRest 9 RX8 G) (hr : meth.sig.returnType = (some .int)) {out : Int32 × zHp} {r48 : Nat → Int32 → Int32 → Int32 → Int32 → Int32 → zHp → Option (Int32 × zHp)} (k48 : ∀ {a0 : Nat} {a2 : Int32} {a3 : Int32} {a4 : Int32} {a5 : Int32} {a6 : Int32} {h : zHp} {H : Heap} {locs : List Loc} {ls : Array Slot}, r48 a0 a2 a3 a4 a5 a6 h = some out → zE G s h H locs → lv_has ls 9 [(0, .ref a0), (2, .int a2), (3, .int a3), (4, .int a4), (5, .int a5), (6, .int a6)] → W p l e rm_X8_leastRest s m args below meth c H locs 0 0 (MQ below (zQi G out.1 out.2) args s 0 0 (zA G)) (F0 m 48 ls [])) {a0 : Nat} {a2 : Int32} {a3 : Int32} {a4 : Int32} {a6 : Int32} {s0 : Int32} {h : zHp} {H : Heap} {locs : List Loc} {ls : Array Slot} (hf : f_X8_leastRest_118 r48 a0 a2 a3 a4 a6 s0 h = some out) (E : zE G s h H locs) (hl : lv_has ls 9 [(0, .ref a0), (2, .int a2), (3, .int a3), (4, .int a4), (6, .int a6)]) : W p l e rm_X8_leastRest s m args below meth c H locs 0 0 (MQ below (zQi G out.1 out.2) args s 0 0 (zA G)) (F0 m 118 ls [.int s0]) := by
  unfold f_X8_leastRest_118 at hf
  refine lv_istore (lv' := [(5, .int s0), (0, .ref a0), (2, .int a2), (3, .int a3), (4, .int a4), (6, .int a6)]) Z.x Z.b dX8_leastRest_118 hl (by decide) rfl (fun ls hl => ?_)
  refine lv_iinc (v := (a6 + 1)) (lv' := [(6, .int (a6 + 1)), (5, .int s0), (0, .ref a0), (2, .int a2), (3, .int a3), (4, .int a4)]) Z.x Z.b dX8_leastRest_120 hl (k := 5) rfl rfl (by decide) rfl (fun ls hl => ?_)
  refine lv_goto (tgt := 48) Z.x Z.b dX8_leastRest_123 (by decide) ?_
  exact k48 hf E (lv_sub hl [2, 3, 4, 5, 1, 0] rfl)
set_option maxHeartbeats 4000000 in
set_option maxRecDepth 20000 in
theorem t_X8_leastRest_102 {p : Program} {l : Launch} {e : Env} {s : State} {m : MethodId} {args : Array Value} {below : List Frame} {meth : Method} {c : Code} {G : zG} (Z : zF p s m args c meth cX8_leastRest 9 RX8 G) (hr : meth.sig.returnType = (some .int)) {out : Int32 × zHp} {r48 : Nat → Int32 → Int32 → Int32 → Int32 → Int32 → zHp → Option (Int32 × zHp)} (k48 : ∀ {a0 : Nat} {a2 : Int32} {a3 : Int32} {a4 : Int32} {a5 : Int32} {a6 : Int32} {h : zHp} {H : Heap} {locs : List Loc} {ls : Array Slot}, r48 a0 a2 a3 a4 a5 a6 h = some out → zE G s h H locs → lv_has ls 9 [(0, .ref a0), (2, .int a2), (3, .int a3), (4, .int a4), (5, .int a5), (6, .int a6)] → W p l e rm_X8_leastRest s m args below meth c H locs 0 0 (MQ below (zQi G out.1 out.2) args s 0 0 (zA G)) (F0 m 48 ls [])) {a0 : Nat} {a2 : Int32} {a3 : Int32} {a5 : Int32} {a6 : Int32} {a8 : Int32} {s0 : Int32} {h : zHp} {H : Heap} {locs : List Loc} {ls : Array Slot} (hf : f_X8_leastRest_102 r48 a0 a2 a3 a5 a6 a8 s0 h = some out) (E : zE G s h H locs) (hl : lv_has ls 9 [(0, .ref a0), (2, .int a2), (3, .int a3), (5, .int a5), (6, .int a6), (8, .int a8)]) : W p l e rm_X8_leastRest s m args below meth c H locs 0 0 (MQ below (zQi G out.1 out.2) args s 0 0 (zA G)) (F0 m 102 ls [.int s0]) := by
  unfold f_X8_leastRest_102 at hf
  refine lv_istore (lv' := [(4, .int s0), (0, .ref a0), (2, .int a2), (3, .int a3), (5, .int a5), (6, .int a6), (8, .int a8)]) Z.x Z.b dX8_leastRest_102 hl (by decide) rfl (fun ls hl => ?_)
  refine lv_iload Z.x Z.b dX8_leastRest_104 (lv_at hl 6 rfl) ?_
  refine lv_iload Z.x Z.b dX8_leastRest_106 (lv_at hl 4 rfl) ?_
  refine lv_icmp_ge (tgt := 116) Z.x Z.b dX8_leastRest_108 (by decide) (fun c => ?_) (fun c => ?_)
  · have hf := zit hf c
    refine lv_iload Z.x Z.b dX8_leastRest_116 (lv_at hl 4 rfl) ?_
    exact t_X8_leastRest_118 Z hr k48 hf E (lv_sub hl [1, 2, 3, 0, 5] rfl)
  · have hf := zif_ hf c
    refine lv_iload Z.x Z.b dX8_leastRest_111 (lv_at hl 6 rfl) ?_
    refine lv_goto (tgt := 118) Z.x Z.b dX8_leastRest_113 (by decide) ?_
    exact t_X8_leastRest_118 Z hr k48 hf E (lv_sub hl [1, 2, 3, 0, 5] rfl)
set_option maxHeartbeats 4000000 in
set_option maxRecDepth 20000 in
theorem t_X8_leastRest_87 {p : Program} {l : Launch} {e : Env} {s : State} {m : MethodId} {args : Array Value} {below : List Frame} {meth : Method} {c : Code} {G : zG} (Z : zF p s m args c meth cX8_leastRest 9 RX8 G) (hr : meth.sig.returnType = (some .int)) {out : Int32 × zHp} {r48 : Nat → Int32 → Int32 → Int32 → Int32 → Int32 → zHp → Option (Int32 × zHp)} (k48 : ∀ {a0 : Nat} {a2 : Int32} {a3 : Int32} {a4 : Int32} {a5 : Int32} {a6 : Int32} {h : zHp} {H : Heap} {locs : List Loc} {ls : Array Slot}, r48 a0 a2 a3 a4 a5 a6 h = some out → zE G s h H locs → lv_has ls 9 [(0, .ref a0), (2, .int a2), (3, .int a3), (4, .int a4), (5, .int a5), (6, .int a6)] → W p l e rm_X8_leastRest s m args below meth c H locs 0 0 (MQ below (zQi G out.1 out.2) args s 0 0 (zA G)) (F0 m 48 ls [])) {a0 : Nat} {a2 : Int32} {a4 : Int32} {a5 : Int32} {a6 : Int32} {a7 : Int32} {a8 : Int32} {s0 : Int32} {h : zHp} {H : Heap} {locs : List Loc} {ls : Array Slot} (hf : f_X8_leastRest_87 r48 a0 a2 a4 a5 a6 a7 a8 s0 h = some out) (E : zE G s h H locs) (hl : lv_has ls 9 [(0, .ref a0), (2, .int a2), (4, .int a4), (5, .int a5), (6, .int a6), (7, .int a7), (8, .int a8)]) : W p l e rm_X8_leastRest s m args below meth c H locs 0 0 (MQ below (zQi G out.1 out.2) args s 0 0 (zA G)) (F0 m 87 ls [.int s0]) := by
  unfold f_X8_leastRest_87 at hf
  refine lv_istore_n (lv' := [(3, .int s0), (0, .ref a0), (2, .int a2), (4, .int a4), (5, .int a5), (6, .int a6), (7, .int a7), (8, .int a8)]) Z.x Z.b dX8_leastRest_87 rfl hl (by decide) rfl (fun ls hl => ?_)
  refine lv_iload Z.x Z.b dX8_leastRest_88 (lv_at hl 6 rfl) ?_
  refine lv_iload Z.x Z.b dX8_leastRest_90 (lv_at hl 3 rfl) ?_
  refine lv_icmp_ge (tgt := 100) Z.x Z.b dX8_leastRest_92 (by decide) (fun c => ?_) (fun c => ?_)
  · have hf := zit hf c
    refine lv_iload Z.x Z.b dX8_leastRest_100 (lv_at hl 3 rfl) ?_
    exact t_X8_leastRest_102 Z hr k48 hf E (lv_sub hl [1, 2, 0, 4, 5, 7] rfl)
  · have hf := zif_ hf c
    refine lv_iload Z.x Z.b dX8_leastRest_95 (lv_at hl 6 rfl) ?_
    refine lv_goto (tgt := 102) Z.x Z.b dX8_leastRest_97 (by decide) ?_
    exact t_X8_leastRest_102 Z hr k48 hf E (lv_sub hl [1, 2, 0, 4, 5, 7] rfl)
set_option maxHeartbeats 4000000 in
set_option maxRecDepth 20000 in
theorem t_X8_leastRest_48_body {p : Program} {l : Launch} {e : Env} {s : State} {m : MethodId} {args : Array Value} {below : List Frame} {meth : Method} {c : Code} {G : zG} (Z : zF p s m args c meth cX8_leastRest 9 RX8 G) (hr : meth.sig.returnType = (some .int)) {out : Int32 × zHp} {r48 : Nat → Int32 → Int32 → Int32 → Int32 → Int32 → zHp → Option (Int32 × zHp)} (k48 : ∀ {a0 : Nat} {a2 : Int32} {a3 : Int32} {a4 : Int32} {a5 : Int32} {a6 : Int32} {h : zHp} {H : Heap} {locs : List Loc} {ls : Array Slot}, r48 a0 a2 a3 a4 a5 a6 h = some out → zE G s h H locs → lv_has ls 9 [(0, .ref a0), (2, .int a2), (3, .int a3), (4, .int a4), (5, .int a5), (6, .int a6)] → W p l e rm_X8_leastRest s m args below meth c H locs 0 0 (MQ below (zQi G out.1 out.2) args s 0 0 (zA G)) (F0 m 48 ls [])) {a0 : Nat} {a2 : Int32} {a3 : Int32} {a4 : Int32} {a5 : Int32} {a6 : Int32} {h : zHp} {H : Heap} {locs : List Loc} {ls : Array Slot} (hf : f_X8_leastRest_48_body r48 a0 a2 a3 a4 a5 a6 h = some out) (E : zE G s h H locs) (hl : lv_has ls 9 [(0, .ref a0), (2, .int a2), (3, .int a3), (4, .int a4), (5, .int a5), (6, .int a6)]) : W p l e rm_X8_leastRest s m args below meth c H locs 0 0 (MQ below (zQi G out.1 out.2) args s 0 0 (zA G)) (F0 m 48 ls []) := by
  unfold f_X8_leastRest_48_body at hf
  refine lv_iload Z.x Z.b dX8_leastRest_48 (lv_at hl 5 rfl) ?_
  refine lv_sipush (v := 1000) Z.x Z.b dX8_leastRest_50 (by decide) ?_
  refine lv_icmp_gt (tgt := 126) Z.x Z.b dX8_leastRest_53 (by decide) (fun c => ?_) (fun c => ?_)
  · have hf := zit hf c
    refine lv_iload_n Z.x Z.b dX8_leastRest_126 rfl (lv_at hl 1 rfl) ?_
    refine lv_if_ne (tgt := 135) Z.x Z.b dX8_leastRest_127 (by decide) (fun c => ?_) (fun c => ?_)
    · have hf := zif_ hf c
      refine lv_iload_n Z.x Z.b dX8_leastRest_135 rfl (lv_at hl 1 rfl) ?_
      refine lv_iconst (v := 1) Z.x Z.b dX8_leastRest_136 (by decide) ?_
      refine lv_icmp_ne (tgt := 144) Z.x Z.b dX8_leastRest_137 (by decide) (fun c => ?_) (fun c => ?_)
      · have hf := zif_ hf c
        refine lv_iload Z.x Z.b dX8_leastRest_144 (lv_at hl 4 rfl) ?_
        exact z_iret Z E hr dX8_leastRest_146 hf
      · have hf := zit hf c
        refine lv_iload_n Z.x Z.b dX8_leastRest_140 rfl (lv_at hl 2 rfl) ?_
        refine lv_goto (tgt := 146) Z.x Z.b dX8_leastRest_141 (by decide) ?_
        exact z_iret Z E hr dX8_leastRest_146 hf
    · have hf := zit hf c
      refine lv_iload Z.x Z.b dX8_leastRest_130 (lv_at hl 3 rfl) ?_
      refine lv_goto (tgt := 146) Z.x Z.b dX8_leastRest_132 (by decide) ?_
      exact z_iret Z E hr dX8_leastRest_146 hf
  · have hf := zif_ hf c
    refine lv_aload_n Z.x Z.b dX8_leastRest_56 rfl (lv_at hl 0 rfl) ?_
    refine lv_iload Z.x Z.b dX8_leastRest_57 (lv_at hl 5 rfl) ?_
    refine lv_bipush (v := 24) Z.x Z.b dX8_leastRest_59 (by decide) ?_
    refine z_Vi (As := [.int a6, .int 24]) Z E hl.1 k_X8_75 v_X8_without hf (fun r h' e => c_X8_without l G h h' a0 a6 24 r e) rfl rfl (Nat.le_of_ble_eq_true rfl) (zRm_of rfl (Nat.zero_le _) (Nat.zero_le _)) dX8_leastRest_61 (fun v1 h2 H locs hf E => ?_)
    refine lv_istore (lv' := [(7, .int v1), (0, .ref a0), (2, .int a2), (3, .int a3), (4, .int a4), (5, .int a5), (6, .int a6)]) Z.x Z.b dX8_leastRest_64 hl (by decide) rfl (fun ls hl => ?_)
    refine lv_aload_n Z.x Z.b dX8_leastRest_66 rfl (lv_at hl 1 rfl) ?_
    refine lv_iload Z.x Z.b dX8_leastRest_67 (lv_at hl 6 rfl) ?_
    refine z_Vi (As := [.int a6]) Z E hl.1 k_X8_207 v_X8_longRest hf (fun r h' e => c_X8_longRest l G h2 h' a0 a6 r e) rfl rfl (Nat.le_of_ble_eq_true rfl) (zRm_of rfl (Nat.zero_le _) (Nat.zero_le _)) dX8_leastRest_69 (fun v3 h4 H locs hf E => ?_)
    refine lv_istore (lv' := [(8, .int v3), (7, .int v1), (0, .ref a0), (2, .int a2), (3, .int a3), (4, .int a4), (5, .int a5), (6, .int a6)]) Z.x Z.b dX8_leastRest_72 hl (by decide) rfl (fun ls hl => ?_)
    refine lv_iload Z.x Z.b dX8_leastRest_74 (lv_at hl 1 rfl) ?_
    refine lv_iload Z.x Z.b dX8_leastRest_76 (lv_at hl 5 rfl) ?_
    refine lv_icmp_ge (tgt := 86) Z.x Z.b dX8_leastRest_78 (by decide) (fun c => ?_) (fun c => ?_)
    · have hf := zit hf c
      refine lv_iload_n Z.x Z.b dX8_leastRest_86 rfl (lv_at hl 4 rfl) ?_
      exact t_X8_leastRest_87 Z hr k48 hf E (lv_sub hl [2, 3, 5, 6, 7, 1, 0] rfl)
    · have hf := zif_ hf c
      refine lv_iload Z.x Z.b dX8_leastRest_81 (lv_at hl 7 rfl) ?_
      refine lv_goto (tgt := 87) Z.x Z.b dX8_leastRest_83 (by decide) ?_
      exact t_X8_leastRest_87 Z hr k48 hf E (lv_sub hl [2, 3, 5, 6, 7, 1, 0] rfl)
theorem t_X8_leastRest_48 {p : Program} {l : Launch} {e : Env} {s : State} {m : MethodId} {args : Array Value} {below : List Frame} {meth : Method} {c : Code} {G : zG} (Z : zF p s m args c meth cX8_leastRest 9 RX8 G) (hr : meth.sig.returnType = (some .int)) {out : Int32 × zHp} : ∀ (n : Nat), ∀ {a0 : Nat} {a2 : Int32} {a3 : Int32} {a4 : Int32} {a5 : Int32} {a6 : Int32} {h : zHp} {H : Heap} {locs : List Loc} {ls : Array Slot}, f_X8_leastRest_48 n a0 a2 a3 a4 a5 a6 h = some out → zE G s h H locs → lv_has ls 9 [(0, .ref a0), (2, .int a2), (3, .int a3), (4, .int a4), (5, .int a5), (6, .int a6)] → W p l e rm_X8_leastRest s m args below meth c H locs 0 0 (MQ below (zQi G out.1 out.2) args s 0 0 (zA G)) (F0 m 48 ls [])
  | 0 => fun hf => by cases hf
  | n + 1 => fun hf E hl => t_X8_leastRest_48_body Z hr (r48 := f_X8_leastRest_48 n) (t_X8_leastRest_48 Z hr n) hf E hl
set_option maxHeartbeats 4000000 in
set_option maxRecDepth 20000 in
theorem t_X8_leastRest {p : Program} {l : Launch} {e : Env} {s : State} {m : MethodId} {args : Array Value} {below : List Frame} {meth : Method} {c : Code} {G : zG} (Z : zF p s m args c meth cX8_leastRest 9 RX8 G) (hr : meth.sig.returnType = (some .int)) {out : Int32 × zHp} {a0 : Nat} {a1 : Int32} {a2 : Int32} {h : zHp} {H : Heap} {locs : List Loc} {ls : Array Slot} (hf : f_X8_leastRest a0 a1 a2 h = some out) (E : zE G s h H locs) (hl : lv_has ls 9 [(0, .ref a0), (1, .int a1), (2, .int a2)]) : W p l e rm_X8_leastRest s m args below meth c H locs 0 0 (MQ below (zQi G out.1 out.2) args s 0 0 (zA G)) (F0 m 0 ls []) := by
  unfold f_X8_leastRest at hf
  refine lv_aload_n Z.x Z.b dX8_leastRest_0 rfl (lv_at hl 0 rfl) ?_
  refine lv_iload_n Z.x Z.b dX8_leastRest_1 rfl (lv_at hl 1 rfl) ?_
  refine z_Vi (As := [.int a1]) Z E hl.1 k_X8_160 v_X8_isMember hf (fun r h' e => c_X8_isMember l G h h' a0 a1 r e) rfl rfl (Nat.le_of_ble_eq_true rfl) (zRm_of rfl (Nat.zero_le _) (Nat.zero_le _)) dX8_leastRest_2 (fun v1 h2 H locs hf E => ?_)
  refine lv_if_ne (tgt := 10) Z.x Z.b dX8_leastRest_5 (by decide) (fun c => ?_) (fun c => ?_)
  · have hf := zif_ hf c
    refine lv_iload_n Z.x Z.b dX8_leastRest_10 rfl (lv_at hl 2 rfl) ?_
    refine lv_iconst (v := 0) Z.x Z.b dX8_leastRest_11 (by decide) ?_
    refine lv_iconst (v := 2) Z.x Z.b dX8_leastRest_12 (by decide) ?_
    refine z_Si (As := [.int a2, .int 0, .int 2]) Z E hl.1 k_X8_42 wt_X8_in hf (fun r h' e => c_X8_in l G h2 h' a2 0 2 r e) rfl rfl (Nat.le_of_ble_eq_true rfl) (zRm_of rfl (Nat.zero_le _) (Nat.zero_le _)) dX8_leastRest_13 (fun v3 h4 H locs hf E => ?_)
    refine lv_if_ne (tgt := 22) Z.x Z.b dX8_leastRest_16 (by decide) (fun c => ?_) (fun c => ?_)
    · have hf := zif_ hf c
      refine lv_aload_n Z.x Z.b dX8_leastRest_22 rfl (lv_at hl 0 rfl) ?_
      refine lv_iload_n Z.x Z.b dX8_leastRest_23 rfl (lv_at hl 1 rfl) ?_
      refine z_Vv (As := [.int a1]) Z E hl.1 k_X8_78 v_X8_countDuties hf (fun h' e => c_X8_countDuties l G h4 h' a0 a1 e) rfl rfl (Nat.le_of_ble_eq_true rfl) (zRm_of rfl (Nat.zero_le _) (Nat.zero_le _)) dX8_leastRest_24 (fun h5 H locs hf E => ?_)
      refine lv_iconst (v := 0) Z.x Z.b dX8_leastRest_27 (by decide) ?_
      refine lv_istore_n (lv' := [(3, .int 0), (0, .ref a0), (1, .int a1), (2, .int a2)]) Z.x Z.b dX8_leastRest_28 rfl hl (by decide) rfl (fun ls hl => ?_)
      refine lv_aload_n Z.x Z.b dX8_leastRest_29 rfl (lv_at hl 1 rfl) ?_
      refine lv_iconst (v := 0) Z.x Z.b dX8_leastRest_30 (by decide) ?_
      refine lv_bipush (v := 24) Z.x Z.b dX8_leastRest_31 (by decide) ?_
      refine z_Vi (As := [.int 0, .int 24]) Z E hl.1 k_X8_75 v_X8_without hf (fun r h' e => c_X8_without l G h5 h' a0 0 24 r e) rfl rfl (Nat.le_of_ble_eq_true rfl) (zRm_of rfl (Nat.zero_le _) (Nat.zero_le _)) dX8_leastRest_33 (fun v6 h7 H locs hf E => ?_)
      refine lv_istore (lv' := [(4, .int v6), (3, .int 0), (0, .ref a0), (1, .int a1), (2, .int a2)]) Z.x Z.b dX8_leastRest_36 hl (by decide) rfl (fun ls hl => ?_)
      refine lv_aload_n Z.x Z.b dX8_leastRest_38 rfl (lv_at hl 2 rfl) ?_
      refine lv_iconst (v := 0) Z.x Z.b dX8_leastRest_39 (by decide) ?_
      refine z_Vi (As := [.int 0]) Z E hl.1 k_X8_207 v_X8_longRest hf (fun r h' e => c_X8_longRest l G h7 h' a0 0 r e) rfl rfl (Nat.le_of_ble_eq_true rfl) (zRm_of rfl (Nat.zero_le _) (Nat.zero_le _)) dX8_leastRest_40 (fun v8 h9 H locs hf E => ?_)
      refine lv_istore (lv' := [(5, .int v8), (4, .int v6), (3, .int 0), (0, .ref a0), (1, .int a1), (2, .int a2)]) Z.x Z.b dX8_leastRest_43 hl (by decide) rfl (fun ls hl => ?_)
      refine lv_iconst (v := 1) Z.x Z.b dX8_leastRest_45 (by decide) ?_
      refine lv_istore (lv' := [(6, .int 1), (5, .int v8), (4, .int v6), (3, .int 0), (0, .ref a0), (1, .int a1), (2, .int a2)]) Z.x Z.b dX8_leastRest_46 hl (by decide) rfl (fun ls hl => ?_)
      exact t_X8_leastRest_48 Z hr zN hf E (lv_sub hl [4, 6, 3, 2, 1, 0] rfl)
    · have hf := zit hf c
      refine lv_bipush (v := (-2)) Z.x Z.b dX8_leastRest_19 (by decide) ?_
      exact z_iret Z E hr dX8_leastRest_21 hf
  · have hf := zit hf c
    refine lv_iconst (v := (-1)) Z.x Z.b dX8_leastRest_8 (by decide) ?_
    exact z_iret Z E hr dX8_leastRest_9 hf
set_option maxHeartbeats 4000000 in
set_option maxRecDepth 20000 in
theorem c_X8_leastRest (l : Launch) (G : zG) (h : zHp) (h' : zHp) (a0 : Nat) (a1 : Int32) (a2 : Int32) (r : Int32) (hf : f_X8_leastRest a0 a1 a2 h = some (r, h')) : zM0 l yX8_leastRest cX8_leastRest 9 (some .int) rm_X8_leastRest G [.ref a0, .int a1, .int a2] h (zQi G r h') := by
  refine Met.ofW (cc := cX8_leastRest) (maxL := 9) (ret := (some .int)) (by decide) rfl ?_
  intro p e s m args below meth c s₁ B hml hv
  obtain ⟨rfl, hW⟩ := hv
  obtain ⟨Z, E, hr⟩ := zEnter (own := RX8) B hml rfl hW
  have hl := lv_entry ([.ref a0, .int a1, .int a2]) (n := 9) (Nat.le_of_ble_eq_true rfl)
  rw [lg_entry_eq]
  generalize (lg_sl ([.ref a0, .int a1, .int a2]) ++ List.replicate (9 - (lg_sl ([.ref a0, .int a1, .int a2])).length) Slot.unset).toArray = ls at hl ⊢
  have hl : lv_has ls 9 [(0, .ref a0), (1, .int a1), (2, .int a2)] := hl
  exact t_X8_leastRest (out := (r, h')) Z hr hf E hl
/-! FerryCrewsModel.over(II)I -/
theorem dX8_over_0 : decode cX8_over 0 = .ok (.aload_n 0, 1) := by decide +kernel
theorem dX8_over_1 : decode cX8_over 1 = .ok (.iload_n 1, 1) := by decide +kernel
theorem dX8_over_2 : decode cX8_over 2 = .ok (.invokevirtual 78, 3) := by decide +kernel
theorem dX8_over_5 : decode cX8_over 5 = .ok (.sipush 168, 3) := by decide +kernel
theorem dX8_over_8 : decode cX8_over 8 = .ok (.aload_n 0, 1) := by decide +kernel
theorem dX8_over_9 : decode cX8_over 9 = .ok (.sipush 168, 3) := by decide +kernel
theorem dX8_over_12 : decode cX8_over 12 = .ok (.iload_n 2, 1) := by decide +kernel
theorem dX8_over_13 : decode cX8_over 13 = .ok (.imul, 1) := by decide +kernel
theorem dX8_over_14 : decode cX8_over 14 = .ok (.sipush 168, 3) := by decide +kernel
theorem dX8_over_17 : decode cX8_over 17 = .ok (.invokevirtual 75, 3) := by decide +kernel
theorem dX8_over_20 : decode cX8_over 20 = .ok (.isub, 1) := by decide +kernel
theorem dX8_over_21 : decode cX8_over 21 = .ok (.aload_n 0, 1) := by decide +kernel
theorem dX8_over_22 : decode cX8_over 22 = .ok (.getfield 7, 3) := by decide +kernel
theorem dX8_over_25 : decode cX8_over 25 = .ok (.bipush 8, 2) := by decide +kernel
theorem dX8_over_27 : decode cX8_over 27 = .ok (.iaload, 1) := by decide +kernel
theorem dX8_over_28 : decode cX8_over 28 = .ok (.isub, 1) := by decide +kernel
theorem dX8_over_29 : decode cX8_over 29 = .ok (.istore_n 3, 1) := by decide +kernel
theorem dX8_over_30 : decode cX8_over 30 = .ok (.iload_n 3, 1) := by decide +kernel
theorem dX8_over_31 : decode cX8_over 31 = .ok (.ifCond .le 7, 3) := by decide +kernel
theorem dX8_over_34 : decode cX8_over 34 = .ok (.iload_n 3, 1) := by decide +kernel
theorem dX8_over_35 : decode cX8_over 35 = .ok (.goto 4, 3) := by decide +kernel
theorem dX8_over_38 : decode cX8_over 38 = .ok (.iconst 0, 1) := by decide +kernel
theorem dX8_over_39 : decode cX8_over 39 = .ok (.ireturn, 1) := by decide +kernel
def rm_X8_over : Room := { frames := 5, cells := 0, slots := 0, locals := 114 }
set_option maxHeartbeats 4000000 in
set_option maxRecDepth 20000 in
theorem t_X8_over {p : Program} {l : Launch} {e : Env} {s : State} {m : MethodId} {args : Array Value} {below : List Frame} {meth : Method} {c : Code} {G : zG} (Z : zF p s m args c meth cX8_over 4 RX8 G) (hr : meth.sig.returnType = (some .int)) {out : Int32 × zHp} {a0 : Nat} {a1 : Int32} {a2 : Int32} {h : zHp} {H : Heap} {locs : List Loc} {ls : Array Slot} (hf : f_X8_over a0 a1 a2 h = some out) (E : zE G s h H locs) (hl : lv_has ls 4 [(0, .ref a0), (1, .int a1), (2, .int a2)]) : W p l e rm_X8_over s m args below meth c H locs 0 0 (MQ below (zQi G out.1 out.2) args s 0 0 (zA G)) (F0 m 0 ls []) := by
  unfold f_X8_over at hf
  refine lv_aload_n Z.x Z.b dX8_over_0 rfl (lv_at hl 0 rfl) ?_
  refine lv_iload_n Z.x Z.b dX8_over_1 rfl (lv_at hl 1 rfl) ?_
  refine z_Vv (As := [.int a1]) Z E hl.1 k_X8_78 v_X8_countDuties hf (fun h' e => c_X8_countDuties l G h h' a0 a1 e) rfl rfl (Nat.le_of_ble_eq_true rfl) (zRm_of rfl (Nat.zero_le _) (Nat.zero_le _)) dX8_over_2 (fun h1 H locs hf E => ?_)
  refine lv_sipush (v := 168) Z.x Z.b dX8_over_5 (by decide) ?_
  refine lv_aload_n Z.x Z.b dX8_over_8 rfl (lv_at hl 0 rfl) ?_
  refine lv_sipush (v := 168) Z.x Z.b dX8_over_9 (by decide) ?_
  refine lv_iload_n Z.x Z.b dX8_over_12 rfl (lv_at hl 2 rfl) ?_
  refine lv_imul Z.x Z.b dX8_over_13 ?_
  refine lv_sipush (v := 168) Z.x Z.b dX8_over_14 (by decide) ?_
  refine z_Vi (As := [.int (168 * a2), .int 168]) Z E hl.1 k_X8_75 v_X8_without hf (fun r h' e => c_X8_without l G h1 h' a0 (168 * a2) 168 r e) rfl rfl (Nat.le_of_ble_eq_true rfl) (zRm_of rfl (Nat.zero_le _) (Nat.zero_le _)) dX8_over_17 (fun v2 h3 H locs hf E => ?_)
  refine lv_isub Z.x Z.b dX8_over_20 ?_
  refine lv_aload_n Z.x Z.b dX8_over_21 rfl (lv_at hl 0 rfl) ?_
  refine z_getR Z E q_X8_7 dX8_over_22 hf (fun v4 hf => ?_)
  refine lv_bipush (v := 8) Z.x Z.b dX8_over_25 (by decide) ?_
  refine z_iald Z E dX8_over_27 hf (fun v5 hf => ?_)
  refine lv_isub Z.x Z.b dX8_over_28 ?_
  refine lv_istore_n (lv' := [(3, .int ((168 - v2) - v5)), (0, .ref a0), (1, .int a1), (2, .int a2)]) Z.x Z.b dX8_over_29 rfl hl (by decide) rfl (fun ls hl => ?_)
  refine lv_iload_n Z.x Z.b dX8_over_30 rfl (lv_at hl 0 rfl) ?_
  refine lv_if_le (tgt := 38) Z.x Z.b dX8_over_31 (by decide) (fun c => ?_) (fun c => ?_)
  · have hf := zit hf c
    refine lv_iconst (v := 0) Z.x Z.b dX8_over_38 (by decide) ?_
    exact z_iret Z E hr dX8_over_39 hf
  · have hf := zif_ hf c
    refine lv_iload_n Z.x Z.b dX8_over_34 rfl (lv_at hl 0 rfl) ?_
    refine lv_goto (tgt := 39) Z.x Z.b dX8_over_35 (by decide) ?_
    exact z_iret Z E hr dX8_over_39 hf
set_option maxHeartbeats 4000000 in
set_option maxRecDepth 20000 in
theorem c_X8_over (l : Launch) (G : zG) (h : zHp) (h' : zHp) (a0 : Nat) (a1 : Int32) (a2 : Int32) (r : Int32) (hf : f_X8_over a0 a1 a2 h = some (r, h')) : zM0 l yX8_over cX8_over 4 (some .int) rm_X8_over G [.ref a0, .int a1, .int a2] h (zQi G r h') := by
  refine Met.ofW (cc := cX8_over) (maxL := 4) (ret := (some .int)) (by decide) rfl ?_
  intro p e s m args below meth c s₁ B hml hv
  obtain ⟨rfl, hW⟩ := hv
  obtain ⟨Z, E, hr⟩ := zEnter (own := RX8) B hml rfl hW
  have hl := lv_entry ([.ref a0, .int a1, .int a2]) (n := 4) (Nat.le_of_ble_eq_true rfl)
  rw [lg_entry_eq]
  generalize (lg_sl ([.ref a0, .int a1, .int a2]) ++ List.replicate (4 - (lg_sl ([.ref a0, .int a1, .int a2])).length) Slot.unset).toArray = ls at hl ⊢
  have hl : lv_has ls 4 [(0, .ref a0), (1, .int a1), (2, .int a2)] := hl
  exact t_X8_over (out := (r, h')) Z hr hf E hl
/-! FerryCrewsModel.overtime(II)I -/
theorem dX8_overtime_0 : decode cX8_overtime 0 = .ok (.aload_n 0, 1) := by decide +kernel
theorem dX8_overtime_1 : decode cX8_overtime 1 = .ok (.iload_n 1, 1) := by decide +kernel
theorem dX8_overtime_2 : decode cX8_overtime 2 = .ok (.invokevirtual 160, 3) := by decide +kernel
theorem dX8_overtime_5 : decode cX8_overtime 5 = .ok (.ifCond .eq 21, 3) := by decide +kernel
theorem dX8_overtime_8 : decode cX8_overtime 8 = .ok (.iload_n 2, 1) := by decide +kernel
theorem dX8_overtime_9 : decode cX8_overtime 9 = .ok (.iconst 0, 1) := by decide +kernel
theorem dX8_overtime_10 : decode cX8_overtime 10 = .ok (.iconst 5, 1) := by decide +kernel
theorem dX8_overtime_11 : decode cX8_overtime 11 = .ok (.invokestatic 42, 3) := by decide +kernel
theorem dX8_overtime_14 : decode cX8_overtime 14 = .ok (.ifCond .eq 12, 3) := by decide +kernel
theorem dX8_overtime_17 : decode cX8_overtime 17 = .ok (.aload_n 0, 1) := by decide +kernel
theorem dX8_overtime_18 : decode cX8_overtime 18 = .ok (.iload_n 1, 1) := by decide +kernel
theorem dX8_overtime_19 : decode cX8_overtime 19 = .ok (.iload_n 2, 1) := by decide +kernel
theorem dX8_overtime_20 : decode cX8_overtime 20 = .ok (.invokevirtual 210, 3) := by decide +kernel
theorem dX8_overtime_23 : decode cX8_overtime 23 = .ok (.goto 4, 3) := by decide +kernel
theorem dX8_overtime_26 : decode cX8_overtime 26 = .ok (.iconst (-1), 1) := by decide +kernel
theorem dX8_overtime_27 : decode cX8_overtime 27 = .ok (.ireturn, 1) := by decide +kernel
set_option maxRecDepth 20000 in
theorem wc_X8_over : Cond.code yX8_over cX8_over 4 (some .int) ∈ zB := List.mem_filter.mpr ⟨List.mem_of_getElem? (i := 1146) (by decide +kernel), by decide +kernel⟩
set_option maxRecDepth 20000 in
theorem wm_X8_210 : Cond.methodLink RX8 210 yX8_over ∈ zB := List.mem_filter.mpr ⟨List.mem_of_getElem? (i := 1143) (by decide +kernel), by decide +kernel⟩
theorem k_X8_210 : zCal RX8 210 yX8_over cX8_over 4 (some .int) 2 := ⟨wm_X8_210, wi_X8, wc_X8_over, by decide +kernel, by decide +kernel, by decide +kernel⟩
set_option maxRecDepth 20000 in
theorem wn_X8_over : Cond.instanceMethod yX8_over ∈ zB := List.mem_filter.mpr ⟨List.mem_of_getElem? (i := 1145) (by decide +kernel), by decide +kernel⟩
set_option maxRecDepth 20000 in
theorem ws_X8_over : Cond.selects RX8 yX8_over yX8_over ∈ zB := List.mem_filter.mpr ⟨List.mem_of_getElem? (i := 57) (by decide +kernel), by decide +kernel⟩
theorem v_X8_over : zVir yX8_over 8 := ⟨wn_X8_over, ws_X8_over, TX8, 12, rfl⟩
def rm_X8_overtime : Room := { frames := 6, cells := 0, slots := 0, locals := 137 }
set_option maxHeartbeats 4000000 in
set_option maxRecDepth 20000 in
theorem t_X8_overtime_26 {p : Program} {l : Launch} {e : Env} {s : State} {m : MethodId} {args : Array Value} {below : List Frame} {meth : Method} {c : Code} {G : zG} (Z : zF p s m args c meth cX8_overtime 3 RX8 G) (hr : meth.sig.returnType = (some .int)) {out : Int32 × zHp} {h : zHp} {H : Heap} {locs : List Loc} {ls : Array Slot} (hf : f_X8_overtime_26 h = some out) (E : zE G s h H locs) (hl : lv_has ls 3 []) : W p l e rm_X8_overtime s m args below meth c H locs 0 0 (MQ below (zQi G out.1 out.2) args s 0 0 (zA G)) (F0 m 26 ls []) := by
  unfold f_X8_overtime_26 at hf
  refine lv_iconst (v := (-1)) Z.x Z.b dX8_overtime_26 (by decide) ?_
  exact z_iret Z E hr dX8_overtime_27 hf
set_option maxHeartbeats 4000000 in
set_option maxRecDepth 20000 in
theorem t_X8_overtime {p : Program} {l : Launch} {e : Env} {s : State} {m : MethodId} {args : Array Value} {below : List Frame} {meth : Method} {c : Code} {G : zG} (Z : zF p s m args c meth cX8_overtime 3 RX8 G) (hr : meth.sig.returnType = (some .int)) {out : Int32 × zHp} {a0 : Nat} {a1 : Int32} {a2 : Int32} {h : zHp} {H : Heap} {locs : List Loc} {ls : Array Slot} (hf : f_X8_overtime a0 a1 a2 h = some out) (E : zE G s h H locs) (hl : lv_has ls 3 [(0, .ref a0), (1, .int a1), (2, .int a2)]) : W p l e rm_X8_overtime s m args below meth c H locs 0 0 (MQ below (zQi G out.1 out.2) args s 0 0 (zA G)) (F0 m 0 ls []) := by
  unfold f_X8_overtime at hf
  refine lv_aload_n Z.x Z.b dX8_overtime_0 rfl (lv_at hl 0 rfl) ?_
  refine lv_iload_n Z.x Z.b dX8_overtime_1 rfl (lv_at hl 1 rfl) ?_
  refine z_Vi (As := [.int a1]) Z E hl.1 k_X8_160 v_X8_isMember hf (fun r h' e => c_X8_isMember l G h h' a0 a1 r e) rfl rfl (Nat.le_of_ble_eq_true rfl) (zRm_of rfl (Nat.zero_le _) (Nat.zero_le _)) dX8_overtime_2 (fun v1 h2 H locs hf E => ?_)
  refine lv_if_eq (tgt := 26) Z.x Z.b dX8_overtime_5 (by decide) (fun c => ?_) (fun c => ?_)
  · have hf := zit hf c
    exact t_X8_overtime_26 Z hr hf E (lv_sub hl [] rfl)
  · have hf := zif_ hf c
    refine lv_iload_n Z.x Z.b dX8_overtime_8 rfl (lv_at hl 2 rfl) ?_
    refine lv_iconst (v := 0) Z.x Z.b dX8_overtime_9 (by decide) ?_
    refine lv_iconst (v := 5) Z.x Z.b dX8_overtime_10 (by decide) ?_
    refine z_Si (As := [.int a2, .int 0, .int 5]) Z E hl.1 k_X8_42 wt_X8_in hf (fun r h' e => c_X8_in l G h2 h' a2 0 5 r e) rfl rfl (Nat.le_of_ble_eq_true rfl) (zRm_of rfl (Nat.zero_le _) (Nat.zero_le _)) dX8_overtime_11 (fun v3 h4 H locs hf E => ?_)
    refine lv_if_eq (tgt := 26) Z.x Z.b dX8_overtime_14 (by decide) (fun c => ?_) (fun c => ?_)
    · have hf := zit hf c
      exact t_X8_overtime_26 Z hr hf E (lv_sub hl [] rfl)
    · have hf := zif_ hf c
      refine lv_aload_n Z.x Z.b dX8_overtime_17 rfl (lv_at hl 0 rfl) ?_
      refine lv_iload_n Z.x Z.b dX8_overtime_18 rfl (lv_at hl 1 rfl) ?_
      refine lv_iload_n Z.x Z.b dX8_overtime_19 rfl (lv_at hl 2 rfl) ?_
      refine z_Vi (As := [.int a1, .int a2]) Z E hl.1 k_X8_210 v_X8_over hf (fun r h' e => c_X8_over l G h4 h' a0 a1 a2 r e) rfl rfl (Nat.le_of_ble_eq_true rfl) (zRm_of rfl (Nat.zero_le _) (Nat.zero_le _)) dX8_overtime_20 (fun v5 h6 H locs hf E => ?_)
      refine lv_goto (tgt := 27) Z.x Z.b dX8_overtime_23 (by decide) ?_
      exact z_iret Z E hr dX8_overtime_27 hf
set_option maxHeartbeats 4000000 in
set_option maxRecDepth 20000 in
theorem c_X8_overtime (l : Launch) (G : zG) (h : zHp) (h' : zHp) (a0 : Nat) (a1 : Int32) (a2 : Int32) (r : Int32) (hf : f_X8_overtime a0 a1 a2 h = some (r, h')) : zM0 l yX8_overtime cX8_overtime 3 (some .int) rm_X8_overtime G [.ref a0, .int a1, .int a2] h (zQi G r h') := by
  refine Met.ofW (cc := cX8_overtime) (maxL := 3) (ret := (some .int)) (by decide) rfl ?_
  intro p e s m args below meth c s₁ B hml hv
  obtain ⟨rfl, hW⟩ := hv
  obtain ⟨Z, E, hr⟩ := zEnter (own := RX8) B hml rfl hW
  have hl := lv_entry ([.ref a0, .int a1, .int a2]) (n := 3) (Nat.le_of_ble_eq_true rfl)
  rw [lg_entry_eq]
  generalize (lg_sl ([.ref a0, .int a1, .int a2]) ++ List.replicate (3 - (lg_sl ([.ref a0, .int a1, .int a2])).length) Slot.unset).toArray = ls at hl ⊢
  have hl : lv_has ls 3 [(0, .ref a0), (1, .int a1), (2, .int a2)] := hl
  exact t_X8_overtime (out := (r, h')) Z hr hf E hl
/-! FerryCrewsModel.sailingsThat(I)I -/
theorem dX8_sailingsThat_0 : decode cX8_sailingsThat 0 = .ok (.iconst 0, 1) := by decide +kernel
theorem dX8_sailingsThat_1 : decode cX8_sailingsThat 1 = .ok (.istore_n 2, 1) := by decide +kernel
theorem dX8_sailingsThat_2 : decode cX8_sailingsThat 2 = .ok (.iconst 0, 1) := by decide +kernel
theorem dX8_sailingsThat_3 : decode cX8_sailingsThat 3 = .ok (.istore_n 3, 1) := by decide +kernel
theorem dX8_sailingsThat_4 : decode cX8_sailingsThat 4 = .ok (.iload_n 3, 1) := by decide +kernel
theorem dX8_sailingsThat_5 : decode cX8_sailingsThat 5 = .ok (.aload_n 0, 1) := by decide +kernel
theorem dX8_sailingsThat_6 : decode cX8_sailingsThat 6 = .ok (.getfield 7, 3) := by decide +kernel
theorem dX8_sailingsThat_9 : decode cX8_sailingsThat 9 = .ok (.iconst 1, 1) := by decide +kernel
theorem dX8_sailingsThat_10 : decode cX8_sailingsThat 10 = .ok (.iaload, 1) := by decide +kernel
theorem dX8_sailingsThat_11 : decode cX8_sailingsThat 11 = .ok (.if_icmp .ge 26, 3) := by decide +kernel
theorem dX8_sailingsThat_14 : decode cX8_sailingsThat 14 = .ok (.iload_n 2, 1) := by decide +kernel
theorem dX8_sailingsThat_15 : decode cX8_sailingsThat 15 = .ok (.aload_n 0, 1) := by decide +kernel
theorem dX8_sailingsThat_16 : decode cX8_sailingsThat 16 = .ok (.iload_n 3, 1) := by decide +kernel
theorem dX8_sailingsThat_17 : decode cX8_sailingsThat 17 = .ok (.iload_n 1, 1) := by decide +kernel
theorem dX8_sailingsThat_18 : decode cX8_sailingsThat 18 = .ok (.invokevirtual 62, 3) := by decide +kernel
theorem dX8_sailingsThat_21 : decode cX8_sailingsThat 21 = .ok (.ifCond .eq 7, 3) := by decide +kernel
theorem dX8_sailingsThat_24 : decode cX8_sailingsThat 24 = .ok (.iconst 1, 1) := by decide +kernel
theorem dX8_sailingsThat_25 : decode cX8_sailingsThat 25 = .ok (.goto 4, 3) := by decide +kernel
theorem dX8_sailingsThat_28 : decode cX8_sailingsThat 28 = .ok (.iconst 0, 1) := by decide +kernel
theorem dX8_sailingsThat_29 : decode cX8_sailingsThat 29 = .ok (.iadd, 1) := by decide +kernel
theorem dX8_sailingsThat_30 : decode cX8_sailingsThat 30 = .ok (.istore_n 2, 1) := by decide +kernel
theorem dX8_sailingsThat_31 : decode cX8_sailingsThat 31 = .ok (.iinc 3 1, 3) := by decide +kernel
theorem dX8_sailingsThat_34 : decode cX8_sailingsThat 34 = .ok (.goto (-30), 3) := by decide +kernel
theorem dX8_sailingsThat_37 : decode cX8_sailingsThat 37 = .ok (.iload_n 2, 1) := by decide +kernel
theorem dX8_sailingsThat_38 : decode cX8_sailingsThat 38 = .ok (.ireturn, 1) := by decide +kernel
def rm_X8_sailingsThat : Room := { frames := 2, cells := 0, slots := 0, locals := 44 }
set_option maxHeartbeats 4000000 in
set_option maxRecDepth 20000 in
theorem t_X8_sailingsThat_29 {p : Program} {l : Launch} {e : Env} {s : State} {m : MethodId} {args : Array Value} {below : List Frame} {meth : Method} {c : Code} {G : zG} (Z : zF p s m args c meth cX8_sailingsThat 4 RX8 G) (hr : meth.sig.returnType = (some .int)) {out : Int32 × zHp} {r4 : Nat → Int32 → Int32 → Int32 → zHp → Option (Int32 × zHp)} (k4 : ∀ {a0 : Nat} {a1 : Int32} {a2 : Int32} {a3 : Int32} {h : zHp} {H : Heap} {locs : List Loc} {ls : Array Slot}, r4 a0 a1 a2 a3 h = some out → zE G s h H locs → lv_has ls 4 [(0, .ref a0), (1, .int a1), (2, .int a2), (3, .int a3)] → W p l e rm_X8_sailingsThat s m args below meth c H locs 0 0 (MQ below (zQi G out.1 out.2) args s 0 0 (zA G)) (F0 m 4 ls [])) {a0 : Nat} {a1 : Int32} {a3 : Int32} {s0 : Int32} {s1 : Int32} {h : zHp} {H : Heap} {locs : List Loc} {ls : Array Slot} (hf : f_X8_sailingsThat_29 r4 a0 a1 a3 s0 s1 h = some out) (E : zE G s h H locs) (hl : lv_has ls 4 [(0, .ref a0), (1, .int a1), (3, .int a3)]) : W p l e rm_X8_sailingsThat s m args below meth c H locs 0 0 (MQ below (zQi G out.1 out.2) args s 0 0 (zA G)) (F0 m 29 ls [.int s0, .int s1]) := by
  unfold f_X8_sailingsThat_29 at hf
  refine lv_iadd Z.x Z.b dX8_sailingsThat_29 ?_
  refine lv_istore_n (lv' := [(2, .int (s1 + s0)), (0, .ref a0), (1, .int a1), (3, .int a3)]) Z.x Z.b dX8_sailingsThat_30 rfl hl (by decide) rfl (fun ls hl => ?_)
  refine lv_iinc (v := (a3 + 1)) (lv' := [(3, .int (a3 + 1)), (2, .int (s1 + s0)), (0, .ref a0), (1, .int a1)]) Z.x Z.b dX8_sailingsThat_31 hl (k := 3) rfl rfl (by decide) rfl (fun ls hl => ?_)
  refine lv_goto (tgt := 4) Z.x Z.b dX8_sailingsThat_34 (by decide) ?_
  exact k4 hf E (lv_sub hl [2, 3, 1, 0] rfl)
set_option maxHeartbeats 4000000 in
set_option maxRecDepth 20000 in
theorem t_X8_sailingsThat_4_body {p : Program} {l : Launch} {e : Env} {s : State} {m : MethodId} {args : Array Value} {below : List Frame} {meth : Method} {c : Code} {G : zG} (Z : zF p s m args c meth cX8_sailingsThat 4 RX8 G) (hr : meth.sig.returnType = (some .int)) {out : Int32 × zHp} {r4 : Nat → Int32 → Int32 → Int32 → zHp → Option (Int32 × zHp)} (k4 : ∀ {a0 : Nat} {a1 : Int32} {a2 : Int32} {a3 : Int32} {h : zHp} {H : Heap} {locs : List Loc} {ls : Array Slot}, r4 a0 a1 a2 a3 h = some out → zE G s h H locs → lv_has ls 4 [(0, .ref a0), (1, .int a1), (2, .int a2), (3, .int a3)] → W p l e rm_X8_sailingsThat s m args below meth c H locs 0 0 (MQ below (zQi G out.1 out.2) args s 0 0 (zA G)) (F0 m 4 ls [])) {a0 : Nat} {a1 : Int32} {a2 : Int32} {a3 : Int32} {h : zHp} {H : Heap} {locs : List Loc} {ls : Array Slot} (hf : f_X8_sailingsThat_4_body r4 a0 a1 a2 a3 h = some out) (E : zE G s h H locs) (hl : lv_has ls 4 [(0, .ref a0), (1, .int a1), (2, .int a2), (3, .int a3)]) : W p l e rm_X8_sailingsThat s m args below meth c H locs 0 0 (MQ below (zQi G out.1 out.2) args s 0 0 (zA G)) (F0 m 4 ls []) := by
  unfold f_X8_sailingsThat_4_body at hf
  refine lv_iload_n Z.x Z.b dX8_sailingsThat_4 rfl (lv_at hl 3 rfl) ?_
  refine lv_aload_n Z.x Z.b dX8_sailingsThat_5 rfl (lv_at hl 0 rfl) ?_
  refine z_getR Z E q_X8_7 dX8_sailingsThat_6 hf (fun v1 hf => ?_)
  refine lv_iconst (v := 1) Z.x Z.b dX8_sailingsThat_9 (by decide) ?_
  refine z_iald Z E dX8_sailingsThat_10 hf (fun v2 hf => ?_)
  refine lv_icmp_ge (tgt := 37) Z.x Z.b dX8_sailingsThat_11 (by decide) (fun c => ?_) (fun c => ?_)
  · have hf := zit hf c
    refine lv_iload_n Z.x Z.b dX8_sailingsThat_37 rfl (lv_at hl 2 rfl) ?_
    exact z_iret Z E hr dX8_sailingsThat_38 hf
  · have hf := zif_ hf c
    refine lv_iload_n Z.x Z.b dX8_sailingsThat_14 rfl (lv_at hl 2 rfl) ?_
    refine lv_aload_n Z.x Z.b dX8_sailingsThat_15 rfl (lv_at hl 0 rfl) ?_
    refine lv_iload_n Z.x Z.b dX8_sailingsThat_16 rfl (lv_at hl 3 rfl) ?_
    refine lv_iload_n Z.x Z.b dX8_sailingsThat_17 rfl (lv_at hl 1 rfl) ?_
    refine z_Vi (As := [.int a3, .int a1]) Z E hl.1 k_X8_62 v_X8_is hf (fun r h' e => c_X8_is l G h h' a0 a3 a1 r e) rfl rfl (Nat.le_of_ble_eq_true rfl) (zRm_of rfl (Nat.zero_le _) (Nat.zero_le _)) dX8_sailingsThat_18 (fun v3 h4 H locs hf E => ?_)
    refine lv_if_eq (tgt := 28) Z.x Z.b dX8_sailingsThat_21 (by decide) (fun c => ?_) (fun c => ?_)
    · have hf := zit hf c
      refine lv_iconst (v := 0) Z.x Z.b dX8_sailingsThat_28 (by decide) ?_
      exact t_X8_sailingsThat_29 Z hr k4 hf E (lv_sub hl [0, 1, 3] rfl)
    · have hf := zif_ hf c
      refine lv_iconst (v := 1) Z.x Z.b dX8_sailingsThat_24 (by decide) ?_
      refine lv_goto (tgt := 29) Z.x Z.b dX8_sailingsThat_25 (by decide) ?_
      exact t_X8_sailingsThat_29 Z hr k4 hf E (lv_sub hl [0, 1, 3] rfl)
theorem t_X8_sailingsThat_4 {p : Program} {l : Launch} {e : Env} {s : State} {m : MethodId} {args : Array Value} {below : List Frame} {meth : Method} {c : Code} {G : zG} (Z : zF p s m args c meth cX8_sailingsThat 4 RX8 G) (hr : meth.sig.returnType = (some .int)) {out : Int32 × zHp} : ∀ (n : Nat), ∀ {a0 : Nat} {a1 : Int32} {a2 : Int32} {a3 : Int32} {h : zHp} {H : Heap} {locs : List Loc} {ls : Array Slot}, f_X8_sailingsThat_4 n a0 a1 a2 a3 h = some out → zE G s h H locs → lv_has ls 4 [(0, .ref a0), (1, .int a1), (2, .int a2), (3, .int a3)] → W p l e rm_X8_sailingsThat s m args below meth c H locs 0 0 (MQ below (zQi G out.1 out.2) args s 0 0 (zA G)) (F0 m 4 ls [])
  | 0 => fun hf => by cases hf
  | n + 1 => fun hf E hl => t_X8_sailingsThat_4_body Z hr (r4 := f_X8_sailingsThat_4 n) (t_X8_sailingsThat_4 Z hr n) hf E hl
set_option maxHeartbeats 4000000 in
set_option maxRecDepth 20000 in
theorem t_X8_sailingsThat {p : Program} {l : Launch} {e : Env} {s : State} {m : MethodId} {args : Array Value} {below : List Frame} {meth : Method} {c : Code} {G : zG} (Z : zF p s m args c meth cX8_sailingsThat 4 RX8 G) (hr : meth.sig.returnType = (some .int)) {out : Int32 × zHp} {a0 : Nat} {a1 : Int32} {h : zHp} {H : Heap} {locs : List Loc} {ls : Array Slot} (hf : f_X8_sailingsThat a0 a1 h = some out) (E : zE G s h H locs) (hl : lv_has ls 4 [(0, .ref a0), (1, .int a1)]) : W p l e rm_X8_sailingsThat s m args below meth c H locs 0 0 (MQ below (zQi G out.1 out.2) args s 0 0 (zA G)) (F0 m 0 ls []) := by
  unfold f_X8_sailingsThat at hf
  refine lv_iconst (v := 0) Z.x Z.b dX8_sailingsThat_0 (by decide) ?_
  refine lv_istore_n (lv' := [(2, .int 0), (0, .ref a0), (1, .int a1)]) Z.x Z.b dX8_sailingsThat_1 rfl hl (by decide) rfl (fun ls hl => ?_)
  refine lv_iconst (v := 0) Z.x Z.b dX8_sailingsThat_2 (by decide) ?_
  refine lv_istore_n (lv' := [(3, .int 0), (2, .int 0), (0, .ref a0), (1, .int a1)]) Z.x Z.b dX8_sailingsThat_3 rfl hl (by decide) rfl (fun ls hl => ?_)
  exact t_X8_sailingsThat_4 Z hr zN hf E (lv_sub hl [2, 3, 1, 0] rfl)
set_option maxHeartbeats 4000000 in
set_option maxRecDepth 20000 in
theorem c_X8_sailingsThat (l : Launch) (G : zG) (h : zHp) (h' : zHp) (a0 : Nat) (a1 : Int32) (r : Int32) (hf : f_X8_sailingsThat a0 a1 h = some (r, h')) : zM0 l yX8_sailingsThat cX8_sailingsThat 4 (some .int) rm_X8_sailingsThat G [.ref a0, .int a1] h (zQi G r h') := by
  refine Met.ofW (cc := cX8_sailingsThat) (maxL := 4) (ret := (some .int)) (by decide) rfl ?_
  intro p e s m args below meth c s₁ B hml hv
  obtain ⟨rfl, hW⟩ := hv
  obtain ⟨Z, E, hr⟩ := zEnter (own := RX8) B hml rfl hW
  have hl := lv_entry ([.ref a0, .int a1]) (n := 4) (Nat.le_of_ble_eq_true rfl)
  rw [lg_entry_eq]
  generalize (lg_sl ([.ref a0, .int a1]) ++ List.replicate (4 - (lg_sl ([.ref a0, .int a1])).length) Slot.unset).toArray = ls at hl ⊢
  have hl : lv_has ls 4 [(0, .ref a0), (1, .int a1)] := hl
  exact t_X8_sailingsThat (out := (r, h')) Z hr hf E hl
/-! FerryCrewsModel.count(I)I -/
theorem dX8_count_0 : decode cX8_count 0 = .ok (.iload_n 1, 1) := by decide +kernel
theorem dX8_count_1 : decode cX8_count 1 = .ok (.iconst 2, 1) := by decide +kernel
theorem dX8_count_2 : decode cX8_count 2 = .ok (.iconst 4, 1) := by decide +kernel
theorem dX8_count_3 : decode cX8_count 3 = .ok (.invokestatic 42, 3) := by decide +kernel
theorem dX8_count_6 : decode cX8_count 6 = .ok (.ifCond .eq 11, 3) := by decide +kernel
theorem dX8_count_9 : decode cX8_count 9 = .ok (.aload_n 0, 1) := by decide +kernel
theorem dX8_count_10 : decode cX8_count 10 = .ok (.iload_n 1, 1) := by decide +kernel
theorem dX8_count_11 : decode cX8_count 11 = .ok (.iconst 2, 1) := by decide +kernel
theorem dX8_count_12 : decode cX8_count 12 = .ok (.isub, 1) := by decide +kernel
theorem dX8_count_13 : decode cX8_count 13 = .ok (.invokevirtual 213, 3) := by decide +kernel
theorem dX8_count_16 : decode cX8_count 16 = .ok (.ireturn, 1) := by decide +kernel
theorem dX8_count_17 : decode cX8_count 17 = .ok (.iload_n 1, 1) := by decide +kernel
theorem dX8_count_18 : decode cX8_count 18 = .ok (.bipush 13, 2) := by decide +kernel
theorem dX8_count_20 : decode cX8_count 20 = .ok (.bipush 17, 2) := by decide +kernel
theorem dX8_count_22 : decode cX8_count 22 = .ok (.invokestatic 42, 3) := by decide +kernel
theorem dX8_count_25 : decode cX8_count 25 = .ok (.ifCond .eq 15, 3) := by decide +kernel
theorem dX8_count_28 : decode cX8_count 28 = .ok (.aload_n 0, 1) := by decide +kernel
theorem dX8_count_29 : decode cX8_count 29 = .ok (.getfield 7, 3) := by decide +kernel
theorem dX8_count_32 : decode cX8_count 32 = .ok (.iconst 4, 1) := by decide +kernel
theorem dX8_count_33 : decode cX8_count 33 = .ok (.iload_n 1, 1) := by decide +kernel
theorem dX8_count_34 : decode cX8_count 34 = .ok (.iadd, 1) := by decide +kernel
theorem dX8_count_35 : decode cX8_count 35 = .ok (.bipush 13, 2) := by decide +kernel
theorem dX8_count_37 : decode cX8_count 37 = .ok (.isub, 1) := by decide +kernel
theorem dX8_count_38 : decode cX8_count 38 = .ok (.iaload, 1) := by decide +kernel
theorem dX8_count_39 : decode cX8_count 39 = .ok (.ireturn, 1) := by decide +kernel
theorem dX8_count_40 : decode cX8_count 40 = .ok (.iconst 0, 1) := by decide +kernel
theorem dX8_count_41 : decode cX8_count 41 = .ok (.istore_n 2, 1) := by decide +kernel
theorem dX8_count_42 : decode cX8_count 42 = .ok (.iconst 0, 1) := by decide +kernel
theorem dX8_count_43 : decode cX8_count 43 = .ok (.istore_n 3, 1) := by decide +kernel
theorem dX8_count_44 : decode cX8_count 44 = .ok (.iconst 0, 1) := by decide +kernel
theorem dX8_count_45 : decode cX8_count 45 = .ok (.istore 4, 2) := by decide +kernel
theorem dX8_count_47 : decode cX8_count 47 = .ok (.iconst 0, 1) := by decide +kernel
theorem dX8_count_48 : decode cX8_count 48 = .ok (.istore 5, 2) := by decide +kernel
theorem dX8_count_50 : decode cX8_count 50 = .ok (.iconst 0, 1) := by decide +kernel
theorem dX8_count_51 : decode cX8_count 51 = .ok (.istore 6, 2) := by decide +kernel
theorem dX8_count_53 : decode cX8_count 53 = .ok (.iload 6, 2) := by decide +kernel
theorem dX8_count_55 : decode cX8_count 55 = .ok (.aload_n 0, 1) := by decide +kernel
theorem dX8_count_56 : decode cX8_count 56 = .ok (.getfield 7, 3) := by decide +kernel
theorem dX8_count_59 : decode cX8_count 59 = .ok (.iconst 2, 1) := by decide +kernel
theorem dX8_count_60 : decode cX8_count 60 = .ok (.iaload, 1) := by decide +kernel
theorem dX8_count_61 : decode cX8_count 61 = .ok (.if_icmp .ge 59, 3) := by decide +kernel
theorem dX8_count_64 : decode cX8_count 64 = .ok (.iload_n 2, 1) := by decide +kernel
theorem dX8_count_65 : decode cX8_count 65 = .ok (.aload_n 0, 1) := by decide +kernel
theorem dX8_count_66 : decode cX8_count 66 = .ok (.iload 6, 2) := by decide +kernel
theorem dX8_count_68 : decode cX8_count 68 = .ok (.invokevirtual 89, 3) := by decide +kernel
theorem dX8_count_71 : decode cX8_count 71 = .ok (.ifCond .eq 7, 3) := by decide +kernel
theorem dX8_count_74 : decode cX8_count 74 = .ok (.iconst 1, 1) := by decide +kernel
theorem dX8_count_75 : decode cX8_count 75 = .ok (.goto 4, 3) := by decide +kernel
theorem dX8_count_78 : decode cX8_count 78 = .ok (.iconst 0, 1) := by decide +kernel
theorem dX8_count_79 : decode cX8_count 79 = .ok (.iadd, 1) := by decide +kernel
theorem dX8_count_80 : decode cX8_count 80 = .ok (.istore_n 2, 1) := by decide +kernel
theorem dX8_count_81 : decode cX8_count 81 = .ok (.iconst 0, 1) := by decide +kernel
theorem dX8_count_82 : decode cX8_count 82 = .ok (.istore 7, 2) := by decide +kernel
theorem dX8_count_84 : decode cX8_count 84 = .ok (.iload 7, 2) := by decide +kernel
theorem dX8_count_86 : decode cX8_count 86 = .ok (.bipush 6, 2) := by decide +kernel
theorem dX8_count_88 : decode cX8_count 88 = .ok (.if_icmp .ge 26, 3) := by decide +kernel
theorem dX8_count_91 : decode cX8_count 91 = .ok (.iload_n 1, 1) := by decide +kernel
theorem dX8_count_92 : decode cX8_count 92 = .ok (.bipush 10, 2) := by decide +kernel
theorem dX8_count_94 : decode cX8_count 94 = .ok (.if_icmp .ne 20, 3) := by decide +kernel
theorem dX8_count_97 : decode cX8_count 97 = .ok (.iload_n 3, 1) := by decide +kernel
theorem dX8_count_98 : decode cX8_count 98 = .ok (.aload_n 0, 1) := by decide +kernel
theorem dX8_count_99 : decode cX8_count 99 = .ok (.iload 6, 2) := by decide +kernel
theorem dX8_count_101 : decode cX8_count 101 = .ok (.iload 7, 2) := by decide +kernel
theorem dX8_count_103 : decode cX8_count 103 = .ok (.invokevirtual 210, 3) := by decide +kernel
theorem dX8_count_106 : decode cX8_count 106 = .ok (.iadd, 1) := by decide +kernel
theorem dX8_count_107 : decode cX8_count 107 = .ok (.istore_n 3, 1) := by decide +kernel
theorem dX8_count_108 : decode cX8_count 108 = .ok (.iinc 7 1, 3) := by decide +kernel
theorem dX8_count_111 : decode cX8_count 111 = .ok (.goto (-27), 3) := by decide +kernel
theorem dX8_count_114 : decode cX8_count 114 = .ok (.iinc 6 1, 3) := by decide +kernel
theorem dX8_count_117 : decode cX8_count 117 = .ok (.goto (-64), 3) := by decide +kernel
theorem dX8_count_120 : decode cX8_count 120 = .ok (.iconst 0, 1) := by decide +kernel
theorem dX8_count_121 : decode cX8_count 121 = .ok (.istore 6, 2) := by decide +kernel
theorem dX8_count_123 : decode cX8_count 123 = .ok (.iload 6, 2) := by decide +kernel
theorem dX8_count_125 : decode cX8_count 125 = .ok (.aload_n 0, 1) := by decide +kernel
theorem dX8_count_126 : decode cX8_count 126 = .ok (.getfield 7, 3) := by decide +kernel
theorem dX8_count_129 : decode cX8_count 129 = .ok (.iconst 1, 1) := by decide +kernel
theorem dX8_count_130 : decode cX8_count 130 = .ok (.iaload, 1) := by decide +kernel
theorem dX8_count_131 : decode cX8_count 131 = .ok (.if_icmp .ge 59, 3) := by decide +kernel
theorem dX8_count_134 : decode cX8_count 134 = .ok (.iload 4, 2) := by decide +kernel
theorem dX8_count_136 : decode cX8_count 136 = .ok (.aload_n 0, 1) := by decide +kernel
theorem dX8_count_137 : decode cX8_count 137 = .ok (.iload 6, 2) := by decide +kernel
theorem dX8_count_139 : decode cX8_count 139 = .ok (.iconst 0, 1) := by decide +kernel
theorem dX8_count_140 : decode cX8_count 140 = .ok (.invokevirtual 62, 3) := by decide +kernel
theorem dX8_count_143 : decode cX8_count 143 = .ok (.ifCond .eq 12, 3) := by decide +kernel
theorem dX8_count_146 : decode cX8_count 146 = .ok (.aload_n 0, 1) := by decide +kernel
theorem dX8_count_147 : decode cX8_count 147 = .ok (.iload 6, 2) := by decide +kernel
theorem dX8_count_149 : decode cX8_count 149 = .ok (.invokevirtual 116, 3) := by decide +kernel
theorem dX8_count_152 : decode cX8_count 152 = .ok (.goto 4, 3) := by decide +kernel
theorem dX8_count_155 : decode cX8_count 155 = .ok (.iconst 0, 1) := by decide +kernel
theorem dX8_count_156 : decode cX8_count 156 = .ok (.iadd, 1) := by decide +kernel
theorem dX8_count_157 : decode cX8_count 157 = .ok (.istore 4, 2) := by decide +kernel
theorem dX8_count_159 : decode cX8_count 159 = .ok (.iload 5, 2) := by decide +kernel
theorem dX8_count_161 : decode cX8_count 161 = .ok (.aload_n 0, 1) := by decide +kernel
theorem dX8_count_162 : decode cX8_count 162 = .ok (.iload 6, 2) := by decide +kernel
theorem dX8_count_164 : decode cX8_count 164 = .ok (.iconst 0, 1) := by decide +kernel
theorem dX8_count_165 : decode cX8_count 165 = .ok (.invokevirtual 62, 3) := by decide +kernel
theorem dX8_count_168 : decode cX8_count 168 = .ok (.ifCond .eq 12, 3) := by decide +kernel
theorem dX8_count_171 : decode cX8_count 171 = .ok (.aload_n 0, 1) := by decide +kernel
theorem dX8_count_172 : decode cX8_count 172 = .ok (.iload 6, 2) := by decide +kernel
theorem dX8_count_174 : decode cX8_count 174 = .ok (.invokevirtual 56, 3) := by decide +kernel
theorem dX8_count_177 : decode cX8_count 177 = .ok (.goto 4, 3) := by decide +kernel
theorem dX8_count_180 : decode cX8_count 180 = .ok (.iconst 0, 1) := by decide +kernel
theorem dX8_count_181 : decode cX8_count 181 = .ok (.iadd, 1) := by decide +kernel
theorem dX8_count_182 : decode cX8_count 182 = .ok (.istore 5, 2) := by decide +kernel
theorem dX8_count_184 : decode cX8_count 184 = .ok (.iinc 6 1, 3) := by decide +kernel
theorem dX8_count_187 : decode cX8_count 187 = .ok (.goto (-64), 3) := by decide +kernel
theorem dX8_count_190 : decode cX8_count 190 = .ok (.iload_n 1, 1) := by decide +kernel
theorem dX8_count_191 : decode cX8_count 191 = .ok (.tableswitch 113 0 12 #[65, 72, 113, 113, 113, 79, 86, 88, 91, 94, 101, 103, 108], 65) := by decide +kernel
theorem dX8_count_256 : decode cX8_count 256 = .ok (.aload_n 0, 1) := by decide +kernel
theorem dX8_count_257 : decode cX8_count 257 = .ok (.getfield 7, 3) := by decide +kernel
theorem dX8_count_260 : decode cX8_count 260 = .ok (.iconst 0, 1) := by decide +kernel
theorem dX8_count_261 : decode cX8_count 261 = .ok (.iaload, 1) := by decide +kernel
theorem dX8_count_262 : decode cX8_count 262 = .ok (.ireturn, 1) := by decide +kernel
theorem dX8_count_263 : decode cX8_count 263 = .ok (.aload_n 0, 1) := by decide +kernel
theorem dX8_count_264 : decode cX8_count 264 = .ok (.getfield 7, 3) := by decide +kernel
theorem dX8_count_267 : decode cX8_count 267 = .ok (.iconst 1, 1) := by decide +kernel
theorem dX8_count_268 : decode cX8_count 268 = .ok (.iaload, 1) := by decide +kernel
theorem dX8_count_269 : decode cX8_count 269 = .ok (.ireturn, 1) := by decide +kernel
theorem dX8_count_270 : decode cX8_count 270 = .ok (.aload_n 0, 1) := by decide +kernel
theorem dX8_count_271 : decode cX8_count 271 = .ok (.getfield 7, 3) := by decide +kernel
theorem dX8_count_274 : decode cX8_count 274 = .ok (.iconst 2, 1) := by decide +kernel
theorem dX8_count_275 : decode cX8_count 275 = .ok (.iaload, 1) := by decide +kernel
theorem dX8_count_276 : decode cX8_count 276 = .ok (.ireturn, 1) := by decide +kernel
theorem dX8_count_277 : decode cX8_count 277 = .ok (.iload_n 2, 1) := by decide +kernel
theorem dX8_count_278 : decode cX8_count 278 = .ok (.ireturn, 1) := by decide +kernel
theorem dX8_count_279 : decode cX8_count 279 = .ok (.iload 4, 2) := by decide +kernel
theorem dX8_count_281 : decode cX8_count 281 = .ok (.ireturn, 1) := by decide +kernel
theorem dX8_count_282 : decode cX8_count 282 = .ok (.iload 5, 2) := by decide +kernel
theorem dX8_count_284 : decode cX8_count 284 = .ok (.ireturn, 1) := by decide +kernel
theorem dX8_count_285 : decode cX8_count 285 = .ok (.aload_n 0, 1) := by decide +kernel
theorem dX8_count_286 : decode cX8_count 286 = .ok (.getfield 7, 3) := by decide +kernel
theorem dX8_count_289 : decode cX8_count 289 = .ok (.iconst 3, 1) := by decide +kernel
theorem dX8_count_290 : decode cX8_count 290 = .ok (.iaload, 1) := by decide +kernel
theorem dX8_count_291 : decode cX8_count 291 = .ok (.ireturn, 1) := by decide +kernel
theorem dX8_count_292 : decode cX8_count 292 = .ok (.iload_n 3, 1) := by decide +kernel
theorem dX8_count_293 : decode cX8_count 293 = .ok (.ireturn, 1) := by decide +kernel
theorem dX8_count_294 : decode cX8_count 294 = .ok (.aload_n 0, 1) := by decide +kernel
theorem dX8_count_295 : decode cX8_count 295 = .ok (.getfield 34, 3) := by decide +kernel
theorem dX8_count_298 : decode cX8_count 298 = .ok (.ireturn, 1) := by decide +kernel
theorem dX8_count_299 : decode cX8_count 299 = .ok (.aload_n 0, 1) := by decide +kernel
theorem dX8_count_300 : decode cX8_count 300 = .ok (.getfield 182, 3) := by decide +kernel
theorem dX8_count_303 : decode cX8_count 303 = .ok (.ireturn, 1) := by decide +kernel
theorem dX8_count_304 : decode cX8_count 304 = .ok (.bipush (-2), 2) := by decide +kernel
theorem dX8_count_306 : decode cX8_count 306 = .ok (.ireturn, 1) := by decide +kernel
set_option maxRecDepth 20000 in
theorem wc_X8_sailingsThat : Cond.code yX8_sailingsThat cX8_sailingsThat 4 (some .int) ∈ zB := List.mem_filter.mpr ⟨List.mem_of_getElem? (i := 1154) (by decide +kernel), by decide +kernel⟩
set_option maxRecDepth 20000 in
theorem wm_X8_213 : Cond.methodLink RX8 213 yX8_sailingsThat ∈ zB := List.mem_filter.mpr ⟨List.mem_of_getElem? (i := 1151) (by decide +kernel), by decide +kernel⟩
theorem k_X8_213 : zCal RX8 213 yX8_sailingsThat cX8_sailingsThat 4 (some .int) 1 := ⟨wm_X8_213, wi_X8, wc_X8_sailingsThat, by decide +kernel, by decide +kernel, by decide +kernel⟩
set_option maxRecDepth 20000 in
theorem wn_X8_sailingsThat : Cond.instanceMethod yX8_sailingsThat ∈ zB := List.mem_filter.mpr ⟨List.mem_of_getElem? (i := 1153) (by decide +kernel), by decide +kernel⟩
set_option maxRecDepth 20000 in
theorem ws_X8_sailingsThat : Cond.selects RX8 yX8_sailingsThat yX8_sailingsThat ∈ zB := List.mem_filter.mpr ⟨List.mem_of_getElem? (i := 58) (by decide +kernel), by decide +kernel⟩
theorem v_X8_sailingsThat : zVir yX8_sailingsThat 8 := ⟨wn_X8_sailingsThat, ws_X8_sailingsThat, TX8, 12, rfl⟩
def rm_X8_count : Room := { frames := 6, cells := 0, slots := 0, locals := 137 }
set_option maxHeartbeats 4000000 in
set_option maxRecDepth 20000 in
theorem t_X8_count_181 {p : Program} {l : Launch} {e : Env} {s : State} {m : MethodId} {args : Array Value} {below : List Frame} {meth : Method} {c : Code} {G : zG} (Z : zF p s m args c meth cX8_count 8 RX8 G) (hr : meth.sig.returnType = (some .int)) {out : Int32 × zHp} {r123 : Nat → Int32 → Int32 → Int32 → Int32 → Int32 → Int32 → zHp → Option (Int32 × zHp)} (k123 : ∀ {a0 : Nat} {a1 : Int32} {a2 : Int32} {a3 : Int32} {a4 : Int32} {a5 : Int32} {a6 : Int32} {h : zHp} {H : Heap} {locs : List Loc} {ls : Array Slot}, r123 a0 a1 a2 a3 a4 a5 a6 h = some out → zE G s h H locs → lv_has ls 8 [(0, .ref a0), (1, .int a1), (2, .int a2), (3, .int a3), (4, .int a4), (5, .int a5), (6, .int a6)] → W p l e rm_X8_count s m args below meth c H locs 0 0 (MQ below (zQi G out.1 out.2) args s 0 0 (zA G)) (F0 m 123 ls [])) {a0 : Nat} {a1 : Int32} {a2 : Int32} {a3 : Int32} {a4 : Int32} {a6 : Int32} {s0 : Int32} {s1 : Int32} {h : zHp} {H : Heap} {locs : List Loc} {ls : Array Slot} (hf : f_X8_count_181 r123 a0 a1 a2 a3 a4 a6 s0 s1 h = some out) (E : zE G s h H locs) (hl : lv_has ls 8 [(0, .ref a0), (1, .int a1), (2, .int a2), (3, .int a3), (4, .int a4), (6, .int a6)]) : W p l e rm_X8_count s m args below meth c H locs 0 0 (MQ below (zQi G out.1 out.2) args s 0 0 (zA G)) (F0 m 181 ls [.int s0, .int s1]) := by
  unfold f_X8_count_181 at hf
  refine lv_iadd Z.x Z.b dX8_count_181 ?_
  refine lv_istore (lv' := [(5, .int (s1 + s0)), (0, .ref a0), (1, .int a1), (2, .int a2), (3, .int a3), (4, .int a4), (6, .int a6)]) Z.x Z.b dX8_count_182 hl (by decide) rfl (fun ls hl => ?_)
  refine lv_iinc (v := (a6 + 1)) (lv' := [(6, .int (a6 + 1)), (5, .int (s1 + s0)), (0, .ref a0), (1, .int a1), (2, .int a2), (3, .int a3), (4, .int a4)]) Z.x Z.b dX8_count_184 hl (k := 6) rfl rfl (by decide) rfl (fun ls hl => ?_)
  refine lv_goto (tgt := 123) Z.x Z.b dX8_count_187 (by decide) ?_
  exact k123 hf E (lv_sub hl [2, 3, 4, 5, 6, 1, 0] rfl)
set_option maxHeartbeats 4000000 in
set_option maxRecDepth 20000 in
theorem t_X8_count_156 {p : Program} {l : Launch} {e : Env} {s : State} {m : MethodId} {args : Array Value} {below : List Frame} {meth : Method} {c : Code} {G : zG} (Z : zF p s m args c meth cX8_count 8 RX8 G) (hr : meth.sig.returnType = (some .int)) {out : Int32 × zHp} {r123 : Nat → Int32 → Int32 → Int32 → Int32 → Int32 → Int32 → zHp → Option (Int32 × zHp)} (k123 : ∀ {a0 : Nat} {a1 : Int32} {a2 : Int32} {a3 : Int32} {a4 : Int32} {a5 : Int32} {a6 : Int32} {h : zHp} {H : Heap} {locs : List Loc} {ls : Array Slot}, r123 a0 a1 a2 a3 a4 a5 a6 h = some out → zE G s h H locs → lv_has ls 8 [(0, .ref a0), (1, .int a1), (2, .int a2), (3, .int a3), (4, .int a4), (5, .int a5), (6, .int a6)] → W p l e rm_X8_count s m args below meth c H locs 0 0 (MQ below (zQi G out.1 out.2) args s 0 0 (zA G)) (F0 m 123 ls [])) {a0 : Nat} {a1 : Int32} {a2 : Int32} {a3 : Int32} {a5 : Int32} {a6 : Int32} {s0 : Int32} {s1 : Int32} {h : zHp} {H : Heap} {locs : List Loc} {ls : Array Slot} (hf : f_X8_count_156 r123 a0 a1 a2 a3 a5 a6 s0 s1 h = some out) (E : zE G s h H locs) (hl : lv_has ls 8 [(0, .ref a0), (1, .int a1), (2, .int a2), (3, .int a3), (5, .int a5), (6, .int a6)]) : W p l e rm_X8_count s m args below meth c H locs 0 0 (MQ below (zQi G out.1 out.2) args s 0 0 (zA G)) (F0 m 156 ls [.int s0, .int s1]) := by
  unfold f_X8_count_156 at hf
  refine lv_iadd Z.x Z.b dX8_count_156 ?_
  refine lv_istore (lv' := [(4, .int (s1 + s0)), (0, .ref a0), (1, .int a1), (2, .int a2), (3, .int a3), (5, .int a5), (6, .int a6)]) Z.x Z.b dX8_count_157 hl (by decide) rfl (fun ls hl => ?_)
  refine lv_iload Z.x Z.b dX8_count_159 (lv_at hl 5 rfl) ?_
  refine lv_aload_n Z.x Z.b dX8_count_161 rfl (lv_at hl 1 rfl) ?_
  refine lv_iload Z.x Z.b dX8_count_162 (lv_at hl 6 rfl) ?_
  refine lv_iconst (v := 0) Z.x Z.b dX8_count_164 (by decide) ?_
  refine z_Vi (As := [.int a6, .int 0]) Z E hl.1 k_X8_62 v_X8_is hf (fun r h' e => c_X8_is l G h h' a0 a6 0 r e) rfl rfl (Nat.le_of_ble_eq_true rfl) (zRm_of rfl (Nat.zero_le _) (Nat.zero_le _)) dX8_count_165 (fun v1 h2 H locs hf E => ?_)
  refine lv_if_eq (tgt := 180) Z.x Z.b dX8_count_168 (by decide) (fun c => ?_) (fun c => ?_)
  · have hf := zit hf c
    refine lv_iconst (v := 0) Z.x Z.b dX8_count_180 (by decide) ?_
    exact t_X8_count_181 Z hr k123 hf E (lv_sub hl [1, 2, 3, 4, 0, 6] rfl)
  · have hf := zif_ hf c
    refine lv_aload_n Z.x Z.b dX8_count_171 rfl (lv_at hl 1 rfl) ?_
    refine lv_iload Z.x Z.b dX8_count_172 (lv_at hl 6 rfl) ?_
    refine z_Vi (As := [.int a6]) Z E hl.1 k_X8_56 v_X8_takenOf hf (fun r h' e => c_X8_takenOf l G h2 h' a0 a6 r e) rfl rfl (Nat.le_of_ble_eq_true rfl) (zRm_of rfl (Nat.zero_le _) (Nat.zero_le _)) dX8_count_174 (fun v3 h4 H locs hf E => ?_)
    refine lv_goto (tgt := 181) Z.x Z.b dX8_count_177 (by decide) ?_
    exact t_X8_count_181 Z hr k123 hf E (lv_sub hl [1, 2, 3, 4, 0, 6] rfl)
set_option maxHeartbeats 4000000 in
set_option maxRecDepth 20000 in
theorem t_X8_count_123_body {p : Program} {l : Launch} {e : Env} {s : State} {m : MethodId} {args : Array Value} {below : List Frame} {meth : Method} {c : Code} {G : zG} (Z : zF p s m args c meth cX8_count 8 RX8 G) (hr : meth.sig.returnType = (some .int)) {out : Int32 × zHp} {r123 : Nat → Int32 → Int32 → Int32 → Int32 → Int32 → Int32 → zHp → Option (Int32 × zHp)} (k123 : ∀ {a0 : Nat} {a1 : Int32} {a2 : Int32} {a3 : Int32} {a4 : Int32} {a5 : Int32} {a6 : Int32} {h : zHp} {H : Heap} {locs : List Loc} {ls : Array Slot}, r123 a0 a1 a2 a3 a4 a5 a6 h = some out → zE G s h H locs → lv_has ls 8 [(0, .ref a0), (1, .int a1), (2, .int a2), (3, .int a3), (4, .int a4), (5, .int a5), (6, .int a6)] → W p l e rm_X8_count s m args below meth c H locs 0 0 (MQ below (zQi G out.1 out.2) args s 0 0 (zA G)) (F0 m 123 ls [])) {a0 : Nat} {a1 : Int32} {a2 : Int32} {a3 : Int32} {a4 : Int32} {a5 : Int32} {a6 : Int32} {h : zHp} {H : Heap} {locs : List Loc} {ls : Array Slot} (hf : f_X8_count_123_body r123 a0 a1 a2 a3 a4 a5 a6 h = some out) (E : zE G s h H locs) (hl : lv_has ls 8 [(0, .ref a0), (1, .int a1), (2, .int a2), (3, .int a3), (4, .int a4), (5, .int a5), (6, .int a6)]) : W p l e rm_X8_count s m args below meth c H locs 0 0 (MQ below (zQi G out.1 out.2) args s 0 0 (zA G)) (F0 m 123 ls []) := by
  unfold f_X8_count_123_body at hf
  refine lv_iload Z.x Z.b dX8_count_123 (lv_at hl 6 rfl) ?_
  refine lv_aload_n Z.x Z.b dX8_count_125 rfl (lv_at hl 0 rfl) ?_
  refine z_getR Z E q_X8_7 dX8_count_126 hf (fun v1 hf => ?_)
  refine lv_iconst (v := 1) Z.x Z.b dX8_count_129 (by decide) ?_
  refine z_iald Z E dX8_count_130 hf (fun v2 hf => ?_)
  refine lv_icmp_ge (tgt := 190) Z.x Z.b dX8_count_131 (by decide) (fun c => ?_) (fun c => ?_)
  · have hf := zit hf c
    refine lv_iload_n Z.x Z.b dX8_count_190 rfl (lv_at hl 1 rfl) ?_
    by_cases c0 : a1 = 0
    · have hf := zit hf c0
      refine lv_tableIn (tgt := 256) Z.x Z.b dX8_count_191 (by rw [c0]; decide) (by rw [c0]; decide) (by rw [c0]; rfl) (by decide) ?_
      refine lv_aload_n Z.x Z.b dX8_count_256 rfl (lv_at hl 0 rfl) ?_
      refine z_getR Z E q_X8_7 dX8_count_257 hf (fun v3 hf => ?_)
      refine lv_iconst (v := 0) Z.x Z.b dX8_count_260 (by decide) ?_
      refine z_iald Z E dX8_count_261 hf (fun v4 hf => ?_)
      exact z_iret Z E hr dX8_count_262 hf
    · have hf := zif_ hf c0
      by_cases c1 : a1 = 1
      · have hf := zit hf c1
        refine lv_tableIn (tgt := 263) Z.x Z.b dX8_count_191 (by rw [c1]; decide) (by rw [c1]; decide) (by rw [c1]; rfl) (by decide) ?_
        refine lv_aload_n Z.x Z.b dX8_count_263 rfl (lv_at hl 0 rfl) ?_
        refine z_getR Z E q_X8_7 dX8_count_264 hf (fun v5 hf => ?_)
        refine lv_iconst (v := 1) Z.x Z.b dX8_count_267 (by decide) ?_
        refine z_iald Z E dX8_count_268 hf (fun v6 hf => ?_)
        exact z_iret Z E hr dX8_count_269 hf
      · have hf := zif_ hf c1
        by_cases c2 : a1 = 2
        · have hf := zit hf c2
          refine lv_tableIn (tgt := 304) Z.x Z.b dX8_count_191 (by rw [c2]; decide) (by rw [c2]; decide) (by rw [c2]; rfl) (by decide) ?_
          refine lv_bipush (v := (-2)) Z.x Z.b dX8_count_304 (by decide) ?_
          exact z_iret Z E hr dX8_count_306 hf
        · have hf := zif_ hf c2
          by_cases c3 : a1 = 3
          · have hf := zit hf c3
            refine lv_tableIn (tgt := 304) Z.x Z.b dX8_count_191 (by rw [c3]; decide) (by rw [c3]; decide) (by rw [c3]; rfl) (by decide) ?_
            refine lv_bipush (v := (-2)) Z.x Z.b dX8_count_304 (by decide) ?_
            exact z_iret Z E hr dX8_count_306 hf
          · have hf := zif_ hf c3
            by_cases c4 : a1 = 4
            · have hf := zit hf c4
              refine lv_tableIn (tgt := 304) Z.x Z.b dX8_count_191 (by rw [c4]; decide) (by rw [c4]; decide) (by rw [c4]; rfl) (by decide) ?_
              refine lv_bipush (v := (-2)) Z.x Z.b dX8_count_304 (by decide) ?_
              exact z_iret Z E hr dX8_count_306 hf
            · have hf := zif_ hf c4
              by_cases c5 : a1 = 5
              · have hf := zit hf c5
                refine lv_tableIn (tgt := 270) Z.x Z.b dX8_count_191 (by rw [c5]; decide) (by rw [c5]; decide) (by rw [c5]; rfl) (by decide) ?_
                refine lv_aload_n Z.x Z.b dX8_count_270 rfl (lv_at hl 0 rfl) ?_
                refine z_getR Z E q_X8_7 dX8_count_271 hf (fun v7 hf => ?_)
                refine lv_iconst (v := 2) Z.x Z.b dX8_count_274 (by decide) ?_
                refine z_iald Z E dX8_count_275 hf (fun v8 hf => ?_)
                exact z_iret Z E hr dX8_count_276 hf
              · have hf := zif_ hf c5
                by_cases c6 : a1 = 6
                · have hf := zit hf c6
                  refine lv_tableIn (tgt := 277) Z.x Z.b dX8_count_191 (by rw [c6]; decide) (by rw [c6]; decide) (by rw [c6]; rfl) (by decide) ?_
                  refine lv_iload_n Z.x Z.b dX8_count_277 rfl (lv_at hl 2 rfl) ?_
                  exact z_iret Z E hr dX8_count_278 hf
                · have hf := zif_ hf c6
                  by_cases c7 : a1 = 7
                  · have hf := zit hf c7
                    refine lv_tableIn (tgt := 279) Z.x Z.b dX8_count_191 (by rw [c7]; decide) (by rw [c7]; decide) (by rw [c7]; rfl) (by decide) ?_
                    refine lv_iload Z.x Z.b dX8_count_279 (lv_at hl 4 rfl) ?_
                    exact z_iret Z E hr dX8_count_281 hf
                  · have hf := zif_ hf c7
                    by_cases c8 : a1 = 8
                    · have hf := zit hf c8
                      refine lv_tableIn (tgt := 282) Z.x Z.b dX8_count_191 (by rw [c8]; decide) (by rw [c8]; decide) (by rw [c8]; rfl) (by decide) ?_
                      refine lv_iload Z.x Z.b dX8_count_282 (lv_at hl 5 rfl) ?_
                      exact z_iret Z E hr dX8_count_284 hf
                    · have hf := zif_ hf c8
                      by_cases c9 : a1 = 9
                      · have hf := zit hf c9
                        refine lv_tableIn (tgt := 285) Z.x Z.b dX8_count_191 (by rw [c9]; decide) (by rw [c9]; decide) (by rw [c9]; rfl) (by decide) ?_
                        refine lv_aload_n Z.x Z.b dX8_count_285 rfl (lv_at hl 0 rfl) ?_
                        refine z_getR Z E q_X8_7 dX8_count_286 hf (fun v9 hf => ?_)
                        refine lv_iconst (v := 3) Z.x Z.b dX8_count_289 (by decide) ?_
                        refine z_iald Z E dX8_count_290 hf (fun v10 hf => ?_)
                        exact z_iret Z E hr dX8_count_291 hf
                      · have hf := zif_ hf c9
                        by_cases c10 : a1 = 10
                        · have hf := zit hf c10
                          refine lv_tableIn (tgt := 292) Z.x Z.b dX8_count_191 (by rw [c10]; decide) (by rw [c10]; decide) (by rw [c10]; rfl) (by decide) ?_
                          refine lv_iload_n Z.x Z.b dX8_count_292 rfl (lv_at hl 3 rfl) ?_
                          exact z_iret Z E hr dX8_count_293 hf
                        · have hf := zif_ hf c10
                          by_cases c11 : a1 = 11
                          · have hf := zit hf c11
                            refine lv_tableIn (tgt := 294) Z.x Z.b dX8_count_191 (by rw [c11]; decide) (by rw [c11]; decide) (by rw [c11]; rfl) (by decide) ?_
                            refine lv_aload_n Z.x Z.b dX8_count_294 rfl (lv_at hl 0 rfl) ?_
                            refine z_getI Z E q_X8_34 dX8_count_295 hf (fun v11 hf => ?_)
                            exact z_iret Z E hr dX8_count_298 hf
                          · have hf := zif_ hf c11
                            by_cases c12 : a1 = 12
                            · have hf := zit hf c12
                              refine lv_tableIn (tgt := 299) Z.x Z.b dX8_count_191 (by rw [c12]; decide) (by rw [c12]; decide) (by rw [c12]; rfl) (by decide) ?_
                              refine lv_aload_n Z.x Z.b dX8_count_299 rfl (lv_at hl 0 rfl) ?_
                              refine z_getI Z E q_X8_182 dX8_count_300 hf (fun v12 hf => ?_)
                              exact z_iret Z E hr dX8_count_303 hf
                            · have hf := zif_ hf c12
                              have n0 := zsw (k := 0) c0 (by decide)
                              have n1 := zsw (k := 1) c1 (by decide)
                              have n2 := zsw (k := 2) c2 (by decide)
                              have n3 := zsw (k := 3) c3 (by decide)
                              have n4 := zsw (k := 4) c4 (by decide)
                              have n5 := zsw (k := 5) c5 (by decide)
                              have n6 := zsw (k := 6) c6 (by decide)
                              have n7 := zsw (k := 7) c7 (by decide)
                              have n8 := zsw (k := 8) c8 (by decide)
                              have n9 := zsw (k := 9) c9 (by decide)
                              have n10 := zsw (k := 10) c10 (by decide)
                              have n11 := zsw (k := 11) c11 (by decide)
                              have n12 := zsw (k := 12) c12 (by decide)
                              refine lv_tableOut (tgt := 304) Z.x Z.b dX8_count_191 (by omega) (by decide) ?_
                              refine lv_bipush (v := (-2)) Z.x Z.b dX8_count_304 (by decide) ?_
                              exact z_iret Z E hr dX8_count_306 hf
  · have hf := zif_ hf c
    refine lv_iload Z.x Z.b dX8_count_134 (lv_at hl 4 rfl) ?_
    refine lv_aload_n Z.x Z.b dX8_count_136 rfl (lv_at hl 0 rfl) ?_
    refine lv_iload Z.x Z.b dX8_count_137 (lv_at hl 6 rfl) ?_
    refine lv_iconst (v := 0) Z.x Z.b dX8_count_139 (by decide) ?_
    refine z_Vi (As := [.int a6, .int 0]) Z E hl.1 k_X8_62 v_X8_is hf (fun r h' e => c_X8_is l G h h' a0 a6 0 r e) rfl rfl (Nat.le_of_ble_eq_true rfl) (zRm_of rfl (Nat.zero_le _) (Nat.zero_le _)) dX8_count_140 (fun v13 h14 H locs hf E => ?_)
    refine lv_if_eq (tgt := 155) Z.x Z.b dX8_count_143 (by decide) (fun c => ?_) (fun c => ?_)
    · have hf := zit hf c
      refine lv_iconst (v := 0) Z.x Z.b dX8_count_155 (by decide) ?_
      exact t_X8_count_156 Z hr k123 hf E (lv_sub hl [0, 1, 2, 3, 5, 6] rfl)
    · have hf := zif_ hf c
      refine lv_aload_n Z.x Z.b dX8_count_146 rfl (lv_at hl 0 rfl) ?_
      refine lv_iload Z.x Z.b dX8_count_147 (lv_at hl 6 rfl) ?_
      refine z_Vi (As := [.int a6]) Z E hl.1 k_X8_116 v_X8_freeOf hf (fun r h' e => c_X8_freeOf l G h14 h' a0 a6 r e) rfl rfl (Nat.le_of_ble_eq_true rfl) (zRm_of rfl (Nat.zero_le _) (Nat.zero_le _)) dX8_count_149 (fun v15 h16 H locs hf E => ?_)
      refine lv_goto (tgt := 156) Z.x Z.b dX8_count_152 (by decide) ?_
      exact t_X8_count_156 Z hr k123 hf E (lv_sub hl [0, 1, 2, 3, 5, 6] rfl)
theorem t_X8_count_123 {p : Program} {l : Launch} {e : Env} {s : State} {m : MethodId} {args : Array Value} {below : List Frame} {meth : Method} {c : Code} {G : zG} (Z : zF p s m args c meth cX8_count 8 RX8 G) (hr : meth.sig.returnType = (some .int)) {out : Int32 × zHp} : ∀ (n : Nat), ∀ {a0 : Nat} {a1 : Int32} {a2 : Int32} {a3 : Int32} {a4 : Int32} {a5 : Int32} {a6 : Int32} {h : zHp} {H : Heap} {locs : List Loc} {ls : Array Slot}, f_X8_count_123 n a0 a1 a2 a3 a4 a5 a6 h = some out → zE G s h H locs → lv_has ls 8 [(0, .ref a0), (1, .int a1), (2, .int a2), (3, .int a3), (4, .int a4), (5, .int a5), (6, .int a6)] → W p l e rm_X8_count s m args below meth c H locs 0 0 (MQ below (zQi G out.1 out.2) args s 0 0 (zA G)) (F0 m 123 ls [])
  | 0 => fun hf => by cases hf
  | n + 1 => fun hf E hl => t_X8_count_123_body Z hr (r123 := f_X8_count_123 n) (t_X8_count_123 Z hr n) hf E hl
set_option maxHeartbeats 4000000 in
set_option maxRecDepth 20000 in
theorem t_X8_count_114 {p : Program} {l : Launch} {e : Env} {s : State} {m : MethodId} {args : Array Value} {below : List Frame} {meth : Method} {c : Code} {G : zG} (Z : zF p s m args c meth cX8_count 8 RX8 G) (hr : meth.sig.returnType = (some .int)) {out : Int32 × zHp} {r53 : Nat → Int32 → Int32 → Int32 → Int32 → Int32 → Int32 → zHp → Option (Int32 × zHp)} (k53 : ∀ {a0 : Nat} {a1 : Int32} {a2 : Int32} {a3 : Int32} {a4 : Int32} {a5 : Int32} {a6 : Int32} {h : zHp} {H : Heap} {locs : List Loc} {ls : Array Slot}, r53 a0 a1 a2 a3 a4 a5 a6 h = some out → zE G s h H locs → lv_has ls 8 [(0, .ref a0), (1, .int a1), (2, .int a2), (3, .int a3), (4, .int a4), (5, .int a5), (6, .int a6)] → W p l e rm_X8_count s m args below meth c H locs 0 0 (MQ below (zQi G out.1 out.2) args s 0 0 (zA G)) (F0 m 53 ls [])) {a0 : Nat} {a1 : Int32} {a2 : Int32} {a3 : Int32} {a4 : Int32} {a5 : Int32} {a6 : Int32} {h : zHp} {H : Heap} {locs : List Loc} {ls : Array Slot} (hf : f_X8_count_114 r53 a0 a1 a2 a3 a4 a5 a6 h = some out) (E : zE G s h H locs) (hl : lv_has ls 8 [(0, .ref a0), (1, .int a1), (2, .int a2), (3, .int a3), (4, .int a4), (5, .int a5), (6, .int a6)]) : W p l e rm_X8_count s m args below meth c H locs 0 0 (MQ below (zQi G out.1 out.2) args s 0 0 (zA G)) (F0 m 114 ls []) := by
  unfold f_X8_count_114 at hf
  refine lv_iinc (v := (a6 + 1)) (lv' := [(6, .int (a6 + 1)), (0, .ref a0), (1, .int a1), (2, .int a2), (3, .int a3), (4, .int a4), (5, .int a5)]) Z.x Z.b dX8_count_114 hl (k := 6) rfl rfl (by decide) rfl (fun ls hl => ?_)
  refine lv_goto (tgt := 53) Z.x Z.b dX8_count_117 (by decide) ?_
  exact k53 hf E (lv_sub hl [1, 2, 3, 4, 5, 6, 0] rfl)
set_option maxHeartbeats 4000000 in
set_option maxRecDepth 20000 in
theorem t_X8_count_84_body {p : Program} {l : Launch} {e : Env} {s : State} {m : MethodId} {args : Array Value} {below : List Frame} {meth : Method} {c : Code} {G : zG} (Z : zF p s m args c meth cX8_count 8 RX8 G) (hr : meth.sig.returnType = (some .int)) {out : Int32 × zHp} {r53 : Nat → Int32 → Int32 → Int32 → Int32 → Int32 → Int32 → zHp → Option (Int32 × zHp)} (k53 : ∀ {a0 : Nat} {a1 : Int32} {a2 : Int32} {a3 : Int32} {a4 : Int32} {a5 : Int32} {a6 : Int32} {h : zHp} {H : Heap} {locs : List Loc} {ls : Array Slot}, r53 a0 a1 a2 a3 a4 a5 a6 h = some out → zE G s h H locs → lv_has ls 8 [(0, .ref a0), (1, .int a1), (2, .int a2), (3, .int a3), (4, .int a4), (5, .int a5), (6, .int a6)] → W p l e rm_X8_count s m args below meth c H locs 0 0 (MQ below (zQi G out.1 out.2) args s 0 0 (zA G)) (F0 m 53 ls [])) {r84 : Nat → Int32 → Int32 → Int32 → Int32 → Int32 → Int32 → Int32 → zHp → Option (Int32 × zHp)} (k84 : ∀ {a0 : Nat} {a1 : Int32} {a2 : Int32} {a3 : Int32} {a4 : Int32} {a5 : Int32} {a6 : Int32} {a7 : Int32} {h : zHp} {H : Heap} {locs : List Loc} {ls : Array Slot}, r84 a0 a1 a2 a3 a4 a5 a6 a7 h = some out → zE G s h H locs → lv_has ls 8 [(0, .ref a0), (1, .int a1), (2, .int a2), (3, .int a3), (4, .int a4), (5, .int a5), (6, .int a6), (7, .int a7)] → W p l e rm_X8_count s m args below meth c H locs 0 0 (MQ below (zQi G out.1 out.2) args s 0 0 (zA G)) (F0 m 84 ls [])) {a0 : Nat} {a1 : Int32} {a2 : Int32} {a3 : Int32} {a4 : Int32} {a5 : Int32} {a6 : Int32} {a7 : Int32} {h : zHp} {H : Heap} {locs : List Loc} {ls : Array Slot} (hf : f_X8_count_84_body r53 r84 a0 a1 a2 a3 a4 a5 a6 a7 h = some out) (E : zE G s h H locs) (hl : lv_has ls 8 [(0, .ref a0), (1, .int a1), (2, .int a2), (3, .int a3), (4, .int a4), (5, .int a5), (6, .int a6), (7, .int a7)]) : W p l e rm_X8_count s m args below meth c H locs 0 0 (MQ below (zQi G out.1 out.2) args s 0 0 (zA G)) (F0 m 84 ls []) := by
  unfold f_X8_count_84_body at hf
  refine lv_iload Z.x Z.b dX8_count_84 (lv_at hl 7 rfl) ?_
  refine lv_bipush (v := 6) Z.x Z.b dX8_count_86 (by decide) ?_
  refine lv_icmp_ge (tgt := 114) Z.x Z.b dX8_count_88 (by decide) (fun c => ?_) (fun c => ?_)
  · have hf := zit hf c
    exact t_X8_count_114 Z hr k53 hf E (lv_sub hl [0, 1, 2, 3, 4, 5, 6] rfl)
  · have hf := zif_ hf c
    refine lv_iload_n Z.x Z.b dX8_count_91 rfl (lv_at hl 1 rfl) ?_
    refine lv_bipush (v := 10) Z.x Z.b dX8_count_92 (by decide) ?_
    refine lv_icmp_ne (tgt := 114) Z.x Z.b dX8_count_94 (by decide) (fun c => ?_) (fun c => ?_)
    · have hf := zif_ hf c
      exact t_X8_count_114 Z hr k53 hf E (lv_sub hl [0, 1, 2, 3, 4, 5, 6] rfl)
    · have hf := zit hf c
      refine lv_iload_n Z.x Z.b dX8_count_97 rfl (lv_at hl 3 rfl) ?_
      refine lv_aload_n Z.x Z.b dX8_count_98 rfl (lv_at hl 0 rfl) ?_
      refine lv_iload Z.x Z.b dX8_count_99 (lv_at hl 6 rfl) ?_
      refine lv_iload Z.x Z.b dX8_count_101 (lv_at hl 7 rfl) ?_
      refine z_Vi (As := [.int a6, .int a7]) Z E hl.1 k_X8_210 v_X8_over hf (fun r h' e => c_X8_over l G h h' a0 a6 a7 r e) rfl rfl (Nat.le_of_ble_eq_true rfl) (zRm_of rfl (Nat.zero_le _) (Nat.zero_le _)) dX8_count_103 (fun v1 h2 H locs hf E => ?_)
      refine lv_iadd Z.x Z.b dX8_count_106 ?_
      refine lv_istore_n (lv' := [(3, .int (a3 + v1)), (0, .ref a0), (1, .int a1), (2, .int a2), (4, .int a4), (5, .int a5), (6, .int a6), (7, .int a7)]) Z.x Z.b dX8_count_107 rfl hl (by decide) rfl (fun ls hl => ?_)
      refine lv_iinc (v := (a7 + 1)) (lv' := [(7, .int (a7 + 1)), (3, .int (a3 + v1)), (0, .ref a0), (1, .int a1), (2, .int a2), (4, .int a4), (5, .int a5), (6, .int a6)]) Z.x Z.b dX8_count_108 hl (k := 7) rfl rfl (by decide) rfl (fun ls hl => ?_)
      refine lv_goto (tgt := 84) Z.x Z.b dX8_count_111 (by decide) ?_
      exact k84 hf E (lv_sub hl [2, 3, 4, 1, 5, 6, 7, 0] rfl)
theorem t_X8_count_84 {p : Program} {l : Launch} {e : Env} {s : State} {m : MethodId} {args : Array Value} {below : List Frame} {meth : Method} {c : Code} {G : zG} (Z : zF p s m args c meth cX8_count 8 RX8 G) (hr : meth.sig.returnType = (some .int)) {out : Int32 × zHp} {r53 : Nat → Int32 → Int32 → Int32 → Int32 → Int32 → Int32 → zHp → Option (Int32 × zHp)} (k53 : ∀ {a0 : Nat} {a1 : Int32} {a2 : Int32} {a3 : Int32} {a4 : Int32} {a5 : Int32} {a6 : Int32} {h : zHp} {H : Heap} {locs : List Loc} {ls : Array Slot}, r53 a0 a1 a2 a3 a4 a5 a6 h = some out → zE G s h H locs → lv_has ls 8 [(0, .ref a0), (1, .int a1), (2, .int a2), (3, .int a3), (4, .int a4), (5, .int a5), (6, .int a6)] → W p l e rm_X8_count s m args below meth c H locs 0 0 (MQ below (zQi G out.1 out.2) args s 0 0 (zA G)) (F0 m 53 ls [])) : ∀ (n : Nat), ∀ {a0 : Nat} {a1 : Int32} {a2 : Int32} {a3 : Int32} {a4 : Int32} {a5 : Int32} {a6 : Int32} {a7 : Int32} {h : zHp} {H : Heap} {locs : List Loc} {ls : Array Slot}, f_X8_count_84 r53 n a0 a1 a2 a3 a4 a5 a6 a7 h = some out → zE G s h H locs → lv_has ls 8 [(0, .ref a0), (1, .int a1), (2, .int a2), (3, .int a3), (4, .int a4), (5, .int a5), (6, .int a6), (7, .int a7)] → W p l e rm_X8_count s m args below meth c H locs 0 0 (MQ below (zQi G out.1 out.2) args s 0 0 (zA G)) (F0 m 84 ls [])
  | 0 => fun hf => by cases hf
  | n + 1 => fun hf E hl => t_X8_count_84_body Z hr k53 (r84 := f_X8_count_84 r53 n) (t_X8_count_84 Z hr k53 n) hf E hl
set_option maxHeartbeats 4000000 in
set_option maxRecDepth 20000 in
theorem t_X8_count_79 {p : Program} {l : Launch} {e : Env} {s : State} {m : MethodId} {args : Array Value} {below : List Frame} {meth : Method} {c : Code} {G : zG} (Z : zF p s m args c meth cX8_count 8 RX8 G) (hr : meth.sig.returnType = (some .int)) {out : Int32 × zHp} {r53 : Nat → Int32 → Int32 → Int32 → Int32 → Int32 → Int32 → zHp → Option (Int32 × zHp)} (k53 : ∀ {a0 : Nat} {a1 : Int32} {a2 : Int32} {a3 : Int32} {a4 : Int32} {a5 : Int32} {a6 : Int32} {h : zHp} {H : Heap} {locs : List Loc} {ls : Array Slot}, r53 a0 a1 a2 a3 a4 a5 a6 h = some out → zE G s h H locs → lv_has ls 8 [(0, .ref a0), (1, .int a1), (2, .int a2), (3, .int a3), (4, .int a4), (5, .int a5), (6, .int a6)] → W p l e rm_X8_count s m args below meth c H locs 0 0 (MQ below (zQi G out.1 out.2) args s 0 0 (zA G)) (F0 m 53 ls [])) {a0 : Nat} {a1 : Int32} {a3 : Int32} {a4 : Int32} {a5 : Int32} {a6 : Int32} {s0 : Int32} {s1 : Int32} {h : zHp} {H : Heap} {locs : List Loc} {ls : Array Slot} (hf : f_X8_count_79 r53 a0 a1 a3 a4 a5 a6 s0 s1 h = some out) (E : zE G s h H locs) (hl : lv_has ls 8 [(0, .ref a0), (1, .int a1), (3, .int a3), (4, .int a4), (5, .int a5), (6, .int a6)]) : W p l e rm_X8_count s m args below meth c H locs 0 0 (MQ below (zQi G out.1 out.2) args s 0 0 (zA G)) (F0 m 79 ls [.int s0, .int s1]) := by
  unfold f_X8_count_79 at hf
  refine lv_iadd Z.x Z.b dX8_count_79 ?_
  refine lv_istore_n (lv' := [(2, .int (s1 + s0)), (0, .ref a0), (1, .int a1), (3, .int a3), (4, .int a4), (5, .int a5), (6, .int a6)]) Z.x Z.b dX8_count_80 rfl hl (by decide) rfl (fun ls hl => ?_)
  refine lv_iconst (v := 0) Z.x Z.b dX8_count_81 (by decide) ?_
  refine lv_istore (lv' := [(7, .int 0), (2, .int (s1 + s0)), (0, .ref a0), (1, .int a1), (3, .int a3), (4, .int a4), (5, .int a5), (6, .int a6)]) Z.x Z.b dX8_count_82 hl (by decide) rfl (fun ls hl => ?_)
  exact t_X8_count_84 Z hr k53 zN hf E (lv_sub hl [2, 3, 1, 4, 5, 6, 7, 0] rfl)
set_option maxHeartbeats 4000000 in
set_option maxRecDepth 20000 in
theorem t_X8_count_53_body {p : Program} {l : Launch} {e : Env} {s : State} {m : MethodId} {args : Array Value} {below : List Frame} {meth : Method} {c : Code} {G : zG} (Z : zF p s m args c meth cX8_count 8 RX8 G) (hr : meth.sig.returnType = (some .int)) {out : Int32 × zHp} {r53 : Nat → Int32 → Int32 → Int32 → Int32 → Int32 → Int32 → zHp → Option (Int32 × zHp)} (k53 : ∀ {a0 : Nat} {a1 : Int32} {a2 : Int32} {a3 : Int32} {a4 : Int32} {a5 : Int32} {a6 : Int32} {h : zHp} {H : Heap} {locs : List Loc} {ls : Array Slot}, r53 a0 a1 a2 a3 a4 a5 a6 h = some out → zE G s h H locs → lv_has ls 8 [(0, .ref a0), (1, .int a1), (2, .int a2), (3, .int a3), (4, .int a4), (5, .int a5), (6, .int a6)] → W p l e rm_X8_count s m args below meth c H locs 0 0 (MQ below (zQi G out.1 out.2) args s 0 0 (zA G)) (F0 m 53 ls [])) {a0 : Nat} {a1 : Int32} {a2 : Int32} {a3 : Int32} {a4 : Int32} {a5 : Int32} {a6 : Int32} {h : zHp} {H : Heap} {locs : List Loc} {ls : Array Slot} (hf : f_X8_count_53_body r53 a0 a1 a2 a3 a4 a5 a6 h = some out) (E : zE G s h H locs) (hl : lv_has ls 8 [(0, .ref a0), (1, .int a1), (2, .int a2), (3, .int a3), (4, .int a4), (5, .int a5), (6, .int a6)]) : W p l e rm_X8_count s m args below meth c H locs 0 0 (MQ below (zQi G out.1 out.2) args s 0 0 (zA G)) (F0 m 53 ls []) := by
  unfold f_X8_count_53_body at hf
  refine lv_iload Z.x Z.b dX8_count_53 (lv_at hl 6 rfl) ?_
  refine lv_aload_n Z.x Z.b dX8_count_55 rfl (lv_at hl 0 rfl) ?_
  refine z_getR Z E q_X8_7 dX8_count_56 hf (fun v1 hf => ?_)
  refine lv_iconst (v := 2) Z.x Z.b dX8_count_59 (by decide) ?_
  refine z_iald Z E dX8_count_60 hf (fun v2 hf => ?_)
  refine lv_icmp_ge (tgt := 120) Z.x Z.b dX8_count_61 (by decide) (fun c => ?_) (fun c => ?_)
  · have hf := zit hf c
    refine lv_iconst (v := 0) Z.x Z.b dX8_count_120 (by decide) ?_
    refine lv_istore (lv' := [(6, .int 0), (0, .ref a0), (1, .int a1), (2, .int a2), (3, .int a3), (4, .int a4), (5, .int a5)]) Z.x Z.b dX8_count_121 hl (by decide) rfl (fun ls hl => ?_)
    exact t_X8_count_123 Z hr zN hf E (lv_sub hl [1, 2, 3, 4, 5, 6, 0] rfl)
  · have hf := zif_ hf c
    refine lv_iload_n Z.x Z.b dX8_count_64 rfl (lv_at hl 2 rfl) ?_
    refine lv_aload_n Z.x Z.b dX8_count_65 rfl (lv_at hl 0 rfl) ?_
    refine lv_iload Z.x Z.b dX8_count_66 (lv_at hl 6 rfl) ?_
    refine z_Vi (As := [.int a6]) Z E hl.1 k_X8_89 v_X8_isSick hf (fun r h' e => c_X8_isSick l G h h' a0 a6 r e) rfl rfl (Nat.le_of_ble_eq_true rfl) (zRm_of rfl (Nat.zero_le _) (Nat.zero_le _)) dX8_count_68 (fun v3 h4 H locs hf E => ?_)
    refine lv_if_eq (tgt := 78) Z.x Z.b dX8_count_71 (by decide) (fun c => ?_) (fun c => ?_)
    · have hf := zit hf c
      refine lv_iconst (v := 0) Z.x Z.b dX8_count_78 (by decide) ?_
      exact t_X8_count_79 Z hr k53 hf E (lv_sub hl [0, 1, 3, 4, 5, 6] rfl)
    · have hf := zif_ hf c
      refine lv_iconst (v := 1) Z.x Z.b dX8_count_74 (by decide) ?_
      refine lv_goto (tgt := 79) Z.x Z.b dX8_count_75 (by decide) ?_
      exact t_X8_count_79 Z hr k53 hf E (lv_sub hl [0, 1, 3, 4, 5, 6] rfl)
theorem t_X8_count_53 {p : Program} {l : Launch} {e : Env} {s : State} {m : MethodId} {args : Array Value} {below : List Frame} {meth : Method} {c : Code} {G : zG} (Z : zF p s m args c meth cX8_count 8 RX8 G) (hr : meth.sig.returnType = (some .int)) {out : Int32 × zHp} : ∀ (n : Nat), ∀ {a0 : Nat} {a1 : Int32} {a2 : Int32} {a3 : Int32} {a4 : Int32} {a5 : Int32} {a6 : Int32} {h : zHp} {H : Heap} {locs : List Loc} {ls : Array Slot}, f_X8_count_53 n a0 a1 a2 a3 a4 a5 a6 h = some out → zE G s h H locs → lv_has ls 8 [(0, .ref a0), (1, .int a1), (2, .int a2), (3, .int a3), (4, .int a4), (5, .int a5), (6, .int a6)] → W p l e rm_X8_count s m args below meth c H locs 0 0 (MQ below (zQi G out.1 out.2) args s 0 0 (zA G)) (F0 m 53 ls [])
  | 0 => fun hf => by cases hf
  | n + 1 => fun hf E hl => t_X8_count_53_body Z hr (r53 := f_X8_count_53 n) (t_X8_count_53 Z hr n) hf E hl
set_option maxHeartbeats 4000000 in
set_option maxRecDepth 20000 in
theorem t_X8_count {p : Program} {l : Launch} {e : Env} {s : State} {m : MethodId} {args : Array Value} {below : List Frame} {meth : Method} {c : Code} {G : zG} (Z : zF p s m args c meth cX8_count 8 RX8 G) (hr : meth.sig.returnType = (some .int)) {out : Int32 × zHp} {a0 : Nat} {a1 : Int32} {h : zHp} {H : Heap} {locs : List Loc} {ls : Array Slot} (hf : f_X8_count a0 a1 h = some out) (E : zE G s h H locs) (hl : lv_has ls 8 [(0, .ref a0), (1, .int a1)]) : W p l e rm_X8_count s m args below meth c H locs 0 0 (MQ below (zQi G out.1 out.2) args s 0 0 (zA G)) (F0 m 0 ls []) := by
  unfold f_X8_count at hf
  refine lv_iload_n Z.x Z.b dX8_count_0 rfl (lv_at hl 1 rfl) ?_
  refine lv_iconst (v := 2) Z.x Z.b dX8_count_1 (by decide) ?_
  refine lv_iconst (v := 4) Z.x Z.b dX8_count_2 (by decide) ?_
  refine z_Si (As := [.int a1, .int 2, .int 4]) Z E hl.1 k_X8_42 wt_X8_in hf (fun r h' e => c_X8_in l G h h' a1 2 4 r e) rfl rfl (Nat.le_of_ble_eq_true rfl) (zRm_of rfl (Nat.zero_le _) (Nat.zero_le _)) dX8_count_3 (fun v1 h2 H locs hf E => ?_)
  refine lv_if_eq (tgt := 17) Z.x Z.b dX8_count_6 (by decide) (fun c => ?_) (fun c => ?_)
  · have hf := zit hf c
    refine lv_iload_n Z.x Z.b dX8_count_17 rfl (lv_at hl 1 rfl) ?_
    refine lv_bipush (v := 13) Z.x Z.b dX8_count_18 (by decide) ?_
    refine lv_bipush (v := 17) Z.x Z.b dX8_count_20 (by decide) ?_
    refine z_Si (As := [.int a1, .int 13, .int 17]) Z E hl.1 k_X8_42 wt_X8_in hf (fun r h' e => c_X8_in l G h2 h' a1 13 17 r e) rfl rfl (Nat.le_of_ble_eq_true rfl) (zRm_of rfl (Nat.zero_le _) (Nat.zero_le _)) dX8_count_22 (fun v3 h4 H locs hf E => ?_)
    refine lv_if_eq (tgt := 40) Z.x Z.b dX8_count_25 (by decide) (fun c => ?_) (fun c => ?_)
    · have hf := zit hf c
      refine lv_iconst (v := 0) Z.x Z.b dX8_count_40 (by decide) ?_
      refine lv_istore_n (lv' := [(2, .int 0), (0, .ref a0), (1, .int a1)]) Z.x Z.b dX8_count_41 rfl hl (by decide) rfl (fun ls hl => ?_)
      refine lv_iconst (v := 0) Z.x Z.b dX8_count_42 (by decide) ?_
      refine lv_istore_n (lv' := [(3, .int 0), (2, .int 0), (0, .ref a0), (1, .int a1)]) Z.x Z.b dX8_count_43 rfl hl (by decide) rfl (fun ls hl => ?_)
      refine lv_iconst (v := 0) Z.x Z.b dX8_count_44 (by decide) ?_
      refine lv_istore (lv' := [(4, .int 0), (3, .int 0), (2, .int 0), (0, .ref a0), (1, .int a1)]) Z.x Z.b dX8_count_45 hl (by decide) rfl (fun ls hl => ?_)
      refine lv_iconst (v := 0) Z.x Z.b dX8_count_47 (by decide) ?_
      refine lv_istore (lv' := [(5, .int 0), (4, .int 0), (3, .int 0), (2, .int 0), (0, .ref a0), (1, .int a1)]) Z.x Z.b dX8_count_48 hl (by decide) rfl (fun ls hl => ?_)
      refine lv_iconst (v := 0) Z.x Z.b dX8_count_50 (by decide) ?_
      refine lv_istore (lv' := [(6, .int 0), (5, .int 0), (4, .int 0), (3, .int 0), (2, .int 0), (0, .ref a0), (1, .int a1)]) Z.x Z.b dX8_count_51 hl (by decide) rfl (fun ls hl => ?_)
      exact t_X8_count_53 Z hr zN hf E (lv_sub hl [5, 6, 4, 3, 2, 1, 0] rfl)
    · have hf := zif_ hf c
      refine lv_aload_n Z.x Z.b dX8_count_28 rfl (lv_at hl 0 rfl) ?_
      refine z_getR Z E q_X8_7 dX8_count_29 hf (fun v5 hf => ?_)
      refine lv_iconst (v := 4) Z.x Z.b dX8_count_32 (by decide) ?_
      refine lv_iload_n Z.x Z.b dX8_count_33 rfl (lv_at hl 1 rfl) ?_
      refine lv_iadd Z.x Z.b dX8_count_34 ?_
      refine lv_bipush (v := 13) Z.x Z.b dX8_count_35 (by decide) ?_
      refine lv_isub Z.x Z.b dX8_count_37 ?_
      refine z_iald Z E dX8_count_38 hf (fun v6 hf => ?_)
      exact z_iret Z E hr dX8_count_39 hf
  · have hf := zif_ hf c
    refine lv_aload_n Z.x Z.b dX8_count_9 rfl (lv_at hl 0 rfl) ?_
    refine lv_iload_n Z.x Z.b dX8_count_10 rfl (lv_at hl 1 rfl) ?_
    refine lv_iconst (v := 2) Z.x Z.b dX8_count_11 (by decide) ?_
    refine lv_isub Z.x Z.b dX8_count_12 ?_
    refine z_Vi (As := [.int (a1 - 2)]) Z E hl.1 k_X8_213 v_X8_sailingsThat hf (fun r h' e => c_X8_sailingsThat l G h2 h' a0 (a1 - 2) r e) rfl rfl (Nat.le_of_ble_eq_true rfl) (zRm_of rfl (Nat.zero_le _) (Nat.zero_le _)) dX8_count_13 (fun v7 h8 H locs hf E => ?_)
    exact z_iret Z E hr dX8_count_16 hf
set_option maxHeartbeats 4000000 in
set_option maxRecDepth 20000 in
theorem c_X8_count (l : Launch) (G : zG) (h : zHp) (h' : zHp) (a0 : Nat) (a1 : Int32) (r : Int32) (hf : f_X8_count a0 a1 h = some (r, h')) : zM0 l yX8_count cX8_count 8 (some .int) rm_X8_count G [.ref a0, .int a1] h (zQi G r h') := by
  refine Met.ofW (cc := cX8_count) (maxL := 8) (ret := (some .int)) (by decide) rfl ?_
  intro p e s m args below meth c s₁ B hml hv
  obtain ⟨rfl, hW⟩ := hv
  obtain ⟨Z, E, hr⟩ := zEnter (own := RX8) B hml rfl hW
  have hl := lv_entry ([.ref a0, .int a1]) (n := 8) (Nat.le_of_ble_eq_true rfl)
  rw [lg_entry_eq]
  generalize (lg_sl ([.ref a0, .int a1]) ++ List.replicate (8 - (lg_sl ([.ref a0, .int a1])).length) Slot.unset).toArray = ls at hl ⊢
  have hl : lv_has ls 8 [(0, .ref a0), (1, .int a1)] := hl
  exact t_X8_count (out := (r, h')) Z hr hf E hl
/-! FerryCrewsModel.able(II)I -/
theorem dX8_able_0 : decode cX8_able 0 = .ok (.aload_n 0, 1) := by decide +kernel
theorem dX8_able_1 : decode cX8_able 1 = .ok (.iload_n 1, 1) := by decide +kernel
theorem dX8_able_2 : decode cX8_able 2 = .ok (.invokevirtual 154, 3) := by decide +kernel
theorem dX8_able_5 : decode cX8_able 5 = .ok (.ifCond .eq 10, 3) := by decide +kernel
theorem dX8_able_8 : decode cX8_able 8 = .ok (.iload_n 2, 1) := by decide +kernel
theorem dX8_able_9 : decode cX8_able 9 = .ok (.invokestatic 157, 3) := by decide +kernel
theorem dX8_able_12 : decode cX8_able 12 = .ok (.ifCond .ne 5, 3) := by decide +kernel
theorem dX8_able_15 : decode cX8_able 15 = .ok (.iconst (-1), 1) := by decide +kernel
theorem dX8_able_16 : decode cX8_able 16 = .ok (.ireturn, 1) := by decide +kernel
theorem dX8_able_17 : decode cX8_able 17 = .ok (.iconst 0, 1) := by decide +kernel
theorem dX8_able_18 : decode cX8_able 18 = .ok (.istore_n 3, 1) := by decide +kernel
theorem dX8_able_19 : decode cX8_able 19 = .ok (.iconst 0, 1) := by decide +kernel
theorem dX8_able_20 : decode cX8_able 20 = .ok (.istore 4, 2) := by decide +kernel
theorem dX8_able_22 : decode cX8_able 22 = .ok (.iload 4, 2) := by decide +kernel
theorem dX8_able_24 : decode cX8_able 24 = .ok (.aload_n 0, 1) := by decide +kernel
theorem dX8_able_25 : decode cX8_able 25 = .ok (.getfield 7, 3) := by decide +kernel
theorem dX8_able_28 : decode cX8_able 28 = .ok (.iconst 2, 1) := by decide +kernel
theorem dX8_able_29 : decode cX8_able 29 = .ok (.iaload, 1) := by decide +kernel
theorem dX8_able_30 : decode cX8_able 30 = .ok (.if_icmp .ge 31, 3) := by decide +kernel
theorem dX8_able_33 : decode cX8_able 33 = .ok (.iload_n 3, 1) := by decide +kernel
theorem dX8_able_34 : decode cX8_able 34 = .ok (.aload_n 0, 1) := by decide +kernel
theorem dX8_able_35 : decode cX8_able 35 = .ok (.iload 4, 2) := by decide +kernel
theorem dX8_able_37 : decode cX8_able 37 = .ok (.iload_n 1, 1) := by decide +kernel
theorem dX8_able_38 : decode cX8_able 38 = .ok (.iload_n 2, 1) := by decide +kernel
theorem dX8_able_39 : decode cX8_able 39 = .ok (.invokevirtual 100, 3) := by decide +kernel
theorem dX8_able_42 : decode cX8_able 42 = .ok (.ifCond .ne 10, 3) := by decide +kernel
theorem dX8_able_45 : decode cX8_able 45 = .ok (.iconst 1, 1) := by decide +kernel
theorem dX8_able_46 : decode cX8_able 46 = .ok (.iload 4, 2) := by decide +kernel
theorem dX8_able_48 : decode cX8_able 48 = .ok (.ishl, 1) := by decide +kernel
theorem dX8_able_49 : decode cX8_able 49 = .ok (.goto 4, 3) := by decide +kernel
theorem dX8_able_52 : decode cX8_able 52 = .ok (.iconst 0, 1) := by decide +kernel
theorem dX8_able_53 : decode cX8_able 53 = .ok (.ior, 1) := by decide +kernel
theorem dX8_able_54 : decode cX8_able 54 = .ok (.istore_n 3, 1) := by decide +kernel
theorem dX8_able_55 : decode cX8_able 55 = .ok (.iinc 4 1, 3) := by decide +kernel
theorem dX8_able_58 : decode cX8_able 58 = .ok (.goto (-36), 3) := by decide +kernel
theorem dX8_able_61 : decode cX8_able 61 = .ok (.iload_n 3, 1) := by decide +kernel
theorem dX8_able_62 : decode cX8_able 62 = .ok (.ireturn, 1) := by decide +kernel
def rm_X8_able : Room := { frames := 7, cells := 0, slots := 0, locals := 160 }
set_option maxHeartbeats 4000000 in
set_option maxRecDepth 20000 in
theorem t_X8_able_53 {p : Program} {l : Launch} {e : Env} {s : State} {m : MethodId} {args : Array Value} {below : List Frame} {meth : Method} {c : Code} {G : zG} (Z : zF p s m args c meth cX8_able 5 RX8 G) (hr : meth.sig.returnType = (some .int)) {out : Int32 × zHp} {r22 : Nat → Int32 → Int32 → Int32 → Int32 → zHp → Option (Int32 × zHp)} (k22 : ∀ {a0 : Nat} {a1 : Int32} {a2 : Int32} {a3 : Int32} {a4 : Int32} {h : zHp} {H : Heap} {locs : List Loc} {ls : Array Slot}, r22 a0 a1 a2 a3 a4 h = some out → zE G s h H locs → lv_has ls 5 [(0, .ref a0), (1, .int a1), (2, .int a2), (3, .int a3), (4, .int a4)] → W p l e rm_X8_able s m args below meth c H locs 0 0 (MQ below (zQi G out.1 out.2) args s 0 0 (zA G)) (F0 m 22 ls [])) {a0 : Nat} {a1 : Int32} {a2 : Int32} {a4 : Int32} {s0 : Int32} {s1 : Int32} {h : zHp} {H : Heap} {locs : List Loc} {ls : Array Slot} (hf : f_X8_able_53 r22 a0 a1 a2 a4 s0 s1 h = some out) (E : zE G s h H locs) (hl : lv_has ls 5 [(0, .ref a0), (1, .int a1), (2, .int a2), (4, .int a4)]) : W p l e rm_X8_able s m args below meth c H locs 0 0 (MQ below (zQi G out.1 out.2) args s 0 0 (zA G)) (F0 m 53 ls [.int s0, .int s1]) := by
  unfold f_X8_able_53 at hf
  refine lv_ior Z.x Z.b dX8_able_53 ?_
  refine lv_istore_n (lv' := [(3, .int (s1 ||| s0)), (0, .ref a0), (1, .int a1), (2, .int a2), (4, .int a4)]) Z.x Z.b dX8_able_54 rfl hl (by decide) rfl (fun ls hl => ?_)
  refine lv_iinc (v := (a4 + 1)) (lv' := [(4, .int (a4 + 1)), (3, .int (s1 ||| s0)), (0, .ref a0), (1, .int a1), (2, .int a2)]) Z.x Z.b dX8_able_55 hl (k := 4) rfl rfl (by decide) rfl (fun ls hl => ?_)
  refine lv_goto (tgt := 22) Z.x Z.b dX8_able_58 (by decide) ?_
  exact k22 hf E (lv_sub hl [2, 3, 4, 1, 0] rfl)
set_option maxHeartbeats 4000000 in
set_option maxRecDepth 20000 in
theorem t_X8_able_22_body {p : Program} {l : Launch} {e : Env} {s : State} {m : MethodId} {args : Array Value} {below : List Frame} {meth : Method} {c : Code} {G : zG} (Z : zF p s m args c meth cX8_able 5 RX8 G) (hr : meth.sig.returnType = (some .int)) {out : Int32 × zHp} {r22 : Nat → Int32 → Int32 → Int32 → Int32 → zHp → Option (Int32 × zHp)} (k22 : ∀ {a0 : Nat} {a1 : Int32} {a2 : Int32} {a3 : Int32} {a4 : Int32} {h : zHp} {H : Heap} {locs : List Loc} {ls : Array Slot}, r22 a0 a1 a2 a3 a4 h = some out → zE G s h H locs → lv_has ls 5 [(0, .ref a0), (1, .int a1), (2, .int a2), (3, .int a3), (4, .int a4)] → W p l e rm_X8_able s m args below meth c H locs 0 0 (MQ below (zQi G out.1 out.2) args s 0 0 (zA G)) (F0 m 22 ls [])) {a0 : Nat} {a1 : Int32} {a2 : Int32} {a3 : Int32} {a4 : Int32} {h : zHp} {H : Heap} {locs : List Loc} {ls : Array Slot} (hf : f_X8_able_22_body r22 a0 a1 a2 a3 a4 h = some out) (E : zE G s h H locs) (hl : lv_has ls 5 [(0, .ref a0), (1, .int a1), (2, .int a2), (3, .int a3), (4, .int a4)]) : W p l e rm_X8_able s m args below meth c H locs 0 0 (MQ below (zQi G out.1 out.2) args s 0 0 (zA G)) (F0 m 22 ls []) := by
  unfold f_X8_able_22_body at hf
  refine lv_iload Z.x Z.b dX8_able_22 (lv_at hl 4 rfl) ?_
  refine lv_aload_n Z.x Z.b dX8_able_24 rfl (lv_at hl 0 rfl) ?_
  refine z_getR Z E q_X8_7 dX8_able_25 hf (fun v1 hf => ?_)
  refine lv_iconst (v := 2) Z.x Z.b dX8_able_28 (by decide) ?_
  refine z_iald Z E dX8_able_29 hf (fun v2 hf => ?_)
  refine lv_icmp_ge (tgt := 61) Z.x Z.b dX8_able_30 (by decide) (fun c => ?_) (fun c => ?_)
  · have hf := zit hf c
    refine lv_iload_n Z.x Z.b dX8_able_61 rfl (lv_at hl 3 rfl) ?_
    exact z_iret Z E hr dX8_able_62 hf
  · have hf := zif_ hf c
    refine lv_iload_n Z.x Z.b dX8_able_33 rfl (lv_at hl 3 rfl) ?_
    refine lv_aload_n Z.x Z.b dX8_able_34 rfl (lv_at hl 0 rfl) ?_
    refine lv_iload Z.x Z.b dX8_able_35 (lv_at hl 4 rfl) ?_
    refine lv_iload_n Z.x Z.b dX8_able_37 rfl (lv_at hl 1 rfl) ?_
    refine lv_iload_n Z.x Z.b dX8_able_38 rfl (lv_at hl 2 rfl) ?_
    refine z_Vi (As := [.int a4, .int a1, .int a2]) Z E hl.1 k_X8_100 v_X8_reason hf (fun r h' e => c_X8_reason l G h h' a0 a4 a1 a2 r e) rfl rfl (Nat.le_of_ble_eq_true rfl) (zRm_of rfl (Nat.zero_le _) (Nat.zero_le _)) dX8_able_39 (fun v3 h4 H locs hf E => ?_)
    refine lv_if_ne (tgt := 52) Z.x Z.b dX8_able_42 (by decide) (fun c => ?_) (fun c => ?_)
    · have hf := zif_ hf c
      refine lv_iconst (v := 0) Z.x Z.b dX8_able_52 (by decide) ?_
      exact t_X8_able_53 Z hr k22 hf E (lv_sub hl [0, 1, 2, 4] rfl)
    · have hf := zit hf c
      refine lv_iconst (v := 1) Z.x Z.b dX8_able_45 (by decide) ?_
      refine lv_iload Z.x Z.b dX8_able_46 (lv_at hl 4 rfl) ?_
      refine lv_ishl Z.x Z.b dX8_able_48 ?_
      refine lv_goto (tgt := 53) Z.x Z.b dX8_able_49 (by decide) ?_
      exact t_X8_able_53 Z hr k22 hf E (lv_sub hl [0, 1, 2, 4] rfl)
theorem t_X8_able_22 {p : Program} {l : Launch} {e : Env} {s : State} {m : MethodId} {args : Array Value} {below : List Frame} {meth : Method} {c : Code} {G : zG} (Z : zF p s m args c meth cX8_able 5 RX8 G) (hr : meth.sig.returnType = (some .int)) {out : Int32 × zHp} : ∀ (n : Nat), ∀ {a0 : Nat} {a1 : Int32} {a2 : Int32} {a3 : Int32} {a4 : Int32} {h : zHp} {H : Heap} {locs : List Loc} {ls : Array Slot}, f_X8_able_22 n a0 a1 a2 a3 a4 h = some out → zE G s h H locs → lv_has ls 5 [(0, .ref a0), (1, .int a1), (2, .int a2), (3, .int a3), (4, .int a4)] → W p l e rm_X8_able s m args below meth c H locs 0 0 (MQ below (zQi G out.1 out.2) args s 0 0 (zA G)) (F0 m 22 ls [])
  | 0 => fun hf => by cases hf
  | n + 1 => fun hf E hl => t_X8_able_22_body Z hr (r22 := f_X8_able_22 n) (t_X8_able_22 Z hr n) hf E hl
set_option maxHeartbeats 4000000 in
set_option maxRecDepth 20000 in
theorem t_X8_able {p : Program} {l : Launch} {e : Env} {s : State} {m : MethodId} {args : Array Value} {below : List Frame} {meth : Method} {c : Code} {G : zG} (Z : zF p s m args c meth cX8_able 5 RX8 G) (hr : meth.sig.returnType = (some .int)) {out : Int32 × zHp} {a0 : Nat} {a1 : Int32} {a2 : Int32} {h : zHp} {H : Heap} {locs : List Loc} {ls : Array Slot} (hf : f_X8_able a0 a1 a2 h = some out) (E : zE G s h H locs) (hl : lv_has ls 5 [(0, .ref a0), (1, .int a1), (2, .int a2)]) : W p l e rm_X8_able s m args below meth c H locs 0 0 (MQ below (zQi G out.1 out.2) args s 0 0 (zA G)) (F0 m 0 ls []) := by
  unfold f_X8_able at hf
  refine lv_aload_n Z.x Z.b dX8_able_0 rfl (lv_at hl 0 rfl) ?_
  refine lv_iload_n Z.x Z.b dX8_able_1 rfl (lv_at hl 1 rfl) ?_
  refine z_Vi (As := [.int a1]) Z E hl.1 k_X8_154 v_X8_isSailing hf (fun r h' e => c_X8_isSailing l G h h' a0 a1 r e) rfl rfl (Nat.le_of_ble_eq_true rfl) (zRm_of rfl (Nat.zero_le _) (Nat.zero_le _)) dX8_able_2 (fun v1 h2 H locs hf E => ?_)
  refine lv_if_eq (tgt := 15) Z.x Z.b dX8_able_5 (by decide) (fun c => ?_) (fun c => ?_)
  · have hf := zit hf c
    refine lv_iconst (v := (-1)) Z.x Z.b dX8_able_15 (by decide) ?_
    exact z_iret Z E hr dX8_able_16 hf
  · have hf := zif_ hf c
    refine lv_iload_n Z.x Z.b dX8_able_8 rfl (lv_at hl 2 rfl) ?_
    refine z_Si (As := [.int a2]) Z E hl.1 k_X8_157 wt_X8_isRole hf (fun r h' e => c_X8_isRole l G h2 h' a2 r e) rfl rfl (Nat.le_of_ble_eq_true rfl) (zRm_of rfl (Nat.zero_le _) (Nat.zero_le _)) dX8_able_9 (fun v3 h4 H locs hf E => ?_)
    refine lv_if_ne (tgt := 17) Z.x Z.b dX8_able_12 (by decide) (fun c => ?_) (fun c => ?_)
    · have hf := zif_ hf c
      refine lv_iconst (v := 0) Z.x Z.b dX8_able_17 (by decide) ?_
      refine lv_istore_n (lv' := [(3, .int 0), (0, .ref a0), (1, .int a1), (2, .int a2)]) Z.x Z.b dX8_able_18 rfl hl (by decide) rfl (fun ls hl => ?_)
      refine lv_iconst (v := 0) Z.x Z.b dX8_able_19 (by decide) ?_
      refine lv_istore (lv' := [(4, .int 0), (3, .int 0), (0, .ref a0), (1, .int a1), (2, .int a2)]) Z.x Z.b dX8_able_20 hl (by decide) rfl (fun ls hl => ?_)
      exact t_X8_able_22 Z hr zN hf E (lv_sub hl [2, 3, 4, 1, 0] rfl)
    · have hf := zit hf c
      refine lv_iconst (v := (-1)) Z.x Z.b dX8_able_15 (by decide) ?_
      exact z_iret Z E hr dX8_able_16 hf
set_option maxHeartbeats 4000000 in
set_option maxRecDepth 20000 in
theorem c_X8_able (l : Launch) (G : zG) (h : zHp) (h' : zHp) (a0 : Nat) (a1 : Int32) (a2 : Int32) (r : Int32) (hf : f_X8_able a0 a1 a2 h = some (r, h')) : zM0 l yX8_able cX8_able 5 (some .int) rm_X8_able G [.ref a0, .int a1, .int a2] h (zQi G r h') := by
  refine Met.ofW (cc := cX8_able) (maxL := 5) (ret := (some .int)) (by decide) rfl ?_
  intro p e s m args below meth c s₁ B hml hv
  obtain ⟨rfl, hW⟩ := hv
  obtain ⟨Z, E, hr⟩ := zEnter (own := RX8) B hml rfl hW
  have hl := lv_entry ([.ref a0, .int a1, .int a2]) (n := 5) (Nat.le_of_ble_eq_true rfl)
  rw [lg_entry_eq]
  generalize (lg_sl ([.ref a0, .int a1, .int a2]) ++ List.replicate (5 - (lg_sl ([.ref a0, .int a1, .int a2])).length) Slot.unset).toArray = ls at hl ⊢
  have hl : lv_has ls 5 [(0, .ref a0), (1, .int a1), (2, .int a2)] := hl
  exact t_X8_able (out := (r, h')) Z hr hf E hl
/-! FerryCrewsModel.freeIfSick(II)I -/
theorem dX8_freeIfSick_0 : decode cX8_freeIfSick 0 = .ok (.aload_n 0, 1) := by decide +kernel
theorem dX8_freeIfSick_1 : decode cX8_freeIfSick 1 = .ok (.invokevirtual 142, 3) := by decide +kernel
theorem dX8_freeIfSick_4 : decode cX8_freeIfSick 4 = .ok (.aload_n 0, 1) := by decide +kernel
theorem dX8_freeIfSick_5 : decode cX8_freeIfSick 5 = .ok (.iload_n 1, 1) := by decide +kernel
theorem dX8_freeIfSick_6 : decode cX8_freeIfSick 6 = .ok (.iload_n 2, 1) := by decide +kernel
theorem dX8_freeIfSick_7 : decode cX8_freeIfSick 7 = .ok (.invokevirtual 170, 3) := by decide +kernel
theorem dX8_freeIfSick_10 : decode cX8_freeIfSick 10 = .ok (.istore_n 3, 1) := by decide +kernel
theorem dX8_freeIfSick_11 : decode cX8_freeIfSick 11 = .ok (.aload_n 0, 1) := by decide +kernel
theorem dX8_freeIfSick_12 : decode cX8_freeIfSick 12 = .ok (.invokevirtual 151, 3) := by decide +kernel
theorem dX8_freeIfSick_15 : decode cX8_freeIfSick 15 = .ok (.iload_n 3, 1) := by decide +kernel
theorem dX8_freeIfSick_16 : decode cX8_freeIfSick 16 = .ok (.ireturn, 1) := by decide +kernel
def rm_X8_freeIfSick : Room := { frames := 9, cells := 0, slots := 0, locals := 210 }
set_option maxHeartbeats 4000000 in
set_option maxRecDepth 20000 in
theorem t_X8_freeIfSick {p : Program} {l : Launch} {e : Env} {s : State} {m : MethodId} {args : Array Value} {below : List Frame} {meth : Method} {c : Code} {G : zG} (Z : zF p s m args c meth cX8_freeIfSick 4 RX8 G) (hr : meth.sig.returnType = (some .int)) {out : Int32 × zHp} {a0 : Nat} {a1 : Int32} {a2 : Int32} {h : zHp} {H : Heap} {locs : List Loc} {ls : Array Slot} (hf : f_X8_freeIfSick a0 a1 a2 h = some out) (E : zE G s h H locs) (hl : lv_has ls 4 [(0, .ref a0), (1, .int a1), (2, .int a2)]) : W p l e rm_X8_freeIfSick s m args below meth c H locs 0 0 (MQ below (zQi G out.1 out.2) args s 0 0 (zA G)) (F0 m 0 ls []) := by
  unfold f_X8_freeIfSick at hf
  refine lv_aload_n Z.x Z.b dX8_freeIfSick_0 rfl (lv_at hl 0 rfl) ?_
  refine z_Vv (As := []) Z E hl.1 k_X8_142 v_X8_lay hf (fun h' e => c_X8_lay l G h h' a0 e) rfl rfl (Nat.le_of_ble_eq_true rfl) (zRm_of rfl (Nat.zero_le _) (Nat.zero_le _)) dX8_freeIfSick_1 (fun h1 H locs hf E => ?_)
  refine lv_aload_n Z.x Z.b dX8_freeIfSick_4 rfl (lv_at hl 0 rfl) ?_
  refine lv_iload_n Z.x Z.b dX8_freeIfSick_5 rfl (lv_at hl 1 rfl) ?_
  refine lv_iload_n Z.x Z.b dX8_freeIfSick_6 rfl (lv_at hl 2 rfl) ?_
  refine z_Vi (As := [.int a1, .int a2]) Z E hl.1 k_X8_170 v_X8_sickNow hf (fun r h' e => c_X8_sickNow l G h1 h' a0 a1 a2 r e) rfl rfl (Nat.le_of_ble_eq_true rfl) (zRm_of rfl (Nat.zero_le _) (Nat.zero_le _)) dX8_freeIfSick_7 (fun v2 h3 H locs hf E => ?_)
  refine lv_istore_n (lv' := [(3, .int v2), (0, .ref a0), (1, .int a1), (2, .int a2)]) Z.x Z.b dX8_freeIfSick_10 rfl hl (by decide) rfl (fun ls hl => ?_)
  refine lv_aload_n Z.x Z.b dX8_freeIfSick_11 rfl (lv_at hl 1 rfl) ?_
  refine z_Vv (As := []) Z E hl.1 k_X8_151 v_X8_takeBack hf (fun h' e => c_X8_takeBack l G h3 h' a0 e) rfl rfl (Nat.le_of_ble_eq_true rfl) (zRm_of rfl (Nat.zero_le _) (Nat.zero_le _)) dX8_freeIfSick_12 (fun h4 H locs hf E => ?_)
  refine lv_iload_n Z.x Z.b dX8_freeIfSick_15 rfl (lv_at hl 0 rfl) ?_
  exact z_iret Z E hr dX8_freeIfSick_16 hf
set_option maxHeartbeats 4000000 in
set_option maxRecDepth 20000 in
theorem c_X8_freeIfSick (l : Launch) (G : zG) (h : zHp) (h' : zHp) (a0 : Nat) (a1 : Int32) (a2 : Int32) (r : Int32) (hf : f_X8_freeIfSick a0 a1 a2 h = some (r, h')) : zM0 l yX8_freeIfSick cX8_freeIfSick 4 (some .int) rm_X8_freeIfSick G [.ref a0, .int a1, .int a2] h (zQi G r h') := by
  refine Met.ofW (cc := cX8_freeIfSick) (maxL := 4) (ret := (some .int)) (by decide) rfl ?_
  intro p e s m args below meth c s₁ B hml hv
  obtain ⟨rfl, hW⟩ := hv
  obtain ⟨Z, E, hr⟩ := zEnter (own := RX8) B hml rfl hW
  have hl := lv_entry ([.ref a0, .int a1, .int a2]) (n := 4) (Nat.le_of_ble_eq_true rfl)
  rw [lg_entry_eq]
  generalize (lg_sl ([.ref a0, .int a1, .int a2]) ++ List.replicate (4 - (lg_sl ([.ref a0, .int a1, .int a2])).length) Slot.unset).toArray = ls at hl ⊢
  have hl : lv_has ls 4 [(0, .ref a0), (1, .int a1), (2, .int a2)] := hl
  exact t_X8_freeIfSick (out := (r, h')) Z hr hf E hl
/-! FerryCrewsModel.ifSick(II)I -/
theorem dX8_ifSick_0 : decode cX8_ifSick 0 = .ok (.aload_n 0, 1) := by decide +kernel
theorem dX8_ifSick_1 : decode cX8_ifSick 1 = .ok (.iload_n 1, 1) := by decide +kernel
theorem dX8_ifSick_2 : decode cX8_ifSick 2 = .ok (.invokevirtual 160, 3) := by decide +kernel
theorem dX8_ifSick_5 : decode cX8_ifSick 5 = .ok (.ifCond .ne 5, 3) := by decide +kernel
theorem dX8_ifSick_8 : decode cX8_ifSick 8 = .ok (.iconst (-1), 1) := by decide +kernel
theorem dX8_ifSick_9 : decode cX8_ifSick 9 = .ok (.ireturn, 1) := by decide +kernel
theorem dX8_ifSick_10 : decode cX8_ifSick 10 = .ok (.iload_n 2, 1) := by decide +kernel
theorem dX8_ifSick_11 : decode cX8_ifSick 11 = .ok (.iconst 1, 1) := by decide +kernel
theorem dX8_ifSick_12 : decode cX8_ifSick 12 = .ok (.sipush 400, 3) := by decide +kernel
theorem dX8_ifSick_15 : decode cX8_ifSick 15 = .ok (.invokestatic 42, 3) := by decide +kernel
theorem dX8_ifSick_18 : decode cX8_ifSick 18 = .ok (.ifCond .eq 12, 3) := by decide +kernel
theorem dX8_ifSick_21 : decode cX8_ifSick 21 = .ok (.aload_n 0, 1) := by decide +kernel
theorem dX8_ifSick_22 : decode cX8_ifSick 22 = .ok (.iload_n 1, 1) := by decide +kernel
theorem dX8_ifSick_23 : decode cX8_ifSick 23 = .ok (.iload_n 2, 1) := by decide +kernel
theorem dX8_ifSick_24 : decode cX8_ifSick 24 = .ok (.invokevirtual 219, 3) := by decide +kernel
theorem dX8_ifSick_27 : decode cX8_ifSick 27 = .ok (.goto 5, 3) := by decide +kernel
theorem dX8_ifSick_30 : decode cX8_ifSick 30 = .ok (.bipush (-2), 2) := by decide +kernel
theorem dX8_ifSick_32 : decode cX8_ifSick 32 = .ok (.ireturn, 1) := by decide +kernel
set_option maxRecDepth 20000 in
theorem wc_X8_freeIfSick : Cond.code yX8_freeIfSick cX8_freeIfSick 4 (some .int) ∈ zB := List.mem_filter.mpr ⟨List.mem_of_getElem? (i := 1167) (by decide +kernel), by decide +kernel⟩
set_option maxRecDepth 20000 in
theorem wm_X8_219 : Cond.methodLink RX8 219 yX8_freeIfSick ∈ zB := List.mem_filter.mpr ⟨List.mem_of_getElem? (i := 1164) (by decide +kernel), by decide +kernel⟩
theorem k_X8_219 : zCal RX8 219 yX8_freeIfSick cX8_freeIfSick 4 (some .int) 2 := ⟨wm_X8_219, wi_X8, wc_X8_freeIfSick, by decide +kernel, by decide +kernel, by decide +kernel⟩
set_option maxRecDepth 20000 in
theorem wn_X8_freeIfSick : Cond.instanceMethod yX8_freeIfSick ∈ zB := List.mem_filter.mpr ⟨List.mem_of_getElem? (i := 1166) (by decide +kernel), by decide +kernel⟩
set_option maxRecDepth 20000 in
theorem ws_X8_freeIfSick : Cond.selects RX8 yX8_freeIfSick yX8_freeIfSick ∈ zB := List.mem_filter.mpr ⟨List.mem_of_getElem? (i := 59) (by decide +kernel), by decide +kernel⟩
theorem v_X8_freeIfSick : zVir yX8_freeIfSick 8 := ⟨wn_X8_freeIfSick, ws_X8_freeIfSick, TX8, 12, rfl⟩
def rm_X8_ifSick : Room := { frames := 10, cells := 0, slots := 0, locals := 233 }
set_option maxHeartbeats 4000000 in
set_option maxRecDepth 20000 in
theorem t_X8_ifSick {p : Program} {l : Launch} {e : Env} {s : State} {m : MethodId} {args : Array Value} {below : List Frame} {meth : Method} {c : Code} {G : zG} (Z : zF p s m args c meth cX8_ifSick 3 RX8 G) (hr : meth.sig.returnType = (some .int)) {out : Int32 × zHp} {a0 : Nat} {a1 : Int32} {a2 : Int32} {h : zHp} {H : Heap} {locs : List Loc} {ls : Array Slot} (hf : f_X8_ifSick a0 a1 a2 h = some out) (E : zE G s h H locs) (hl : lv_has ls 3 [(0, .ref a0), (1, .int a1), (2, .int a2)]) : W p l e rm_X8_ifSick s m args below meth c H locs 0 0 (MQ below (zQi G out.1 out.2) args s 0 0 (zA G)) (F0 m 0 ls []) := by
  unfold f_X8_ifSick at hf
  refine lv_aload_n Z.x Z.b dX8_ifSick_0 rfl (lv_at hl 0 rfl) ?_
  refine lv_iload_n Z.x Z.b dX8_ifSick_1 rfl (lv_at hl 1 rfl) ?_
  refine z_Vi (As := [.int a1]) Z E hl.1 k_X8_160 v_X8_isMember hf (fun r h' e => c_X8_isMember l G h h' a0 a1 r e) rfl rfl (Nat.le_of_ble_eq_true rfl) (zRm_of rfl (Nat.zero_le _) (Nat.zero_le _)) dX8_ifSick_2 (fun v1 h2 H locs hf E => ?_)
  refine lv_if_ne (tgt := 10) Z.x Z.b dX8_ifSick_5 (by decide) (fun c => ?_) (fun c => ?_)
  · have hf := zif_ hf c
    refine lv_iload_n Z.x Z.b dX8_ifSick_10 rfl (lv_at hl 2 rfl) ?_
    refine lv_iconst (v := 1) Z.x Z.b dX8_ifSick_11 (by decide) ?_
    refine lv_sipush (v := 400) Z.x Z.b dX8_ifSick_12 (by decide) ?_
    refine z_Si (As := [.int a2, .int 1, .int 400]) Z E hl.1 k_X8_42 wt_X8_in hf (fun r h' e => c_X8_in l G h2 h' a2 1 400 r e) rfl rfl (Nat.le_of_ble_eq_true rfl) (zRm_of rfl (Nat.zero_le _) (Nat.zero_le _)) dX8_ifSick_15 (fun v3 h4 H locs hf E => ?_)
    refine lv_if_eq (tgt := 30) Z.x Z.b dX8_ifSick_18 (by decide) (fun c => ?_) (fun c => ?_)
    · have hf := zit hf c
      refine lv_bipush (v := (-2)) Z.x Z.b dX8_ifSick_30 (by decide) ?_
      exact z_iret Z E hr dX8_ifSick_32 hf
    · have hf := zif_ hf c
      refine lv_aload_n Z.x Z.b dX8_ifSick_21 rfl (lv_at hl 0 rfl) ?_
      refine lv_iload_n Z.x Z.b dX8_ifSick_22 rfl (lv_at hl 1 rfl) ?_
      refine lv_iload_n Z.x Z.b dX8_ifSick_23 rfl (lv_at hl 2 rfl) ?_
      refine z_Vi (As := [.int a1, .int a2]) Z E hl.1 k_X8_219 v_X8_freeIfSick hf (fun r h' e => c_X8_freeIfSick l G h4 h' a0 a1 a2 r e) rfl rfl (Nat.le_of_ble_eq_true rfl) (zRm_of rfl (Nat.zero_le _) (Nat.zero_le _)) dX8_ifSick_24 (fun v5 h6 H locs hf E => ?_)
      refine lv_goto (tgt := 32) Z.x Z.b dX8_ifSick_27 (by decide) ?_
      exact z_iret Z E hr dX8_ifSick_32 hf
  · have hf := zit hf c
    refine lv_iconst (v := (-1)) Z.x Z.b dX8_ifSick_8 (by decide) ?_
    exact z_iret Z E hr dX8_ifSick_9 hf
set_option maxHeartbeats 4000000 in
set_option maxRecDepth 20000 in
theorem c_X8_ifSick (l : Launch) (G : zG) (h : zHp) (h' : zHp) (a0 : Nat) (a1 : Int32) (a2 : Int32) (r : Int32) (hf : f_X8_ifSick a0 a1 a2 h = some (r, h')) : zM0 l yX8_ifSick cX8_ifSick 3 (some .int) rm_X8_ifSick G [.ref a0, .int a1, .int a2] h (zQi G r h') := by
  refine Met.ofW (cc := cX8_ifSick) (maxL := 3) (ret := (some .int)) (by decide) rfl ?_
  intro p e s m args below meth c s₁ B hml hv
  obtain ⟨rfl, hW⟩ := hv
  obtain ⟨Z, E, hr⟩ := zEnter (own := RX8) B hml rfl hW
  have hl := lv_entry ([.ref a0, .int a1, .int a2]) (n := 3) (Nat.le_of_ble_eq_true rfl)
  rw [lg_entry_eq]
  generalize (lg_sl ([.ref a0, .int a1, .int a2]) ++ List.replicate (3 - (lg_sl ([.ref a0, .int a1, .int a2])).length) Slot.unset).toArray = ls at hl ⊢
  have hl : lv_has ls 3 [(0, .ref a0), (1, .int a1), (2, .int a2)] := hl
  exact t_X8_ifSick (out := (r, h')) Z hr hf E hl
/-! FerryCrewsModel.weakest(I)I -/
theorem dX8_weakest_0 : decode cX8_weakest 0 = .ok (.iload_n 1, 1) := by decide +kernel
theorem dX8_weakest_1 : decode cX8_weakest 1 = .ok (.iconst 1, 1) := by decide +kernel
theorem dX8_weakest_2 : decode cX8_weakest 2 = .ok (.sipush 400, 3) := by decide +kernel
theorem dX8_weakest_5 : decode cX8_weakest 5 = .ok (.invokestatic 42, 3) := by decide +kernel
theorem dX8_weakest_8 : decode cX8_weakest 8 = .ok (.ifCond .ne 6, 3) := by decide +kernel
theorem dX8_weakest_11 : decode cX8_weakest 11 = .ok (.bipush (-2), 2) := by decide +kernel
theorem dX8_weakest_13 : decode cX8_weakest 13 = .ok (.ireturn, 1) := by decide +kernel
theorem dX8_weakest_14 : decode cX8_weakest 14 = .ok (.bipush (-5), 2) := by decide +kernel
theorem dX8_weakest_16 : decode cX8_weakest 16 = .ok (.istore_n 2, 1) := by decide +kernel
theorem dX8_weakest_17 : decode cX8_weakest 17 = .ok (.iconst 0, 1) := by decide +kernel
theorem dX8_weakest_18 : decode cX8_weakest 18 = .ok (.istore_n 3, 1) := by decide +kernel
theorem dX8_weakest_19 : decode cX8_weakest 19 = .ok (.iconst 0, 1) := by decide +kernel
theorem dX8_weakest_20 : decode cX8_weakest 20 = .ok (.istore 4, 2) := by decide +kernel
theorem dX8_weakest_22 : decode cX8_weakest 22 = .ok (.iload 4, 2) := by decide +kernel
theorem dX8_weakest_24 : decode cX8_weakest 24 = .ok (.aload_n 0, 1) := by decide +kernel
theorem dX8_weakest_25 : decode cX8_weakest 25 = .ok (.getfield 7, 3) := by decide +kernel
theorem dX8_weakest_28 : decode cX8_weakest 28 = .ok (.iconst 2, 1) := by decide +kernel
theorem dX8_weakest_29 : decode cX8_weakest 29 = .ok (.iaload, 1) := by decide +kernel
theorem dX8_weakest_30 : decode cX8_weakest 30 = .ok (.if_icmp .ge 36, 3) := by decide +kernel
theorem dX8_weakest_33 : decode cX8_weakest 33 = .ok (.aload_n 0, 1) := by decide +kernel
theorem dX8_weakest_34 : decode cX8_weakest 34 = .ok (.iload 4, 2) := by decide +kernel
theorem dX8_weakest_36 : decode cX8_weakest 36 = .ok (.iload_n 1, 1) := by decide +kernel
theorem dX8_weakest_37 : decode cX8_weakest 37 = .ok (.invokevirtual 219, 3) := by decide +kernel
theorem dX8_weakest_40 : decode cX8_weakest 40 = .ok (.istore 5, 2) := by decide +kernel
theorem dX8_weakest_42 : decode cX8_weakest 42 = .ok (.iload_n 2, 1) := by decide +kernel
theorem dX8_weakest_43 : decode cX8_weakest 43 = .ok (.bipush (-5), 2) := by decide +kernel
theorem dX8_weakest_45 : decode cX8_weakest 45 = .ok (.if_icmp .eq 9, 3) := by decide +kernel
theorem dX8_weakest_48 : decode cX8_weakest 48 = .ok (.iload 5, 2) := by decide +kernel
theorem dX8_weakest_50 : decode cX8_weakest 50 = .ok (.iload_n 3, 1) := by decide +kernel
theorem dX8_weakest_51 : decode cX8_weakest 51 = .ok (.if_icmp .le 9, 3) := by decide +kernel
theorem dX8_weakest_54 : decode cX8_weakest 54 = .ok (.iload 4, 2) := by decide +kernel
theorem dX8_weakest_56 : decode cX8_weakest 56 = .ok (.istore_n 2, 1) := by decide +kernel
theorem dX8_weakest_57 : decode cX8_weakest 57 = .ok (.iload 5, 2) := by decide +kernel
theorem dX8_weakest_59 : decode cX8_weakest 59 = .ok (.istore_n 3, 1) := by decide +kernel
theorem dX8_weakest_60 : decode cX8_weakest 60 = .ok (.iinc 4 1, 3) := by decide +kernel
theorem dX8_weakest_63 : decode cX8_weakest 63 = .ok (.goto (-41), 3) := by decide +kernel
theorem dX8_weakest_66 : decode cX8_weakest 66 = .ok (.iload_n 2, 1) := by decide +kernel
theorem dX8_weakest_67 : decode cX8_weakest 67 = .ok (.ireturn, 1) := by decide +kernel
def rm_X8_weakest : Room := { frames := 10, cells := 0, slots := 0, locals := 233 }
set_option maxHeartbeats 4000000 in
set_option maxRecDepth 20000 in
theorem t_X8_weakest_60 {p : Program} {l : Launch} {e : Env} {s : State} {m : MethodId} {args : Array Value} {below : List Frame} {meth : Method} {c : Code} {G : zG} (Z : zF p s m args c meth cX8_weakest 6 RX8 G) (hr : meth.sig.returnType = (some .int)) {out : Int32 × zHp} {r22 : Nat → Int32 → Int32 → Int32 → Int32 → zHp → Option (Int32 × zHp)} (k22 : ∀ {a0 : Nat} {a1 : Int32} {a2 : Int32} {a3 : Int32} {a4 : Int32} {h : zHp} {H : Heap} {locs : List Loc} {ls : Array Slot}, r22 a0 a1 a2 a3 a4 h = some out → zE G s h H locs → lv_has ls 6 [(0, .ref a0), (1, .int a1), (2, .int a2), (3, .int a3), (4, .int a4)] → W p l e rm_X8_weakest s m args below meth c H locs 0 0 (MQ below (zQi G out.1 out.2) args s 0 0 (zA G)) (F0 m 22 ls [])) {a0 : Nat} {a1 : Int32} {a2 : Int32} {a3 : Int32} {a4 : Int32} {h : zHp} {H : Heap} {locs : List Loc} {ls : Array Slot} (hf : f_X8_weakest_60 r22 a0 a1 a2 a3 a4 h = some out) (E : zE G s h H locs) (hl : lv_has ls 6 [(0, .ref a0), (1, .int a1), (2, .int a2), (3, .int a3), (4, .int a4)]) : W p l e rm_X8_weakest s m args below meth c H locs 0 0 (MQ below (zQi G out.1 out.2) args s 0 0 (zA G)) (F0 m 60 ls []) := by
  unfold f_X8_weakest_60 at hf
  refine lv_iinc (v := (a4 + 1)) (lv' := [(4, .int (a4 + 1)), (0, .ref a0), (1, .int a1), (2, .int a2), (3, .int a3)]) Z.x Z.b dX8_weakest_60 hl (k := 4) rfl rfl (by decide) rfl (fun ls hl => ?_)
  refine lv_goto (tgt := 22) Z.x Z.b dX8_weakest_63 (by decide) ?_
  exact k22 hf E (lv_sub hl [1, 2, 3, 4, 0] rfl)
set_option maxHeartbeats 4000000 in
set_option maxRecDepth 20000 in
theorem t_X8_weakest_54 {p : Program} {l : Launch} {e : Env} {s : State} {m : MethodId} {args : Array Value} {below : List Frame} {meth : Method} {c : Code} {G : zG} (Z : zF p s m args c meth cX8_weakest 6 RX8 G) (hr : meth.sig.returnType = (some .int)) {out : Int32 × zHp} {r22 : Nat → Int32 → Int32 → Int32 → Int32 → zHp → Option (Int32 × zHp)} (k22 : ∀ {a0 : Nat} {a1 : Int32} {a2 : Int32} {a3 : Int32} {a4 : Int32} {h : zHp} {H : Heap} {locs : List Loc} {ls : Array Slot}, r22 a0 a1 a2 a3 a4 h = some out → zE G s h H locs → lv_has ls 6 [(0, .ref a0), (1, .int a1), (2, .int a2), (3, .int a3), (4, .int a4)] → W p l e rm_X8_weakest s m args below meth c H locs 0 0 (MQ below (zQi G out.1 out.2) args s 0 0 (zA G)) (F0 m 22 ls [])) {a0 : Nat} {a1 : Int32} {a4 : Int32} {a5 : Int32} {h : zHp} {H : Heap} {locs : List Loc} {ls : Array Slot} (hf : f_X8_weakest_54 r22 a0 a1 a4 a5 h = some out) (E : zE G s h H locs) (hl : lv_has ls 6 [(0, .ref a0), (1, .int a1), (4, .int a4), (5, .int a5)]) : W p l e rm_X8_weakest s m args below meth c H locs 0 0 (MQ below (zQi G out.1 out.2) args s 0 0 (zA G)) (F0 m 54 ls []) := by
  unfold f_X8_weakest_54 at hf
  refine lv_iload Z.x Z.b dX8_weakest_54 (lv_at hl 2 rfl) ?_
  refine lv_istore_n (lv' := [(2, .int a4), (0, .ref a0), (1, .int a1), (4, .int a4), (5, .int a5)]) Z.x Z.b dX8_weakest_56 rfl hl (by decide) rfl (fun ls hl => ?_)
  refine lv_iload Z.x Z.b dX8_weakest_57 (lv_at hl 4 rfl) ?_
  refine lv_istore_n (lv' := [(3, .int a5), (2, .int a4), (0, .ref a0), (1, .int a1), (4, .int a4), (5, .int a5)]) Z.x Z.b dX8_weakest_59 rfl hl (by decide) rfl (fun ls hl => ?_)
  exact t_X8_weakest_60 Z hr k22 hf E (lv_sub hl [2, 3, 1, 0, 4] rfl)
set_option maxHeartbeats 4000000 in
set_option maxRecDepth 20000 in
theorem t_X8_weakest_22_body {p : Program} {l : Launch} {e : Env} {s : State} {m : MethodId} {args : Array Value} {below : List Frame} {meth : Method} {c : Code} {G : zG} (Z : zF p s m args c meth cX8_weakest 6 RX8 G) (hr : meth.sig.returnType = (some .int)) {out : Int32 × zHp} {r22 : Nat → Int32 → Int32 → Int32 → Int32 → zHp → Option (Int32 × zHp)} (k22 : ∀ {a0 : Nat} {a1 : Int32} {a2 : Int32} {a3 : Int32} {a4 : Int32} {h : zHp} {H : Heap} {locs : List Loc} {ls : Array Slot}, r22 a0 a1 a2 a3 a4 h = some out → zE G s h H locs → lv_has ls 6 [(0, .ref a0), (1, .int a1), (2, .int a2), (3, .int a3), (4, .int a4)] → W p l e rm_X8_weakest s m args below meth c H locs 0 0 (MQ below (zQi G out.1 out.2) args s 0 0 (zA G)) (F0 m 22 ls [])) {a0 : Nat} {a1 : Int32} {a2 : Int32} {a3 : Int32} {a4 : Int32} {h : zHp} {H : Heap} {locs : List Loc} {ls : Array Slot} (hf : f_X8_weakest_22_body r22 a0 a1 a2 a3 a4 h = some out) (E : zE G s h H locs) (hl : lv_has ls 6 [(0, .ref a0), (1, .int a1), (2, .int a2), (3, .int a3), (4, .int a4)]) : W p l e rm_X8_weakest s m args below meth c H locs 0 0 (MQ below (zQi G out.1 out.2) args s 0 0 (zA G)) (F0 m 22 ls []) := by
  unfold f_X8_weakest_22_body at hf
  refine lv_iload Z.x Z.b dX8_weakest_22 (lv_at hl 4 rfl) ?_
  refine lv_aload_n Z.x Z.b dX8_weakest_24 rfl (lv_at hl 0 rfl) ?_
  refine z_getR Z E q_X8_7 dX8_weakest_25 hf (fun v1 hf => ?_)
  refine lv_iconst (v := 2) Z.x Z.b dX8_weakest_28 (by decide) ?_
  refine z_iald Z E dX8_weakest_29 hf (fun v2 hf => ?_)
  refine lv_icmp_ge (tgt := 66) Z.x Z.b dX8_weakest_30 (by decide) (fun c => ?_) (fun c => ?_)
  · have hf := zit hf c
    refine lv_iload_n Z.x Z.b dX8_weakest_66 rfl (lv_at hl 2 rfl) ?_
    exact z_iret Z E hr dX8_weakest_67 hf
  · have hf := zif_ hf c
    refine lv_aload_n Z.x Z.b dX8_weakest_33 rfl (lv_at hl 0 rfl) ?_
    refine lv_iload Z.x Z.b dX8_weakest_34 (lv_at hl 4 rfl) ?_
    refine lv_iload_n Z.x Z.b dX8_weakest_36 rfl (lv_at hl 1 rfl) ?_
    refine z_Vi (As := [.int a4, .int a1]) Z E hl.1 k_X8_219 v_X8_freeIfSick hf (fun r h' e => c_X8_freeIfSick l G h h' a0 a4 a1 r e) rfl rfl (Nat.le_of_ble_eq_true rfl) (zRm_of rfl (Nat.zero_le _) (Nat.zero_le _)) dX8_weakest_37 (fun v3 h4 H locs hf E => ?_)
    refine lv_istore (lv' := [(5, .int v3), (0, .ref a0), (1, .int a1), (2, .int a2), (3, .int a3), (4, .int a4)]) Z.x Z.b dX8_weakest_40 hl (by decide) rfl (fun ls hl => ?_)
    refine lv_iload_n Z.x Z.b dX8_weakest_42 rfl (lv_at hl 3 rfl) ?_
    refine lv_bipush (v := (-5)) Z.x Z.b dX8_weakest_43 (by decide) ?_
    refine lv_icmp_eq (tgt := 54) Z.x Z.b dX8_weakest_45 (by decide) (fun c => ?_) (fun c => ?_)
    · have hf := zit hf c
      exact t_X8_weakest_54 Z hr k22 hf E (lv_sub hl [1, 2, 5, 0] rfl)
    · have hf := zif_ hf c
      refine lv_iload Z.x Z.b dX8_weakest_48 (lv_at hl 0 rfl) ?_
      refine lv_iload_n Z.x Z.b dX8_weakest_50 rfl (lv_at hl 4 rfl) ?_
      refine lv_icmp_le (tgt := 60) Z.x Z.b dX8_weakest_51 (by decide) (fun c => ?_) (fun c => ?_)
      · have hf := zit hf c
        exact t_X8_weakest_60 Z hr k22 hf E (lv_sub hl [1, 2, 3, 4, 5] rfl)
      · have hf := zif_ hf c
        exact t_X8_weakest_54 Z hr k22 hf E (lv_sub hl [1, 2, 5, 0] rfl)
theorem t_X8_weakest_22 {p : Program} {l : Launch} {e : Env} {s : State} {m : MethodId} {args : Array Value} {below : List Frame} {meth : Method} {c : Code} {G : zG} (Z : zF p s m args c meth cX8_weakest 6 RX8 G) (hr : meth.sig.returnType = (some .int)) {out : Int32 × zHp} : ∀ (n : Nat), ∀ {a0 : Nat} {a1 : Int32} {a2 : Int32} {a3 : Int32} {a4 : Int32} {h : zHp} {H : Heap} {locs : List Loc} {ls : Array Slot}, f_X8_weakest_22 n a0 a1 a2 a3 a4 h = some out → zE G s h H locs → lv_has ls 6 [(0, .ref a0), (1, .int a1), (2, .int a2), (3, .int a3), (4, .int a4)] → W p l e rm_X8_weakest s m args below meth c H locs 0 0 (MQ below (zQi G out.1 out.2) args s 0 0 (zA G)) (F0 m 22 ls [])
  | 0 => fun hf => by cases hf
  | n + 1 => fun hf E hl => t_X8_weakest_22_body Z hr (r22 := f_X8_weakest_22 n) (t_X8_weakest_22 Z hr n) hf E hl
set_option maxHeartbeats 4000000 in
set_option maxRecDepth 20000 in
theorem t_X8_weakest {p : Program} {l : Launch} {e : Env} {s : State} {m : MethodId} {args : Array Value} {below : List Frame} {meth : Method} {c : Code} {G : zG} (Z : zF p s m args c meth cX8_weakest 6 RX8 G) (hr : meth.sig.returnType = (some .int)) {out : Int32 × zHp} {a0 : Nat} {a1 : Int32} {h : zHp} {H : Heap} {locs : List Loc} {ls : Array Slot} (hf : f_X8_weakest a0 a1 h = some out) (E : zE G s h H locs) (hl : lv_has ls 6 [(0, .ref a0), (1, .int a1)]) : W p l e rm_X8_weakest s m args below meth c H locs 0 0 (MQ below (zQi G out.1 out.2) args s 0 0 (zA G)) (F0 m 0 ls []) := by
  unfold f_X8_weakest at hf
  refine lv_iload_n Z.x Z.b dX8_weakest_0 rfl (lv_at hl 1 rfl) ?_
  refine lv_iconst (v := 1) Z.x Z.b dX8_weakest_1 (by decide) ?_
  refine lv_sipush (v := 400) Z.x Z.b dX8_weakest_2 (by decide) ?_
  refine z_Si (As := [.int a1, .int 1, .int 400]) Z E hl.1 k_X8_42 wt_X8_in hf (fun r h' e => c_X8_in l G h h' a1 1 400 r e) rfl rfl (Nat.le_of_ble_eq_true rfl) (zRm_of rfl (Nat.zero_le _) (Nat.zero_le _)) dX8_weakest_5 (fun v1 h2 H locs hf E => ?_)
  refine lv_if_ne (tgt := 14) Z.x Z.b dX8_weakest_8 (by decide) (fun c => ?_) (fun c => ?_)
  · have hf := zif_ hf c
    refine lv_bipush (v := (-5)) Z.x Z.b dX8_weakest_14 (by decide) ?_
    refine lv_istore_n (lv' := [(2, .int (-5)), (0, .ref a0), (1, .int a1)]) Z.x Z.b dX8_weakest_16 rfl hl (by decide) rfl (fun ls hl => ?_)
    refine lv_iconst (v := 0) Z.x Z.b dX8_weakest_17 (by decide) ?_
    refine lv_istore_n (lv' := [(3, .int 0), (2, .int (-5)), (0, .ref a0), (1, .int a1)]) Z.x Z.b dX8_weakest_18 rfl hl (by decide) rfl (fun ls hl => ?_)
    refine lv_iconst (v := 0) Z.x Z.b dX8_weakest_19 (by decide) ?_
    refine lv_istore (lv' := [(4, .int 0), (3, .int 0), (2, .int (-5)), (0, .ref a0), (1, .int a1)]) Z.x Z.b dX8_weakest_20 hl (by decide) rfl (fun ls hl => ?_)
    exact t_X8_weakest_22 Z hr zN hf E (lv_sub hl [3, 4, 2, 1, 0] rfl)
  · have hf := zit hf c
    refine lv_bipush (v := (-2)) Z.x Z.b dX8_weakest_11 (by decide) ?_
    exact z_iret Z E hr dX8_weakest_13 hf
set_option maxHeartbeats 4000000 in
set_option maxRecDepth 20000 in
theorem c_X8_weakest (l : Launch) (G : zG) (h : zHp) (h' : zHp) (a0 : Nat) (a1 : Int32) (r : Int32) (hf : f_X8_weakest a0 a1 h = some (r, h')) : zM0 l yX8_weakest cX8_weakest 6 (some .int) rm_X8_weakest G [.ref a0, .int a1] h (zQi G r h') := by
  refine Met.ofW (cc := cX8_weakest) (maxL := 6) (ret := (some .int)) (by decide) rfl ?_
  intro p e s m args below meth c s₁ B hml hv
  obtain ⟨rfl, hW⟩ := hv
  obtain ⟨Z, E, hr⟩ := zEnter (own := RX8) B hml rfl hW
  have hl := lv_entry ([.ref a0, .int a1]) (n := 6) (Nat.le_of_ble_eq_true rfl)
  rw [lg_entry_eq]
  generalize (lg_sl ([.ref a0, .int a1]) ++ List.replicate (6 - (lg_sl ([.ref a0, .int a1])).length) Slot.unset).toArray = ls at hl ⊢
  have hl : lv_has ls 6 [(0, .ref a0), (1, .int a1)] := hl
  exact t_X8_weakest (out := (r, h')) Z hr hf E hl
/-! FerryCrewsModel.atRisk()I -/
theorem dX8_atRisk_0 : decode cX8_atRisk 0 = .ok (.bipush (-5), 2) := by decide +kernel
theorem dX8_atRisk_2 : decode cX8_atRisk 2 = .ok (.istore_n 1, 1) := by decide +kernel
theorem dX8_atRisk_3 : decode cX8_atRisk 3 = .ok (.iconst 0, 1) := by decide +kernel
theorem dX8_atRisk_4 : decode cX8_atRisk 4 = .ok (.istore_n 2, 1) := by decide +kernel
theorem dX8_atRisk_5 : decode cX8_atRisk 5 = .ok (.iload_n 2, 1) := by decide +kernel
theorem dX8_atRisk_6 : decode cX8_atRisk 6 = .ok (.aload_n 0, 1) := by decide +kernel
theorem dX8_atRisk_7 : decode cX8_atRisk 7 = .ok (.getfield 7, 3) := by decide +kernel
theorem dX8_atRisk_10 : decode cX8_atRisk 10 = .ok (.iconst 1, 1) := by decide +kernel
theorem dX8_atRisk_11 : decode cX8_atRisk 11 = .ok (.iaload, 1) := by decide +kernel
theorem dX8_atRisk_12 : decode cX8_atRisk 12 = .ok (.if_icmp .ge 49, 3) := by decide +kernel
theorem dX8_atRisk_15 : decode cX8_atRisk 15 = .ok (.aload_n 0, 1) := by decide +kernel
theorem dX8_atRisk_16 : decode cX8_atRisk 16 = .ok (.iload_n 2, 1) := by decide +kernel
theorem dX8_atRisk_17 : decode cX8_atRisk 17 = .ok (.iconst 0, 1) := by decide +kernel
theorem dX8_atRisk_18 : decode cX8_atRisk 18 = .ok (.invokevirtual 62, 3) := by decide +kernel
theorem dX8_atRisk_21 : decode cX8_atRisk 21 = .ok (.ifCond .eq 34, 3) := by decide +kernel
theorem dX8_atRisk_24 : decode cX8_atRisk 24 = .ok (.aload_n 0, 1) := by decide +kernel
theorem dX8_atRisk_25 : decode cX8_atRisk 25 = .ok (.iload_n 2, 1) := by decide +kernel
theorem dX8_atRisk_26 : decode cX8_atRisk 26 = .ok (.invokevirtual 116, 3) := by decide +kernel
theorem dX8_atRisk_29 : decode cX8_atRisk 29 = .ok (.ifCond .le 26, 3) := by decide +kernel
theorem dX8_atRisk_32 : decode cX8_atRisk 32 = .ok (.iload_n 1, 1) := by decide +kernel
theorem dX8_atRisk_33 : decode cX8_atRisk 33 = .ok (.bipush (-5), 2) := by decide +kernel
theorem dX8_atRisk_35 : decode cX8_atRisk 35 = .ok (.if_icmp .eq 18, 3) := by decide +kernel
theorem dX8_atRisk_38 : decode cX8_atRisk 38 = .ok (.aload_n 0, 1) := by decide +kernel
theorem dX8_atRisk_39 : decode cX8_atRisk 39 = .ok (.iload_n 2, 1) := by decide +kernel
theorem dX8_atRisk_40 : decode cX8_atRisk 40 = .ok (.iconst 2, 1) := by decide +kernel
theorem dX8_atRisk_41 : decode cX8_atRisk 41 = .ok (.invokevirtual 38, 3) := by decide +kernel
theorem dX8_atRisk_44 : decode cX8_atRisk 44 = .ok (.aload_n 0, 1) := by decide +kernel
theorem dX8_atRisk_45 : decode cX8_atRisk 45 = .ok (.iload_n 1, 1) := by decide +kernel
theorem dX8_atRisk_46 : decode cX8_atRisk 46 = .ok (.iconst 2, 1) := by decide +kernel
theorem dX8_atRisk_47 : decode cX8_atRisk 47 = .ok (.invokevirtual 38, 3) := by decide +kernel
theorem dX8_atRisk_50 : decode cX8_atRisk 50 = .ok (.if_icmp .ge 5, 3) := by decide +kernel
theorem dX8_atRisk_53 : decode cX8_atRisk 53 = .ok (.iload_n 2, 1) := by decide +kernel
theorem dX8_atRisk_54 : decode cX8_atRisk 54 = .ok (.istore_n 1, 1) := by decide +kernel
theorem dX8_atRisk_55 : decode cX8_atRisk 55 = .ok (.iinc 2 1, 3) := by decide +kernel
theorem dX8_atRisk_58 : decode cX8_atRisk 58 = .ok (.goto (-53), 3) := by decide +kernel
theorem dX8_atRisk_61 : decode cX8_atRisk 61 = .ok (.iload_n 1, 1) := by decide +kernel
theorem dX8_atRisk_62 : decode cX8_atRisk 62 = .ok (.ireturn, 1) := by decide +kernel
def rm_X8_atRisk : Room := { frames := 4, cells := 0, slots := 0, locals := 88 }
set_option maxHeartbeats 4000000 in
set_option maxRecDepth 20000 in
theorem t_X8_atRisk_55 {p : Program} {l : Launch} {e : Env} {s : State} {m : MethodId} {args : Array Value} {below : List Frame} {meth : Method} {c : Code} {G : zG} (Z : zF p s m args c meth cX8_atRisk 3 RX8 G) (hr : meth.sig.returnType = (some .int)) {out : Int32 × zHp} {r5 : Nat → Int32 → Int32 → zHp → Option (Int32 × zHp)} (k5 : ∀ {a0 : Nat} {a1 : Int32} {a2 : Int32} {h : zHp} {H : Heap} {locs : List Loc} {ls : Array Slot}, r5 a0 a1 a2 h = some out → zE G s h H locs → lv_has ls 3 [(0, .ref a0), (1, .int a1), (2, .int a2)] → W p l e rm_X8_atRisk s m args below meth c H locs 0 0 (MQ below (zQi G out.1 out.2) args s 0 0 (zA G)) (F0 m 5 ls [])) {a0 : Nat} {a1 : Int32} {a2 : Int32} {h : zHp} {H : Heap} {locs : List Loc} {ls : Array Slot} (hf : f_X8_atRisk_55 r5 a0 a1 a2 h = some out) (E : zE G s h H locs) (hl : lv_has ls 3 [(0, .ref a0), (1, .int a1), (2, .int a2)]) : W p l e rm_X8_atRisk s m args below meth c H locs 0 0 (MQ below (zQi G out.1 out.2) args s 0 0 (zA G)) (F0 m 55 ls []) := by
  unfold f_X8_atRisk_55 at hf
  refine lv_iinc (v := (a2 + 1)) (lv' := [(2, .int (a2 + 1)), (0, .ref a0), (1, .int a1)]) Z.x Z.b dX8_atRisk_55 hl (k := 2) rfl rfl (by decide) rfl (fun ls hl => ?_)
  refine lv_goto (tgt := 5) Z.x Z.b dX8_atRisk_58 (by decide) ?_
  exact k5 hf E (lv_sub hl [1, 2, 0] rfl)
set_option maxHeartbeats 4000000 in
set_option maxRecDepth 20000 in
theorem t_X8_atRisk_53 {p : Program} {l : Launch} {e : Env} {s : State} {m : MethodId} {args : Array Value} {below : List Frame} {meth : Method} {c : Code} {G : zG} (Z : zF p s m args c meth cX8_atRisk 3 RX8 G) (hr : meth.sig.returnType = (some .int)) {out : Int32 × zHp} {r5 : Nat → Int32 → Int32 → zHp → Option (Int32 × zHp)} (k5 : ∀ {a0 : Nat} {a1 : Int32} {a2 : Int32} {h : zHp} {H : Heap} {locs : List Loc} {ls : Array Slot}, r5 a0 a1 a2 h = some out → zE G s h H locs → lv_has ls 3 [(0, .ref a0), (1, .int a1), (2, .int a2)] → W p l e rm_X8_atRisk s m args below meth c H locs 0 0 (MQ below (zQi G out.1 out.2) args s 0 0 (zA G)) (F0 m 5 ls [])) {a0 : Nat} {a2 : Int32} {h : zHp} {H : Heap} {locs : List Loc} {ls : Array Slot} (hf : f_X8_atRisk_53 r5 a0 a2 h = some out) (E : zE G s h H locs) (hl : lv_has ls 3 [(0, .ref a0), (2, .int a2)]) : W p l e rm_X8_atRisk s m args below meth c H locs 0 0 (MQ below (zQi G out.1 out.2) args s 0 0 (zA G)) (F0 m 53 ls []) := by
  unfold f_X8_atRisk_53 at hf
  refine lv_iload_n Z.x Z.b dX8_atRisk_53 rfl (lv_at hl 1 rfl) ?_
  refine lv_istore_n (lv' := [(1, .int a2), (0, .ref a0), (2, .int a2)]) Z.x Z.b dX8_atRisk_54 rfl hl (by decide) rfl (fun ls hl => ?_)
  exact t_X8_atRisk_55 Z hr k5 hf E (lv_sub hl [1, 0, 2] rfl)
set_option maxHeartbeats 4000000 in
set_option maxRecDepth 20000 in
theorem t_X8_atRisk_5_body {p : Program} {l : Launch} {e : Env} {s : State} {m : MethodId} {args : Array Value} {below : List Frame} {meth : Method} {c : Code} {G : zG} (Z : zF p s m args c meth cX8_atRisk 3 RX8 G) (hr : meth.sig.returnType = (some .int)) {out : Int32 × zHp} {r5 : Nat → Int32 → Int32 → zHp → Option (Int32 × zHp)} (k5 : ∀ {a0 : Nat} {a1 : Int32} {a2 : Int32} {h : zHp} {H : Heap} {locs : List Loc} {ls : Array Slot}, r5 a0 a1 a2 h = some out → zE G s h H locs → lv_has ls 3 [(0, .ref a0), (1, .int a1), (2, .int a2)] → W p l e rm_X8_atRisk s m args below meth c H locs 0 0 (MQ below (zQi G out.1 out.2) args s 0 0 (zA G)) (F0 m 5 ls [])) {a0 : Nat} {a1 : Int32} {a2 : Int32} {h : zHp} {H : Heap} {locs : List Loc} {ls : Array Slot} (hf : f_X8_atRisk_5_body r5 a0 a1 a2 h = some out) (E : zE G s h H locs) (hl : lv_has ls 3 [(0, .ref a0), (1, .int a1), (2, .int a2)]) : W p l e rm_X8_atRisk s m args below meth c H locs 0 0 (MQ below (zQi G out.1 out.2) args s 0 0 (zA G)) (F0 m 5 ls []) := by
  unfold f_X8_atRisk_5_body at hf
  refine lv_iload_n Z.x Z.b dX8_atRisk_5 rfl (lv_at hl 2 rfl) ?_
  refine lv_aload_n Z.x Z.b dX8_atRisk_6 rfl (lv_at hl 0 rfl) ?_
  refine z_getR Z E q_X8_7 dX8_atRisk_7 hf (fun v1 hf => ?_)
  refine lv_iconst (v := 1) Z.x Z.b dX8_atRisk_10 (by decide) ?_
  refine z_iald Z E dX8_atRisk_11 hf (fun v2 hf => ?_)
  refine lv_icmp_ge (tgt := 61) Z.x Z.b dX8_atRisk_12 (by decide) (fun c => ?_) (fun c => ?_)
  · have hf := zit hf c
    refine lv_iload_n Z.x Z.b dX8_atRisk_61 rfl (lv_at hl 1 rfl) ?_
    exact z_iret Z E hr dX8_atRisk_62 hf
  · have hf := zif_ hf c
    refine lv_aload_n Z.x Z.b dX8_atRisk_15 rfl (lv_at hl 0 rfl) ?_
    refine lv_iload_n Z.x Z.b dX8_atRisk_16 rfl (lv_at hl 2 rfl) ?_
    refine lv_iconst (v := 0) Z.x Z.b dX8_atRisk_17 (by decide) ?_
    refine z_Vi (As := [.int a2, .int 0]) Z E hl.1 k_X8_62 v_X8_is hf (fun r h' e => c_X8_is l G h h' a0 a2 0 r e) rfl rfl (Nat.le_of_ble_eq_true rfl) (zRm_of rfl (Nat.zero_le _) (Nat.zero_le _)) dX8_atRisk_18 (fun v3 h4 H locs hf E => ?_)
    refine lv_if_eq (tgt := 55) Z.x Z.b dX8_atRisk_21 (by decide) (fun c => ?_) (fun c => ?_)
    · have hf := zit hf c
      exact t_X8_atRisk_55 Z hr k5 hf E (lv_sub hl [0, 1, 2] rfl)
    · have hf := zif_ hf c
      refine lv_aload_n Z.x Z.b dX8_atRisk_24 rfl (lv_at hl 0 rfl) ?_
      refine lv_iload_n Z.x Z.b dX8_atRisk_25 rfl (lv_at hl 2 rfl) ?_
      refine z_Vi (As := [.int a2]) Z E hl.1 k_X8_116 v_X8_freeOf hf (fun r h' e => c_X8_freeOf l G h4 h' a0 a2 r e) rfl rfl (Nat.le_of_ble_eq_true rfl) (zRm_of rfl (Nat.zero_le _) (Nat.zero_le _)) dX8_atRisk_26 (fun v5 h6 H locs hf E => ?_)
      refine lv_if_le (tgt := 55) Z.x Z.b dX8_atRisk_29 (by decide) (fun c => ?_) (fun c => ?_)
      · have hf := zit hf c
        exact t_X8_atRisk_55 Z hr k5 hf E (lv_sub hl [0, 1, 2] rfl)
      · have hf := zif_ hf c
        refine lv_iload_n Z.x Z.b dX8_atRisk_32 rfl (lv_at hl 1 rfl) ?_
        refine lv_bipush (v := (-5)) Z.x Z.b dX8_atRisk_33 (by decide) ?_
        refine lv_icmp_eq (tgt := 53) Z.x Z.b dX8_atRisk_35 (by decide) (fun c => ?_) (fun c => ?_)
        · have hf := zit hf c
          exact t_X8_atRisk_53 Z hr k5 hf E (lv_sub hl [0, 2] rfl)
        · have hf := zif_ hf c
          refine lv_aload_n Z.x Z.b dX8_atRisk_38 rfl (lv_at hl 0 rfl) ?_
          refine lv_iload_n Z.x Z.b dX8_atRisk_39 rfl (lv_at hl 2 rfl) ?_
          refine lv_iconst (v := 2) Z.x Z.b dX8_atRisk_40 (by decide) ?_
          refine z_Vi (As := [.int a2, .int 2]) Z E hl.1 k_X8_38 v_X8_of hf (fun r h' e => c_X8_of l G h6 h' a0 a2 2 r e) rfl rfl (Nat.le_of_ble_eq_true rfl) (zRm_of rfl (Nat.zero_le _) (Nat.zero_le _)) dX8_atRisk_41 (fun v7 h8 H locs hf E => ?_)
          refine lv_aload_n Z.x Z.b dX8_atRisk_44 rfl (lv_at hl 0 rfl) ?_
          refine lv_iload_n Z.x Z.b dX8_atRisk_45 rfl (lv_at hl 1 rfl) ?_
          refine lv_iconst (v := 2) Z.x Z.b dX8_atRisk_46 (by decide) ?_
          refine z_Vi (As := [.int a1, .int 2]) Z E hl.1 k_X8_38 v_X8_of hf (fun r h' e => c_X8_of l G h8 h' a0 a1 2 r e) rfl rfl (Nat.le_of_ble_eq_true rfl) (zRm_of rfl (Nat.zero_le _) (Nat.zero_le _)) dX8_atRisk_47 (fun v9 h10 H locs hf E => ?_)
          refine lv_icmp_ge (tgt := 55) Z.x Z.b dX8_atRisk_50 (by decide) (fun c => ?_) (fun c => ?_)
          · have hf := zit hf c
            exact t_X8_atRisk_55 Z hr k5 hf E (lv_sub hl [0, 1, 2] rfl)
          · have hf := zif_ hf c
            exact t_X8_atRisk_53 Z hr k5 hf E (lv_sub hl [0, 2] rfl)
theorem t_X8_atRisk_5 {p : Program} {l : Launch} {e : Env} {s : State} {m : MethodId} {args : Array Value} {below : List Frame} {meth : Method} {c : Code} {G : zG} (Z : zF p s m args c meth cX8_atRisk 3 RX8 G) (hr : meth.sig.returnType = (some .int)) {out : Int32 × zHp} : ∀ (n : Nat), ∀ {a0 : Nat} {a1 : Int32} {a2 : Int32} {h : zHp} {H : Heap} {locs : List Loc} {ls : Array Slot}, f_X8_atRisk_5 n a0 a1 a2 h = some out → zE G s h H locs → lv_has ls 3 [(0, .ref a0), (1, .int a1), (2, .int a2)] → W p l e rm_X8_atRisk s m args below meth c H locs 0 0 (MQ below (zQi G out.1 out.2) args s 0 0 (zA G)) (F0 m 5 ls [])
  | 0 => fun hf => by cases hf
  | n + 1 => fun hf E hl => t_X8_atRisk_5_body Z hr (r5 := f_X8_atRisk_5 n) (t_X8_atRisk_5 Z hr n) hf E hl
set_option maxHeartbeats 4000000 in
set_option maxRecDepth 20000 in
theorem t_X8_atRisk {p : Program} {l : Launch} {e : Env} {s : State} {m : MethodId} {args : Array Value} {below : List Frame} {meth : Method} {c : Code} {G : zG} (Z : zF p s m args c meth cX8_atRisk 3 RX8 G) (hr : meth.sig.returnType = (some .int)) {out : Int32 × zHp} {a0 : Nat} {h : zHp} {H : Heap} {locs : List Loc} {ls : Array Slot} (hf : f_X8_atRisk a0 h = some out) (E : zE G s h H locs) (hl : lv_has ls 3 [(0, .ref a0)]) : W p l e rm_X8_atRisk s m args below meth c H locs 0 0 (MQ below (zQi G out.1 out.2) args s 0 0 (zA G)) (F0 m 0 ls []) := by
  unfold f_X8_atRisk at hf
  refine lv_bipush (v := (-5)) Z.x Z.b dX8_atRisk_0 (by decide) ?_
  refine lv_istore_n (lv' := [(1, .int (-5)), (0, .ref a0)]) Z.x Z.b dX8_atRisk_2 rfl hl (by decide) rfl (fun ls hl => ?_)
  refine lv_iconst (v := 0) Z.x Z.b dX8_atRisk_3 (by decide) ?_
  refine lv_istore_n (lv' := [(2, .int 0), (1, .int (-5)), (0, .ref a0)]) Z.x Z.b dX8_atRisk_4 rfl hl (by decide) rfl (fun ls hl => ?_)
  exact t_X8_atRisk_5 Z hr zN hf E (lv_sub hl [2, 1, 0] rfl)
set_option maxHeartbeats 4000000 in
set_option maxRecDepth 20000 in
theorem c_X8_atRisk (l : Launch) (G : zG) (h : zHp) (h' : zHp) (a0 : Nat) (r : Int32) (hf : f_X8_atRisk a0 h = some (r, h')) : zM0 l yX8_atRisk cX8_atRisk 3 (some .int) rm_X8_atRisk G [.ref a0] h (zQi G r h') := by
  refine Met.ofW (cc := cX8_atRisk) (maxL := 3) (ret := (some .int)) (by decide) rfl ?_
  intro p e s m args below meth c s₁ B hml hv
  obtain ⟨rfl, hW⟩ := hv
  obtain ⟨Z, E, hr⟩ := zEnter (own := RX8) B hml rfl hW
  have hl := lv_entry ([.ref a0]) (n := 3) (Nat.le_of_ble_eq_true rfl)
  rw [lg_entry_eq]
  generalize (lg_sl ([.ref a0]) ++ List.replicate (3 - (lg_sl ([.ref a0])).length) Slot.unset).toArray = ls at hl ⊢
  have hl : lv_has ls 3 [(0, .ref a0)] := hl
  exact t_X8_atRisk (out := (r, h')) Z hr hf E hl
/-! FerryCrewsModel.cancelledIn(I)I -/
theorem dX8_cancelledIn_0 : decode cX8_cancelledIn 0 = .ok (.iload_n 1, 1) := by decide +kernel
theorem dX8_cancelledIn_1 : decode cX8_cancelledIn 1 = .ok (.iconst 1, 1) := by decide +kernel
theorem dX8_cancelledIn_2 : decode cX8_cancelledIn 2 = .ok (.sipush 1000, 3) := by decide +kernel
theorem dX8_cancelledIn_5 : decode cX8_cancelledIn 5 = .ok (.invokestatic 42, 3) := by decide +kernel
theorem dX8_cancelledIn_8 : decode cX8_cancelledIn 8 = .ok (.ifCond .ne 6, 3) := by decide +kernel
theorem dX8_cancelledIn_11 : decode cX8_cancelledIn 11 = .ok (.bipush (-2), 2) := by decide +kernel
theorem dX8_cancelledIn_13 : decode cX8_cancelledIn 13 = .ok (.ireturn, 1) := by decide +kernel
theorem dX8_cancelledIn_14 : decode cX8_cancelledIn 14 = .ok (.iconst 0, 1) := by decide +kernel
theorem dX8_cancelledIn_15 : decode cX8_cancelledIn 15 = .ok (.istore_n 2, 1) := by decide +kernel
theorem dX8_cancelledIn_16 : decode cX8_cancelledIn 16 = .ok (.iconst 0, 1) := by decide +kernel
theorem dX8_cancelledIn_17 : decode cX8_cancelledIn 17 = .ok (.istore_n 3, 1) := by decide +kernel
theorem dX8_cancelledIn_18 : decode cX8_cancelledIn 18 = .ok (.iload_n 3, 1) := by decide +kernel
theorem dX8_cancelledIn_19 : decode cX8_cancelledIn 19 = .ok (.aload_n 0, 1) := by decide +kernel
theorem dX8_cancelledIn_20 : decode cX8_cancelledIn 20 = .ok (.getfield 7, 3) := by decide +kernel
theorem dX8_cancelledIn_23 : decode cX8_cancelledIn 23 = .ok (.iconst 1, 1) := by decide +kernel
theorem dX8_cancelledIn_24 : decode cX8_cancelledIn 24 = .ok (.iaload, 1) := by decide +kernel
theorem dX8_cancelledIn_25 : decode cX8_cancelledIn 25 = .ok (.if_icmp .ge 51, 3) := by decide +kernel
theorem dX8_cancelledIn_28 : decode cX8_cancelledIn 28 = .ok (.iload_n 2, 1) := by decide +kernel
theorem dX8_cancelledIn_29 : decode cX8_cancelledIn 29 = .ok (.aload_n 0, 1) := by decide +kernel
theorem dX8_cancelledIn_30 : decode cX8_cancelledIn 30 = .ok (.iload_n 3, 1) := by decide +kernel
theorem dX8_cancelledIn_31 : decode cX8_cancelledIn 31 = .ok (.iconst 0, 1) := by decide +kernel
theorem dX8_cancelledIn_32 : decode cX8_cancelledIn 32 = .ok (.invokevirtual 62, 3) := by decide +kernel
theorem dX8_cancelledIn_35 : decode cX8_cancelledIn 35 = .ok (.ifCond .eq 32, 3) := by decide +kernel
theorem dX8_cancelledIn_38 : decode cX8_cancelledIn 38 = .ok (.aload_n 0, 1) := by decide +kernel
theorem dX8_cancelledIn_39 : decode cX8_cancelledIn 39 = .ok (.iload_n 3, 1) := by decide +kernel
theorem dX8_cancelledIn_40 : decode cX8_cancelledIn 40 = .ok (.iconst 2, 1) := by decide +kernel
theorem dX8_cancelledIn_41 : decode cX8_cancelledIn 41 = .ok (.invokevirtual 38, 3) := by decide +kernel
theorem dX8_cancelledIn_44 : decode cX8_cancelledIn 44 = .ok (.aload_n 0, 1) := by decide +kernel
theorem dX8_cancelledIn_45 : decode cX8_cancelledIn 45 = .ok (.getfield 7, 3) := by decide +kernel
theorem dX8_cancelledIn_48 : decode cX8_cancelledIn 48 = .ok (.iconst 0, 1) := by decide +kernel
theorem dX8_cancelledIn_49 : decode cX8_cancelledIn 49 = .ok (.iaload, 1) := by decide +kernel
theorem dX8_cancelledIn_50 : decode cX8_cancelledIn 50 = .ok (.iload_n 1, 1) := by decide +kernel
theorem dX8_cancelledIn_51 : decode cX8_cancelledIn 51 = .ok (.iadd, 1) := by decide +kernel
theorem dX8_cancelledIn_52 : decode cX8_cancelledIn 52 = .ok (.if_icmp .ge 15, 3) := by decide +kernel
theorem dX8_cancelledIn_55 : decode cX8_cancelledIn 55 = .ok (.aload_n 0, 1) := by decide +kernel
theorem dX8_cancelledIn_56 : decode cX8_cancelledIn 56 = .ok (.iload_n 3, 1) := by decide +kernel
theorem dX8_cancelledIn_57 : decode cX8_cancelledIn 57 = .ok (.invokevirtual 116, 3) := by decide +kernel
theorem dX8_cancelledIn_60 : decode cX8_cancelledIn 60 = .ok (.ifCond .le 7, 3) := by decide +kernel
theorem dX8_cancelledIn_63 : decode cX8_cancelledIn 63 = .ok (.iconst 1, 1) := by decide +kernel
theorem dX8_cancelledIn_64 : decode cX8_cancelledIn 64 = .ok (.goto 4, 3) := by decide +kernel
theorem dX8_cancelledIn_67 : decode cX8_cancelledIn 67 = .ok (.iconst 0, 1) := by decide +kernel
theorem dX8_cancelledIn_68 : decode cX8_cancelledIn 68 = .ok (.iadd, 1) := by decide +kernel
theorem dX8_cancelledIn_69 : decode cX8_cancelledIn 69 = .ok (.istore_n 2, 1) := by decide +kernel
theorem dX8_cancelledIn_70 : decode cX8_cancelledIn 70 = .ok (.iinc 3 1, 3) := by decide +kernel
theorem dX8_cancelledIn_73 : decode cX8_cancelledIn 73 = .ok (.goto (-55), 3) := by decide +kernel
theorem dX8_cancelledIn_76 : decode cX8_cancelledIn 76 = .ok (.iload_n 2, 1) := by decide +kernel
theorem dX8_cancelledIn_77 : decode cX8_cancelledIn 77 = .ok (.ireturn, 1) := by decide +kernel
def rm_X8_cancelledIn : Room := { frames := 4, cells := 0, slots := 0, locals := 88 }
set_option maxHeartbeats 4000000 in
set_option maxRecDepth 20000 in
theorem t_X8_cancelledIn_68 {p : Program} {l : Launch} {e : Env} {s : State} {m : MethodId} {args : Array Value} {below : List Frame} {meth : Method} {c : Code} {G : zG} (Z : zF p s m args c meth cX8_cancelledIn 4 RX8 G) (hr : meth.sig.returnType = (some .int)) {out : Int32 × zHp} {r18 : Nat → Int32 → Int32 → Int32 → zHp → Option (Int32 × zHp)} (k18 : ∀ {a0 : Nat} {a1 : Int32} {a2 : Int32} {a3 : Int32} {h : zHp} {H : Heap} {locs : List Loc} {ls : Array Slot}, r18 a0 a1 a2 a3 h = some out → zE G s h H locs → lv_has ls 4 [(0, .ref a0), (1, .int a1), (2, .int a2), (3, .int a3)] → W p l e rm_X8_cancelledIn s m args below meth c H locs 0 0 (MQ below (zQi G out.1 out.2) args s 0 0 (zA G)) (F0 m 18 ls [])) {a0 : Nat} {a1 : Int32} {a3 : Int32} {s0 : Int32} {s1 : Int32} {h : zHp} {H : Heap} {locs : List Loc} {ls : Array Slot} (hf : f_X8_cancelledIn_68 r18 a0 a1 a3 s0 s1 h = some out) (E : zE G s h H locs) (hl : lv_has ls 4 [(0, .ref a0), (1, .int a1), (3, .int a3)]) : W p l e rm_X8_cancelledIn s m args below meth c H locs 0 0 (MQ below (zQi G out.1 out.2) args s 0 0 (zA G)) (F0 m 68 ls [.int s0, .int s1]) := by
  unfold f_X8_cancelledIn_68 at hf
  refine lv_iadd Z.x Z.b dX8_cancelledIn_68 ?_
  refine lv_istore_n (lv' := [(2, .int (s1 + s0)), (0, .ref a0), (1, .int a1), (3, .int a3)]) Z.x Z.b dX8_cancelledIn_69 rfl hl (by decide) rfl (fun ls hl => ?_)
  refine lv_iinc (v := (a3 + 1)) (lv' := [(3, .int (a3 + 1)), (2, .int (s1 + s0)), (0, .ref a0), (1, .int a1)]) Z.x Z.b dX8_cancelledIn_70 hl (k := 3) rfl rfl (by decide) rfl (fun ls hl => ?_)
  refine lv_goto (tgt := 18) Z.x Z.b dX8_cancelledIn_73 (by decide) ?_
  exact k18 hf E (lv_sub hl [2, 3, 1, 0] rfl)
set_option maxHeartbeats 4000000 in
set_option maxRecDepth 20000 in
theorem t_X8_cancelledIn_67 {p : Program} {l : Launch} {e : Env} {s : State} {m : MethodId} {args : Array Value} {below : List Frame} {meth : Method} {c : Code} {G : zG} (Z : zF p s m args c meth cX8_cancelledIn 4 RX8 G) (hr : meth.sig.returnType = (some .int)) {out : Int32 × zHp} {r18 : Nat → Int32 → Int32 → Int32 → zHp → Option (Int32 × zHp)} (k18 : ∀ {a0 : Nat} {a1 : Int32} {a2 : Int32} {a3 : Int32} {h : zHp} {H : Heap} {locs : List Loc} {ls : Array Slot}, r18 a0 a1 a2 a3 h = some out → zE G s h H locs → lv_has ls 4 [(0, .ref a0), (1, .int a1), (2, .int a2), (3, .int a3)] → W p l e rm_X8_cancelledIn s m args below meth c H locs 0 0 (MQ below (zQi G out.1 out.2) args s 0 0 (zA G)) (F0 m 18 ls [])) {a0 : Nat} {a1 : Int32} {a3 : Int32} {s0 : Int32} {h : zHp} {H : Heap} {locs : List Loc} {ls : Array Slot} (hf : f_X8_cancelledIn_67 r18 a0 a1 a3 s0 h = some out) (E : zE G s h H locs) (hl : lv_has ls 4 [(0, .ref a0), (1, .int a1), (3, .int a3)]) : W p l e rm_X8_cancelledIn s m args below meth c H locs 0 0 (MQ below (zQi G out.1 out.2) args s 0 0 (zA G)) (F0 m 67 ls [.int s0]) := by
  unfold f_X8_cancelledIn_67 at hf
  refine lv_iconst (v := 0) Z.x Z.b dX8_cancelledIn_67 (by decide) ?_
  exact t_X8_cancelledIn_68 Z hr k18 hf E (lv_sub hl [0, 1, 2] rfl)
set_option maxHeartbeats 4000000 in
set_option maxRecDepth 20000 in
theorem t_X8_cancelledIn_18_body {p : Program} {l : Launch} {e : Env} {s : State} {m : MethodId} {args : Array Value} {below : List Frame} {meth : Method} {c : Code} {G : zG} (Z : zF p s m args c meth cX8_cancelledIn 4 RX8 G) (hr : meth.sig.returnType = (some .int)) {out : Int32 × zHp} {r18 : Nat → Int32 → Int32 → Int32 → zHp → Option (Int32 × zHp)} (k18 : ∀ {a0 : Nat} {a1 : Int32} {a2 : Int32} {a3 : Int32} {h : zHp} {H : Heap} {locs : List Loc} {ls : Array Slot}, r18 a0 a1 a2 a3 h = some out → zE G s h H locs → lv_has ls 4 [(0, .ref a0), (1, .int a1), (2, .int a2), (3, .int a3)] → W p l e rm_X8_cancelledIn s m args below meth c H locs 0 0 (MQ below (zQi G out.1 out.2) args s 0 0 (zA G)) (F0 m 18 ls [])) {a0 : Nat} {a1 : Int32} {a2 : Int32} {a3 : Int32} {h : zHp} {H : Heap} {locs : List Loc} {ls : Array Slot} (hf : f_X8_cancelledIn_18_body r18 a0 a1 a2 a3 h = some out) (E : zE G s h H locs) (hl : lv_has ls 4 [(0, .ref a0), (1, .int a1), (2, .int a2), (3, .int a3)]) : W p l e rm_X8_cancelledIn s m args below meth c H locs 0 0 (MQ below (zQi G out.1 out.2) args s 0 0 (zA G)) (F0 m 18 ls []) := by
  unfold f_X8_cancelledIn_18_body at hf
  refine lv_iload_n Z.x Z.b dX8_cancelledIn_18 rfl (lv_at hl 3 rfl) ?_
  refine lv_aload_n Z.x Z.b dX8_cancelledIn_19 rfl (lv_at hl 0 rfl) ?_
  refine z_getR Z E q_X8_7 dX8_cancelledIn_20 hf (fun v1 hf => ?_)
  refine lv_iconst (v := 1) Z.x Z.b dX8_cancelledIn_23 (by decide) ?_
  refine z_iald Z E dX8_cancelledIn_24 hf (fun v2 hf => ?_)
  refine lv_icmp_ge (tgt := 76) Z.x Z.b dX8_cancelledIn_25 (by decide) (fun c => ?_) (fun c => ?_)
  · have hf := zit hf c
    refine lv_iload_n Z.x Z.b dX8_cancelledIn_76 rfl (lv_at hl 2 rfl) ?_
    exact z_iret Z E hr dX8_cancelledIn_77 hf
  · have hf := zif_ hf c
    refine lv_iload_n Z.x Z.b dX8_cancelledIn_28 rfl (lv_at hl 2 rfl) ?_
    refine lv_aload_n Z.x Z.b dX8_cancelledIn_29 rfl (lv_at hl 0 rfl) ?_
    refine lv_iload_n Z.x Z.b dX8_cancelledIn_30 rfl (lv_at hl 3 rfl) ?_
    refine lv_iconst (v := 0) Z.x Z.b dX8_cancelledIn_31 (by decide) ?_
    refine z_Vi (As := [.int a3, .int 0]) Z E hl.1 k_X8_62 v_X8_is hf (fun r h' e => c_X8_is l G h h' a0 a3 0 r e) rfl rfl (Nat.le_of_ble_eq_true rfl) (zRm_of rfl (Nat.zero_le _) (Nat.zero_le _)) dX8_cancelledIn_32 (fun v3 h4 H locs hf E => ?_)
    refine lv_if_eq (tgt := 67) Z.x Z.b dX8_cancelledIn_35 (by decide) (fun c => ?_) (fun c => ?_)
    · have hf := zit hf c
      exact t_X8_cancelledIn_67 Z hr k18 hf E (lv_sub hl [0, 1, 3] rfl)
    · have hf := zif_ hf c
      refine lv_aload_n Z.x Z.b dX8_cancelledIn_38 rfl (lv_at hl 0 rfl) ?_
      refine lv_iload_n Z.x Z.b dX8_cancelledIn_39 rfl (lv_at hl 3 rfl) ?_
      refine lv_iconst (v := 2) Z.x Z.b dX8_cancelledIn_40 (by decide) ?_
      refine z_Vi (As := [.int a3, .int 2]) Z E hl.1 k_X8_38 v_X8_of hf (fun r h' e => c_X8_of l G h4 h' a0 a3 2 r e) rfl rfl (Nat.le_of_ble_eq_true rfl) (zRm_of rfl (Nat.zero_le _) (Nat.zero_le _)) dX8_cancelledIn_41 (fun v5 h6 H locs hf E => ?_)
      refine lv_aload_n Z.x Z.b dX8_cancelledIn_44 rfl (lv_at hl 0 rfl) ?_
      refine z_getR Z E q_X8_7 dX8_cancelledIn_45 hf (fun v7 hf => ?_)
      refine lv_iconst (v := 0) Z.x Z.b dX8_cancelledIn_48 (by decide) ?_
      refine z_iald Z E dX8_cancelledIn_49 hf (fun v8 hf => ?_)
      refine lv_iload_n Z.x Z.b dX8_cancelledIn_50 rfl (lv_at hl 1 rfl) ?_
      refine lv_iadd Z.x Z.b dX8_cancelledIn_51 ?_
      refine lv_icmp_ge (tgt := 67) Z.x Z.b dX8_cancelledIn_52 (by decide) (fun c => ?_) (fun c => ?_)
      · have hf := zit hf c
        exact t_X8_cancelledIn_67 Z hr k18 hf E (lv_sub hl [0, 1, 3] rfl)
      · have hf := zif_ hf c
        refine lv_aload_n Z.x Z.b dX8_cancelledIn_55 rfl (lv_at hl 0 rfl) ?_
        refine lv_iload_n Z.x Z.b dX8_cancelledIn_56 rfl (lv_at hl 3 rfl) ?_
        refine z_Vi (As := [.int a3]) Z E hl.1 k_X8_116 v_X8_freeOf hf (fun r h' e => c_X8_freeOf l G h6 h' a0 a3 r e) rfl rfl (Nat.le_of_ble_eq_true rfl) (zRm_of rfl (Nat.zero_le _) (Nat.zero_le _)) dX8_cancelledIn_57 (fun v9 h10 H locs hf E => ?_)
        refine lv_if_le (tgt := 67) Z.x Z.b dX8_cancelledIn_60 (by decide) (fun c => ?_) (fun c => ?_)
        · have hf := zit hf c
          exact t_X8_cancelledIn_67 Z hr k18 hf E (lv_sub hl [0, 1, 3] rfl)
        · have hf := zif_ hf c
          refine lv_iconst (v := 1) Z.x Z.b dX8_cancelledIn_63 (by decide) ?_
          refine lv_goto (tgt := 68) Z.x Z.b dX8_cancelledIn_64 (by decide) ?_
          exact t_X8_cancelledIn_68 Z hr k18 hf E (lv_sub hl [0, 1, 3] rfl)
theorem t_X8_cancelledIn_18 {p : Program} {l : Launch} {e : Env} {s : State} {m : MethodId} {args : Array Value} {below : List Frame} {meth : Method} {c : Code} {G : zG} (Z : zF p s m args c meth cX8_cancelledIn 4 RX8 G) (hr : meth.sig.returnType = (some .int)) {out : Int32 × zHp} : ∀ (n : Nat), ∀ {a0 : Nat} {a1 : Int32} {a2 : Int32} {a3 : Int32} {h : zHp} {H : Heap} {locs : List Loc} {ls : Array Slot}, f_X8_cancelledIn_18 n a0 a1 a2 a3 h = some out → zE G s h H locs → lv_has ls 4 [(0, .ref a0), (1, .int a1), (2, .int a2), (3, .int a3)] → W p l e rm_X8_cancelledIn s m args below meth c H locs 0 0 (MQ below (zQi G out.1 out.2) args s 0 0 (zA G)) (F0 m 18 ls [])
  | 0 => fun hf => by cases hf
  | n + 1 => fun hf E hl => t_X8_cancelledIn_18_body Z hr (r18 := f_X8_cancelledIn_18 n) (t_X8_cancelledIn_18 Z hr n) hf E hl
set_option maxHeartbeats 4000000 in
set_option maxRecDepth 20000 in
theorem t_X8_cancelledIn {p : Program} {l : Launch} {e : Env} {s : State} {m : MethodId} {args : Array Value} {below : List Frame} {meth : Method} {c : Code} {G : zG} (Z : zF p s m args c meth cX8_cancelledIn 4 RX8 G) (hr : meth.sig.returnType = (some .int)) {out : Int32 × zHp} {a0 : Nat} {a1 : Int32} {h : zHp} {H : Heap} {locs : List Loc} {ls : Array Slot} (hf : f_X8_cancelledIn a0 a1 h = some out) (E : zE G s h H locs) (hl : lv_has ls 4 [(0, .ref a0), (1, .int a1)]) : W p l e rm_X8_cancelledIn s m args below meth c H locs 0 0 (MQ below (zQi G out.1 out.2) args s 0 0 (zA G)) (F0 m 0 ls []) := by
  unfold f_X8_cancelledIn at hf
  refine lv_iload_n Z.x Z.b dX8_cancelledIn_0 rfl (lv_at hl 1 rfl) ?_
  refine lv_iconst (v := 1) Z.x Z.b dX8_cancelledIn_1 (by decide) ?_
  refine lv_sipush (v := 1000) Z.x Z.b dX8_cancelledIn_2 (by decide) ?_
  refine z_Si (As := [.int a1, .int 1, .int 1000]) Z E hl.1 k_X8_42 wt_X8_in hf (fun r h' e => c_X8_in l G h h' a1 1 1000 r e) rfl rfl (Nat.le_of_ble_eq_true rfl) (zRm_of rfl (Nat.zero_le _) (Nat.zero_le _)) dX8_cancelledIn_5 (fun v1 h2 H locs hf E => ?_)
  refine lv_if_ne (tgt := 14) Z.x Z.b dX8_cancelledIn_8 (by decide) (fun c => ?_) (fun c => ?_)
  · have hf := zif_ hf c
    refine lv_iconst (v := 0) Z.x Z.b dX8_cancelledIn_14 (by decide) ?_
    refine lv_istore_n (lv' := [(2, .int 0), (0, .ref a0), (1, .int a1)]) Z.x Z.b dX8_cancelledIn_15 rfl hl (by decide) rfl (fun ls hl => ?_)
    refine lv_iconst (v := 0) Z.x Z.b dX8_cancelledIn_16 (by decide) ?_
    refine lv_istore_n (lv' := [(3, .int 0), (2, .int 0), (0, .ref a0), (1, .int a1)]) Z.x Z.b dX8_cancelledIn_17 rfl hl (by decide) rfl (fun ls hl => ?_)
    exact t_X8_cancelledIn_18 Z hr zN hf E (lv_sub hl [2, 3, 1, 0] rfl)
  · have hf := zit hf c
    refine lv_bipush (v := (-2)) Z.x Z.b dX8_cancelledIn_11 (by decide) ?_
    exact z_iret Z E hr dX8_cancelledIn_13 hf
set_option maxHeartbeats 4000000 in
set_option maxRecDepth 20000 in
theorem c_X8_cancelledIn (l : Launch) (G : zG) (h : zHp) (h' : zHp) (a0 : Nat) (a1 : Int32) (r : Int32) (hf : f_X8_cancelledIn a0 a1 h = some (r, h')) : zM0 l yX8_cancelledIn cX8_cancelledIn 4 (some .int) rm_X8_cancelledIn G [.ref a0, .int a1] h (zQi G r h') := by
  refine Met.ofW (cc := cX8_cancelledIn) (maxL := 4) (ret := (some .int)) (by decide) rfl ?_
  intro p e s m args below meth c s₁ B hml hv
  obtain ⟨rfl, hW⟩ := hv
  obtain ⟨Z, E, hr⟩ := zEnter (own := RX8) B hml rfl hW
  have hl := lv_entry ([.ref a0, .int a1]) (n := 4) (Nat.le_of_ble_eq_true rfl)
  rw [lg_entry_eq]
  generalize (lg_sl ([.ref a0, .int a1]) ++ List.replicate (4 - (lg_sl ([.ref a0, .int a1])).length) Slot.unset).toArray = ls at hl ⊢
  have hl : lv_has ls 4 [(0, .ref a0), (1, .int a1)] := hl
  exact t_X8_cancelledIn (out := (r, h')) Z hr hf E hl
/-! FerryCrewsModel.freshest()I -/
theorem dX8_freshest_0 : decode cX8_freshest 0 = .ok (.bipush (-5), 2) := by decide +kernel
theorem dX8_freshest_2 : decode cX8_freshest 2 = .ok (.istore_n 1, 1) := by decide +kernel
theorem dX8_freshest_3 : decode cX8_freshest 3 = .ok (.iconst 0, 1) := by decide +kernel
theorem dX8_freshest_4 : decode cX8_freshest 4 = .ok (.istore_n 2, 1) := by decide +kernel
theorem dX8_freshest_5 : decode cX8_freshest 5 = .ok (.iconst 0, 1) := by decide +kernel
theorem dX8_freshest_6 : decode cX8_freshest 6 = .ok (.istore_n 3, 1) := by decide +kernel
theorem dX8_freshest_7 : decode cX8_freshest 7 = .ok (.iload_n 3, 1) := by decide +kernel
theorem dX8_freshest_8 : decode cX8_freshest 8 = .ok (.aload_n 0, 1) := by decide +kernel
theorem dX8_freshest_9 : decode cX8_freshest 9 = .ok (.getfield 7, 3) := by decide +kernel
theorem dX8_freshest_12 : decode cX8_freshest 12 = .ok (.iconst 2, 1) := by decide +kernel
theorem dX8_freshest_13 : decode cX8_freshest 13 = .ok (.iaload, 1) := by decide +kernel
theorem dX8_freshest_14 : decode cX8_freshest 14 = .ok (.if_icmp .ge 33, 3) := by decide +kernel
theorem dX8_freshest_17 : decode cX8_freshest 17 = .ok (.aload_n 0, 1) := by decide +kernel
theorem dX8_freshest_18 : decode cX8_freshest 18 = .ok (.iload_n 3, 1) := by decide +kernel
theorem dX8_freshest_19 : decode cX8_freshest 19 = .ok (.invokevirtual 201, 3) := by decide +kernel
theorem dX8_freshest_22 : decode cX8_freshest 22 = .ok (.istore 4, 2) := by decide +kernel
theorem dX8_freshest_24 : decode cX8_freshest 24 = .ok (.iload_n 1, 1) := by decide +kernel
theorem dX8_freshest_25 : decode cX8_freshest 25 = .ok (.bipush (-5), 2) := by decide +kernel
theorem dX8_freshest_27 : decode cX8_freshest 27 = .ok (.if_icmp .eq 9, 3) := by decide +kernel
theorem dX8_freshest_30 : decode cX8_freshest 30 = .ok (.iload 4, 2) := by decide +kernel
theorem dX8_freshest_32 : decode cX8_freshest 32 = .ok (.iload_n 2, 1) := by decide +kernel
theorem dX8_freshest_33 : decode cX8_freshest 33 = .ok (.if_icmp .ge 8, 3) := by decide +kernel
theorem dX8_freshest_36 : decode cX8_freshest 36 = .ok (.iload_n 3, 1) := by decide +kernel
theorem dX8_freshest_37 : decode cX8_freshest 37 = .ok (.istore_n 1, 1) := by decide +kernel
theorem dX8_freshest_38 : decode cX8_freshest 38 = .ok (.iload 4, 2) := by decide +kernel
theorem dX8_freshest_40 : decode cX8_freshest 40 = .ok (.istore_n 2, 1) := by decide +kernel
theorem dX8_freshest_41 : decode cX8_freshest 41 = .ok (.iinc 3 1, 3) := by decide +kernel
theorem dX8_freshest_44 : decode cX8_freshest 44 = .ok (.goto (-37), 3) := by decide +kernel
theorem dX8_freshest_47 : decode cX8_freshest 47 = .ok (.iload_n 1, 1) := by decide +kernel
theorem dX8_freshest_48 : decode cX8_freshest 48 = .ok (.ireturn, 1) := by decide +kernel
def rm_X8_freshest : Room := { frames := 6, cells := 0, slots := 0, locals := 137 }
set_option maxHeartbeats 4000000 in
set_option maxRecDepth 20000 in
theorem t_X8_freshest_41 {p : Program} {l : Launch} {e : Env} {s : State} {m : MethodId} {args : Array Value} {below : List Frame} {meth : Method} {c : Code} {G : zG} (Z : zF p s m args c meth cX8_freshest 5 RX8 G) (hr : meth.sig.returnType = (some .int)) {out : Int32 × zHp} {r7 : Nat → Int32 → Int32 → Int32 → zHp → Option (Int32 × zHp)} (k7 : ∀ {a0 : Nat} {a1 : Int32} {a2 : Int32} {a3 : Int32} {h : zHp} {H : Heap} {locs : List Loc} {ls : Array Slot}, r7 a0 a1 a2 a3 h = some out → zE G s h H locs → lv_has ls 5 [(0, .ref a0), (1, .int a1), (2, .int a2), (3, .int a3)] → W p l e rm_X8_freshest s m args below meth c H locs 0 0 (MQ below (zQi G out.1 out.2) args s 0 0 (zA G)) (F0 m 7 ls [])) {a0 : Nat} {a1 : Int32} {a2 : Int32} {a3 : Int32} {h : zHp} {H : Heap} {locs : List Loc} {ls : Array Slot} (hf : f_X8_freshest_41 r7 a0 a1 a2 a3 h = some out) (E : zE G s h H locs) (hl : lv_has ls 5 [(0, .ref a0), (1, .int a1), (2, .int a2), (3, .int a3)]) : W p l e rm_X8_freshest s m args below meth c H locs 0 0 (MQ below (zQi G out.1 out.2) args s 0 0 (zA G)) (F0 m 41 ls []) := by
  unfold f_X8_freshest_41 at hf
  refine lv_iinc (v := (a3 + 1)) (lv' := [(3, .int (a3 + 1)), (0, .ref a0), (1, .int a1), (2, .int a2)]) Z.x Z.b dX8_freshest_41 hl (k := 3) rfl rfl (by decide) rfl (fun ls hl => ?_)
  refine lv_goto (tgt := 7) Z.x Z.b dX8_freshest_44 (by decide) ?_
  exact k7 hf E (lv_sub hl [1, 2, 3, 0] rfl)
set_option maxHeartbeats 4000000 in
set_option maxRecDepth 20000 in
theorem t_X8_freshest_36 {p : Program} {l : Launch} {e : Env} {s : State} {m : MethodId} {args : Array Value} {below : List Frame} {meth : Method} {c : Code} {G : zG} (Z : zF p s m args c meth cX8_freshest 5 RX8 G) (hr : meth.sig.returnType = (some .int)) {out : Int32 × zHp} {r7 : Nat → Int32 → Int32 → Int32 → zHp → Option (Int32 × zHp)} (k7 : ∀ {a0 : Nat} {a1 : Int32} {a2 : Int32} {a3 : Int32} {h : zHp} {H : Heap} {locs : List Loc} {ls : Array Slot}, r7 a0 a1 a2 a3 h = some out → zE G s h H locs → lv_has ls 5 [(0, .ref a0), (1, .int a1), (2, .int a2), (3, .int a3)] → W p l e rm_X8_freshest s m args below meth c H locs 0 0 (MQ below (zQi G out.1 out.2) args s 0 0 (zA G)) (F0 m 7 ls [])) {a0 : Nat} {a3 : Int32} {a4 : Int32} {h : zHp} {H : Heap} {locs : List Loc} {ls : Array Slot} (hf : f_X8_freshest_36 r7 a0 a3 a4 h = some out) (E : zE G s h H locs) (hl : lv_has ls 5 [(0, .ref a0), (3, .int a3), (4, .int a4)]) : W p l e rm_X8_freshest s m args below meth c H locs 0 0 (MQ below (zQi G out.1 out.2) args s 0 0 (zA G)) (F0 m 36 ls []) := by
  unfold f_X8_freshest_36 at hf
  refine lv_iload_n Z.x Z.b dX8_freshest_36 rfl (lv_at hl 1 rfl) ?_
  refine lv_istore_n (lv' := [(1, .int a3), (0, .ref a0), (3, .int a3), (4, .int a4)]) Z.x Z.b dX8_freshest_37 rfl hl (by decide) rfl (fun ls hl => ?_)
  refine lv_iload Z.x Z.b dX8_freshest_38 (lv_at hl 3 rfl) ?_
  refine lv_istore_n (lv' := [(2, .int a4), (1, .int a3), (0, .ref a0), (3, .int a3), (4, .int a4)]) Z.x Z.b dX8_freshest_40 rfl hl (by decide) rfl (fun ls hl => ?_)
  exact t_X8_freshest_41 Z hr k7 hf E (lv_sub hl [2, 1, 0, 3] rfl)
set_option maxHeartbeats 4000000 in
set_option maxRecDepth 20000 in
theorem t_X8_freshest_7_body {p : Program} {l : Launch} {e : Env} {s : State} {m : MethodId} {args : Array Value} {below : List Frame} {meth : Method} {c : Code} {G : zG} (Z : zF p s m args c meth cX8_freshest 5 RX8 G) (hr : meth.sig.returnType = (some .int)) {out : Int32 × zHp} {r7 : Nat → Int32 → Int32 → Int32 → zHp → Option (Int32 × zHp)} (k7 : ∀ {a0 : Nat} {a1 : Int32} {a2 : Int32} {a3 : Int32} {h : zHp} {H : Heap} {locs : List Loc} {ls : Array Slot}, r7 a0 a1 a2 a3 h = some out → zE G s h H locs → lv_has ls 5 [(0, .ref a0), (1, .int a1), (2, .int a2), (3, .int a3)] → W p l e rm_X8_freshest s m args below meth c H locs 0 0 (MQ below (zQi G out.1 out.2) args s 0 0 (zA G)) (F0 m 7 ls [])) {a0 : Nat} {a1 : Int32} {a2 : Int32} {a3 : Int32} {h : zHp} {H : Heap} {locs : List Loc} {ls : Array Slot} (hf : f_X8_freshest_7_body r7 a0 a1 a2 a3 h = some out) (E : zE G s h H locs) (hl : lv_has ls 5 [(0, .ref a0), (1, .int a1), (2, .int a2), (3, .int a3)]) : W p l e rm_X8_freshest s m args below meth c H locs 0 0 (MQ below (zQi G out.1 out.2) args s 0 0 (zA G)) (F0 m 7 ls []) := by
  unfold f_X8_freshest_7_body at hf
  refine lv_iload_n Z.x Z.b dX8_freshest_7 rfl (lv_at hl 3 rfl) ?_
  refine lv_aload_n Z.x Z.b dX8_freshest_8 rfl (lv_at hl 0 rfl) ?_
  refine z_getR Z E q_X8_7 dX8_freshest_9 hf (fun v1 hf => ?_)
  refine lv_iconst (v := 2) Z.x Z.b dX8_freshest_12 (by decide) ?_
  refine z_iald Z E dX8_freshest_13 hf (fun v2 hf => ?_)
  refine lv_icmp_ge (tgt := 47) Z.x Z.b dX8_freshest_14 (by decide) (fun c => ?_) (fun c => ?_)
  · have hf := zit hf c
    refine lv_iload_n Z.x Z.b dX8_freshest_47 rfl (lv_at hl 1 rfl) ?_
    exact z_iret Z E hr dX8_freshest_48 hf
  · have hf := zif_ hf c
    refine lv_aload_n Z.x Z.b dX8_freshest_17 rfl (lv_at hl 0 rfl) ?_
    refine lv_iload_n Z.x Z.b dX8_freshest_18 rfl (lv_at hl 3 rfl) ?_
    refine z_Vi (As := [.int a3]) Z E hl.1 k_X8_201 v_X8_dutyHours hf (fun r h' e => c_X8_dutyHours l G h h' a0 a3 r e) rfl rfl (Nat.le_of_ble_eq_true rfl) (zRm_of rfl (Nat.zero_le _) (Nat.zero_le _)) dX8_freshest_19 (fun v3 h4 H locs hf E => ?_)
    refine lv_istore (lv' := [(4, .int v3), (0, .ref a0), (1, .int a1), (2, .int a2), (3, .int a3)]) Z.x Z.b dX8_freshest_22 hl (by decide) rfl (fun ls hl => ?_)
    refine lv_iload_n Z.x Z.b dX8_freshest_24 rfl (lv_at hl 2 rfl) ?_
    refine lv_bipush (v := (-5)) Z.x Z.b dX8_freshest_25 (by decide) ?_
    refine lv_icmp_eq (tgt := 36) Z.x Z.b dX8_freshest_27 (by decide) (fun c => ?_) (fun c => ?_)
    · have hf := zit hf c
      exact t_X8_freshest_36 Z hr k7 hf E (lv_sub hl [1, 4, 0] rfl)
    · have hf := zif_ hf c
      refine lv_iload Z.x Z.b dX8_freshest_30 (lv_at hl 0 rfl) ?_
      refine lv_iload_n Z.x Z.b dX8_freshest_32 rfl (lv_at hl 3 rfl) ?_
      refine lv_icmp_ge (tgt := 41) Z.x Z.b dX8_freshest_33 (by decide) (fun c => ?_) (fun c => ?_)
      · have hf := zit hf c
        exact t_X8_freshest_41 Z hr k7 hf E (lv_sub hl [1, 2, 3, 4] rfl)
      · have hf := zif_ hf c
        exact t_X8_freshest_36 Z hr k7 hf E (lv_sub hl [1, 4, 0] rfl)
theorem t_X8_freshest_7 {p : Program} {l : Launch} {e : Env} {s : State} {m : MethodId} {args : Array Value} {below : List Frame} {meth : Method} {c : Code} {G : zG} (Z : zF p s m args c meth cX8_freshest 5 RX8 G) (hr : meth.sig.returnType = (some .int)) {out : Int32 × zHp} : ∀ (n : Nat), ∀ {a0 : Nat} {a1 : Int32} {a2 : Int32} {a3 : Int32} {h : zHp} {H : Heap} {locs : List Loc} {ls : Array Slot}, f_X8_freshest_7 n a0 a1 a2 a3 h = some out → zE G s h H locs → lv_has ls 5 [(0, .ref a0), (1, .int a1), (2, .int a2), (3, .int a3)] → W p l e rm_X8_freshest s m args below meth c H locs 0 0 (MQ below (zQi G out.1 out.2) args s 0 0 (zA G)) (F0 m 7 ls [])
  | 0 => fun hf => by cases hf
  | n + 1 => fun hf E hl => t_X8_freshest_7_body Z hr (r7 := f_X8_freshest_7 n) (t_X8_freshest_7 Z hr n) hf E hl
set_option maxHeartbeats 4000000 in
set_option maxRecDepth 20000 in
theorem t_X8_freshest {p : Program} {l : Launch} {e : Env} {s : State} {m : MethodId} {args : Array Value} {below : List Frame} {meth : Method} {c : Code} {G : zG} (Z : zF p s m args c meth cX8_freshest 5 RX8 G) (hr : meth.sig.returnType = (some .int)) {out : Int32 × zHp} {a0 : Nat} {h : zHp} {H : Heap} {locs : List Loc} {ls : Array Slot} (hf : f_X8_freshest a0 h = some out) (E : zE G s h H locs) (hl : lv_has ls 5 [(0, .ref a0)]) : W p l e rm_X8_freshest s m args below meth c H locs 0 0 (MQ below (zQi G out.1 out.2) args s 0 0 (zA G)) (F0 m 0 ls []) := by
  unfold f_X8_freshest at hf
  refine lv_bipush (v := (-5)) Z.x Z.b dX8_freshest_0 (by decide) ?_
  refine lv_istore_n (lv' := [(1, .int (-5)), (0, .ref a0)]) Z.x Z.b dX8_freshest_2 rfl hl (by decide) rfl (fun ls hl => ?_)
  refine lv_iconst (v := 0) Z.x Z.b dX8_freshest_3 (by decide) ?_
  refine lv_istore_n (lv' := [(2, .int 0), (1, .int (-5)), (0, .ref a0)]) Z.x Z.b dX8_freshest_4 rfl hl (by decide) rfl (fun ls hl => ?_)
  refine lv_iconst (v := 0) Z.x Z.b dX8_freshest_5 (by decide) ?_
  refine lv_istore_n (lv' := [(3, .int 0), (2, .int 0), (1, .int (-5)), (0, .ref a0)]) Z.x Z.b dX8_freshest_6 rfl hl (by decide) rfl (fun ls hl => ?_)
  exact t_X8_freshest_7 Z hr zN hf E (lv_sub hl [3, 2, 1, 0] rfl)
set_option maxHeartbeats 4000000 in
set_option maxRecDepth 20000 in
theorem c_X8_freshest (l : Launch) (G : zG) (h : zHp) (h' : zHp) (a0 : Nat) (r : Int32) (hf : f_X8_freshest a0 h = some (r, h')) : zM0 l yX8_freshest cX8_freshest 5 (some .int) rm_X8_freshest G [.ref a0] h (zQi G r h') := by
  refine Met.ofW (cc := cX8_freshest) (maxL := 5) (ret := (some .int)) (by decide) rfl ?_
  intro p e s m args below meth c s₁ B hml hv
  obtain ⟨rfl, hW⟩ := hv
  obtain ⟨Z, E, hr⟩ := zEnter (own := RX8) B hml rfl hW
  have hl := lv_entry ([.ref a0]) (n := 5) (Nat.le_of_ble_eq_true rfl)
  rw [lg_entry_eq]
  generalize (lg_sl ([.ref a0]) ++ List.replicate (5 - (lg_sl ([.ref a0])).length) Slot.unset).toArray = ls at hl ⊢
  have hl : lv_has ls 5 [(0, .ref a0)] := hl
  exact t_X8_freshest (out := (r, h')) Z hr hf E hl
