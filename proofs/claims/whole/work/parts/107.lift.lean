/-! FerryCrewsModel.takeOff(II)V -/
theorem dX8_takeOff_0 : decode cX8_takeOff 0 = .ok (.aload_n 0, 1) := by decide +kernel
theorem dX8_takeOff_1 : decode cX8_takeOff 1 = .ok (.getfield 7, 3) := by decide +kernel
theorem dX8_takeOff_4 : decode cX8_takeOff 4 = .ok (.sipush 1041, 3) := by decide +kernel
theorem dX8_takeOff_7 : decode cX8_takeOff 7 = .ok (.iload_n 1, 1) := by decide +kernel
theorem dX8_takeOff_8 : decode cX8_takeOff 8 = .ok (.iadd, 1) := by decide +kernel
theorem dX8_takeOff_9 : decode cX8_takeOff 9 = .ok (.dup2, 1) := by decide +kernel
theorem dX8_takeOff_10 : decode cX8_takeOff 10 = .ok (.iaload, 1) := by decide +kernel
theorem dX8_takeOff_11 : decode cX8_takeOff 11 = .ok (.iconst 1, 1) := by decide +kernel
theorem dX8_takeOff_12 : decode cX8_takeOff 12 = .ok (.isub, 1) := by decide +kernel
theorem dX8_takeOff_13 : decode cX8_takeOff 13 = .ok (.iastore, 1) := by decide +kernel
theorem dX8_takeOff_14 : decode cX8_takeOff 14 = .ok (.iload_n 2, 1) := by decide +kernel
theorem dX8_takeOff_15 : decode cX8_takeOff 15 = .ok (.istore_n 3, 1) := by decide +kernel
theorem dX8_takeOff_16 : decode cX8_takeOff 16 = .ok (.iload_n 3, 1) := by decide +kernel
theorem dX8_takeOff_17 : decode cX8_takeOff 17 = .ok (.aload_n 0, 1) := by decide +kernel
theorem dX8_takeOff_18 : decode cX8_takeOff 18 = .ok (.getfield 7, 3) := by decide +kernel
theorem dX8_takeOff_21 : decode cX8_takeOff 21 = .ok (.sipush 1041, 3) := by decide +kernel
theorem dX8_takeOff_24 : decode cX8_takeOff 24 = .ok (.iload_n 1, 1) := by decide +kernel
theorem dX8_takeOff_25 : decode cX8_takeOff 25 = .ok (.iadd, 1) := by decide +kernel
theorem dX8_takeOff_26 : decode cX8_takeOff 26 = .ok (.iaload, 1) := by decide +kernel
theorem dX8_takeOff_27 : decode cX8_takeOff 27 = .ok (.if_icmp .ge 41, 3) := by decide +kernel
theorem dX8_takeOff_30 : decode cX8_takeOff 30 = .ok (.aload_n 0, 1) := by decide +kernel
theorem dX8_takeOff_31 : decode cX8_takeOff 31 = .ok (.getfield 7, 3) := by decide +kernel
theorem dX8_takeOff_34 : decode cX8_takeOff 34 = .ok (.sipush 1045, 3) := by decide +kernel
theorem dX8_takeOff_37 : decode cX8_takeOff 37 = .ok (.bipush 12, 2) := by decide +kernel
theorem dX8_takeOff_39 : decode cX8_takeOff 39 = .ok (.iload_n 1, 1) := by decide +kernel
theorem dX8_takeOff_40 : decode cX8_takeOff 40 = .ok (.imul, 1) := by decide +kernel
theorem dX8_takeOff_41 : decode cX8_takeOff 41 = .ok (.iadd, 1) := by decide +kernel
theorem dX8_takeOff_42 : decode cX8_takeOff 42 = .ok (.iload_n 3, 1) := by decide +kernel
theorem dX8_takeOff_43 : decode cX8_takeOff 43 = .ok (.iadd, 1) := by decide +kernel
theorem dX8_takeOff_44 : decode cX8_takeOff 44 = .ok (.aload_n 0, 1) := by decide +kernel
theorem dX8_takeOff_45 : decode cX8_takeOff 45 = .ok (.getfield 7, 3) := by decide +kernel
theorem dX8_takeOff_48 : decode cX8_takeOff 48 = .ok (.sipush 1045, 3) := by decide +kernel
theorem dX8_takeOff_51 : decode cX8_takeOff 51 = .ok (.bipush 12, 2) := by decide +kernel
theorem dX8_takeOff_53 : decode cX8_takeOff 53 = .ok (.iload_n 1, 1) := by decide +kernel
theorem dX8_takeOff_54 : decode cX8_takeOff 54 = .ok (.imul, 1) := by decide +kernel
theorem dX8_takeOff_55 : decode cX8_takeOff 55 = .ok (.iadd, 1) := by decide +kernel
theorem dX8_takeOff_56 : decode cX8_takeOff 56 = .ok (.iload_n 3, 1) := by decide +kernel
theorem dX8_takeOff_57 : decode cX8_takeOff 57 = .ok (.iadd, 1) := by decide +kernel
theorem dX8_takeOff_58 : decode cX8_takeOff 58 = .ok (.iconst 1, 1) := by decide +kernel
theorem dX8_takeOff_59 : decode cX8_takeOff 59 = .ok (.iadd, 1) := by decide +kernel
theorem dX8_takeOff_60 : decode cX8_takeOff 60 = .ok (.iaload, 1) := by decide +kernel
theorem dX8_takeOff_61 : decode cX8_takeOff 61 = .ok (.iastore, 1) := by decide +kernel
theorem dX8_takeOff_62 : decode cX8_takeOff 62 = .ok (.iinc 3 1, 3) := by decide +kernel
theorem dX8_takeOff_65 : decode cX8_takeOff 65 = .ok (.goto (-49), 3) := by decide +kernel
theorem dX8_takeOff_68 : decode cX8_takeOff 68 = .ok (.return_, 1) := by decide +kernel
def rm_X8_takeOff : Room := { frames := 0, cells := 0, slots := 0, locals := 0 }
set_option maxHeartbeats 4000000 in
set_option maxRecDepth 20000 in
theorem t_X8_takeOff_16_body {p : Program} {l : Launch} {e : Env} {s : State} {m : MethodId} {args : Array Value} {below : List Frame} {meth : Method} {c : Code} {G : zG} (Z : zF p s m args c meth cX8_takeOff 4 RX8 G) (hr : meth.sig.returnType = none) {out : zHp} {r16 : Nat → Int32 → Int32 → zHp → Option (zHp)} (k16 : ∀ {a0 : Nat} {a1 : Int32} {a3 : Int32} {h : zHp} {H : Heap} {locs : List Loc} {ls : Array Slot}, r16 a0 a1 a3 h = some out → zE G s h H locs → lv_has ls 4 [(0, .ref a0), (1, .int a1), (3, .int a3)] → W p l e rm_X8_takeOff s m args below meth c H locs 0 0 (MQ below (zQv G out) args s 0 0 (zA G)) (F0 m 16 ls [])) {a0 : Nat} {a1 : Int32} {a3 : Int32} {h : zHp} {H : Heap} {locs : List Loc} {ls : Array Slot} (hf : f_X8_takeOff_16_body r16 a0 a1 a3 h = some out) (E : zE G s h H locs) (hl : lv_has ls 4 [(0, .ref a0), (1, .int a1), (3, .int a3)]) : W p l e rm_X8_takeOff s m args below meth c H locs 0 0 (MQ below (zQv G out) args s 0 0 (zA G)) (F0 m 16 ls []) := by
  unfold f_X8_takeOff_16_body at hf
  refine lv_iload_n Z.x Z.b dX8_takeOff_16 rfl (lv_at hl 2 rfl) ?_
  refine lv_aload_n Z.x Z.b dX8_takeOff_17 rfl (lv_at hl 0 rfl) ?_
  refine z_getR Z E q_X8_7 dX8_takeOff_18 hf (fun v1 hf => ?_)
  refine lv_sipush (v := 1041) Z.x Z.b dX8_takeOff_21 (by decide) ?_
  refine lv_iload_n Z.x Z.b dX8_takeOff_24 rfl (lv_at hl 1 rfl) ?_
  refine lv_iadd Z.x Z.b dX8_takeOff_25 ?_
  refine z_iald Z E dX8_takeOff_26 hf (fun v2 hf => ?_)
  refine lv_icmp_ge (tgt := 68) Z.x Z.b dX8_takeOff_27 (by decide) (fun c => ?_) (fun c => ?_)
  · have hf := zit hf c
    exact z_vret Z E hr dX8_takeOff_68 hf
  · have hf := zif_ hf c
    refine lv_aload_n Z.x Z.b dX8_takeOff_30 rfl (lv_at hl 0 rfl) ?_
    refine z_getR Z E q_X8_7 dX8_takeOff_31 hf (fun v3 hf => ?_)
    refine lv_sipush (v := 1045) Z.x Z.b dX8_takeOff_34 (by decide) ?_
    refine lv_bipush (v := 12) Z.x Z.b dX8_takeOff_37 (by decide) ?_
    refine lv_iload_n Z.x Z.b dX8_takeOff_39 rfl (lv_at hl 1 rfl) ?_
    refine lv_imul Z.x Z.b dX8_takeOff_40 ?_
    refine lv_iadd Z.x Z.b dX8_takeOff_41 ?_
    refine lv_iload_n Z.x Z.b dX8_takeOff_42 rfl (lv_at hl 2 rfl) ?_
    refine lv_iadd Z.x Z.b dX8_takeOff_43 ?_
    refine lv_aload_n Z.x Z.b dX8_takeOff_44 rfl (lv_at hl 0 rfl) ?_
    refine z_getR Z E q_X8_7 dX8_takeOff_45 hf (fun v4 hf => ?_)
    refine lv_sipush (v := 1045) Z.x Z.b dX8_takeOff_48 (by decide) ?_
    refine lv_bipush (v := 12) Z.x Z.b dX8_takeOff_51 (by decide) ?_
    refine lv_iload_n Z.x Z.b dX8_takeOff_53 rfl (lv_at hl 1 rfl) ?_
    refine lv_imul Z.x Z.b dX8_takeOff_54 ?_
    refine lv_iadd Z.x Z.b dX8_takeOff_55 ?_
    refine lv_iload_n Z.x Z.b dX8_takeOff_56 rfl (lv_at hl 2 rfl) ?_
    refine lv_iadd Z.x Z.b dX8_takeOff_57 ?_
    refine lv_iconst (v := 1) Z.x Z.b dX8_takeOff_58 (by decide) ?_
    refine lv_iadd Z.x Z.b dX8_takeOff_59 ?_
    refine z_iald Z E dX8_takeOff_60 hf (fun v5 hf => ?_)
    refine z_iast Z E dX8_takeOff_61 hf (fun h6 H locs hf E => ?_)
    refine lv_iinc (v := (a3 + 1)) (lv' := [(3, .int (a3 + 1)), (0, .ref a0), (1, .int a1)]) Z.x Z.b dX8_takeOff_62 hl (k := 2) rfl rfl (by decide) rfl (fun ls hl => ?_)
    refine lv_goto (tgt := 16) Z.x Z.b dX8_takeOff_65 (by decide) ?_
    exact k16 hf E (lv_sub hl [1, 2, 0] rfl)
theorem t_X8_takeOff_16 {p : Program} {l : Launch} {e : Env} {s : State} {m : MethodId} {args : Array Value} {below : List Frame} {meth : Method} {c : Code} {G : zG} (Z : zF p s m args c meth cX8_takeOff 4 RX8 G) (hr : meth.sig.returnType = none) {out : zHp} : ∀ (n : Nat), ∀ {a0 : Nat} {a1 : Int32} {a3 : Int32} {h : zHp} {H : Heap} {locs : List Loc} {ls : Array Slot}, f_X8_takeOff_16 n a0 a1 a3 h = some out → zE G s h H locs → lv_has ls 4 [(0, .ref a0), (1, .int a1), (3, .int a3)] → W p l e rm_X8_takeOff s m args below meth c H locs 0 0 (MQ below (zQv G out) args s 0 0 (zA G)) (F0 m 16 ls [])
  | 0 => fun hf => by cases hf
  | n + 1 => fun hf E hl => t_X8_takeOff_16_body Z hr (r16 := f_X8_takeOff_16 n) (t_X8_takeOff_16 Z hr n) hf E hl
set_option maxHeartbeats 4000000 in
set_option maxRecDepth 20000 in
theorem t_X8_takeOff {p : Program} {l : Launch} {e : Env} {s : State} {m : MethodId} {args : Array Value} {below : List Frame} {meth : Method} {c : Code} {G : zG} (Z : zF p s m args c meth cX8_takeOff 4 RX8 G) (hr : meth.sig.returnType = none) {out : zHp} {a0 : Nat} {a1 : Int32} {a2 : Int32} {h : zHp} {H : Heap} {locs : List Loc} {ls : Array Slot} (hf : f_X8_takeOff a0 a1 a2 h = some out) (E : zE G s h H locs) (hl : lv_has ls 4 [(0, .ref a0), (1, .int a1), (2, .int a2)]) : W p l e rm_X8_takeOff s m args below meth c H locs 0 0 (MQ below (zQv G out) args s 0 0 (zA G)) (F0 m 0 ls []) := by
  unfold f_X8_takeOff at hf
  refine lv_aload_n Z.x Z.b dX8_takeOff_0 rfl (lv_at hl 0 rfl) ?_
  refine z_getR Z E q_X8_7 dX8_takeOff_1 hf (fun v1 hf => ?_)
  refine lv_sipush (v := 1041) Z.x Z.b dX8_takeOff_4 (by decide) ?_
  refine lv_iload_n Z.x Z.b dX8_takeOff_7 rfl (lv_at hl 1 rfl) ?_
  refine lv_iadd Z.x Z.b dX8_takeOff_8 ?_
  refine lv_dup2_11 Z.x Z.b dX8_takeOff_9 rfl rfl ?_
  refine z_iald Z E dX8_takeOff_10 hf (fun v2 hf => ?_)
  refine lv_iconst (v := 1) Z.x Z.b dX8_takeOff_11 (by decide) ?_
  refine lv_isub Z.x Z.b dX8_takeOff_12 ?_
  refine z_iast Z E dX8_takeOff_13 hf (fun h3 H locs hf E => ?_)
  refine lv_iload_n Z.x Z.b dX8_takeOff_14 rfl (lv_at hl 2 rfl) ?_
  refine lv_istore_n (lv' := [(3, .int a2), (0, .ref a0), (1, .int a1), (2, .int a2)]) Z.x Z.b dX8_takeOff_15 rfl hl (by decide) rfl (fun ls hl => ?_)
  exact t_X8_takeOff_16 Z hr zN hf E (lv_sub hl [1, 2, 0] rfl)
set_option maxHeartbeats 4000000 in
set_option maxRecDepth 20000 in
theorem c_X8_takeOff (l : Launch) (G : zG) (h : zHp) (h' : zHp) (a0 : Nat) (a1 : Int32) (a2 : Int32) (hf : f_X8_takeOff a0 a1 a2 h = some h') : zM0 l yX8_takeOff cX8_takeOff 4 none rm_X8_takeOff G [.ref a0, .int a1, .int a2] h (zQv G h') := by
  refine Met.ofW (cc := cX8_takeOff) (maxL := 4) (ret := none) (by decide) rfl ?_
  intro p e s m args below meth c s₁ B hml hv
  obtain ⟨rfl, hW⟩ := hv
  obtain ⟨Z, E, hr⟩ := zEnter (own := RX8) B hml rfl hW
  have hl := lv_entry ([.ref a0, .int a1, .int a2]) (n := 4) (Nat.le_of_ble_eq_true rfl)
  rw [lg_entry_eq]
  generalize (lg_sl ([.ref a0, .int a1, .int a2]) ++ List.replicate (4 - (lg_sl ([.ref a0, .int a1, .int a2])).length) Slot.unset).toArray = ls at hl ⊢
  have hl : lv_has ls 4 [(0, .ref a0), (1, .int a1), (2, .int a2)] := hl
  exact t_X8_takeOff (out := h') Z hr hf E hl
/-! FerryCrewsModel.climb(II)I -/
theorem dX8_climb_0 : decode cX8_climb 0 = .ok (.aload_n 0, 1) := by decide +kernel
theorem dX8_climb_1 : decode cX8_climb 1 = .ok (.iload_n 1, 1) := by decide +kernel
theorem dX8_climb_2 : decode cX8_climb 2 = .ok (.invokevirtual 160, 3) := by decide +kernel
theorem dX8_climb_5 : decode cX8_climb 5 = .ok (.ifCond .eq 10, 3) := by decide +kernel
theorem dX8_climb_8 : decode cX8_climb 8 = .ok (.iload_n 2, 1) := by decide +kernel
theorem dX8_climb_9 : decode cX8_climb 9 = .ok (.invokestatic 157, 3) := by decide +kernel
theorem dX8_climb_12 : decode cX8_climb 12 = .ok (.ifCond .ne 5, 3) := by decide +kernel
theorem dX8_climb_15 : decode cX8_climb 15 = .ok (.iconst (-1), 1) := by decide +kernel
theorem dX8_climb_16 : decode cX8_climb 16 = .ok (.ireturn, 1) := by decide +kernel
theorem dX8_climb_17 : decode cX8_climb 17 = .ok (.aload_n 0, 1) := by decide +kernel
theorem dX8_climb_18 : decode cX8_climb 18 = .ok (.invokevirtual 132, 3) := by decide +kernel
theorem dX8_climb_21 : decode cX8_climb 21 = .ok (.aload_n 0, 1) := by decide +kernel
theorem dX8_climb_22 : decode cX8_climb 22 = .ok (.iload_n 1, 1) := by decide +kernel
theorem dX8_climb_23 : decode cX8_climb 23 = .ok (.iload_n 2, 1) := by decide +kernel
theorem dX8_climb_24 : decode cX8_climb 24 = .ok (.invokevirtual 163, 3) := by decide +kernel
theorem dX8_climb_27 : decode cX8_climb 27 = .ok (.istore_n 3, 1) := by decide +kernel
theorem dX8_climb_28 : decode cX8_climb 28 = .ok (.iload_n 3, 1) := by decide +kernel
theorem dX8_climb_29 : decode cX8_climb 29 = .ok (.bipush (-5), 2) := by decide +kernel
theorem dX8_climb_31 : decode cX8_climb 31 = .ok (.if_icmp .eq 9, 3) := by decide +kernel
theorem dX8_climb_34 : decode cX8_climb 34 = .ok (.aload_n 0, 1) := by decide +kernel
theorem dX8_climb_35 : decode cX8_climb 35 = .ok (.iload_n 2, 1) := by decide +kernel
theorem dX8_climb_36 : decode cX8_climb 36 = .ok (.iload_n 3, 1) := by decide +kernel
theorem dX8_climb_37 : decode cX8_climb 37 = .ok (.invokevirtual 166, 3) := by decide +kernel
theorem dX8_climb_40 : decode cX8_climb 40 = .ok (.aload_n 0, 1) := by decide +kernel
theorem dX8_climb_41 : decode cX8_climb 41 = .ok (.getfield 7, 3) := by decide +kernel
theorem dX8_climb_44 : decode cX8_climb 44 = .ok (.sipush 1045, 3) := by decide +kernel
theorem dX8_climb_47 : decode cX8_climb 47 = .ok (.bipush 12, 2) := by decide +kernel
theorem dX8_climb_49 : decode cX8_climb 49 = .ok (.iload_n 2, 1) := by decide +kernel
theorem dX8_climb_50 : decode cX8_climb 50 = .ok (.imul, 1) := by decide +kernel
theorem dX8_climb_51 : decode cX8_climb 51 = .ok (.iadd, 1) := by decide +kernel
theorem dX8_climb_52 : decode cX8_climb 52 = .ok (.aload_n 0, 1) := by decide +kernel
theorem dX8_climb_53 : decode cX8_climb 53 = .ok (.getfield 7, 3) := by decide +kernel
theorem dX8_climb_56 : decode cX8_climb 56 = .ok (.sipush 1041, 3) := by decide +kernel
theorem dX8_climb_59 : decode cX8_climb 59 = .ok (.iload_n 2, 1) := by decide +kernel
theorem dX8_climb_60 : decode cX8_climb 60 = .ok (.iadd, 1) := by decide +kernel
theorem dX8_climb_61 : decode cX8_climb 61 = .ok (.iaload, 1) := by decide +kernel
theorem dX8_climb_62 : decode cX8_climb 62 = .ok (.iadd, 1) := by decide +kernel
theorem dX8_climb_63 : decode cX8_climb 63 = .ok (.iload_n 1, 1) := by decide +kernel
theorem dX8_climb_64 : decode cX8_climb 64 = .ok (.iastore, 1) := by decide +kernel
theorem dX8_climb_65 : decode cX8_climb 65 = .ok (.aload_n 0, 1) := by decide +kernel
theorem dX8_climb_66 : decode cX8_climb 66 = .ok (.getfield 7, 3) := by decide +kernel
theorem dX8_climb_69 : decode cX8_climb 69 = .ok (.sipush 1041, 3) := by decide +kernel
theorem dX8_climb_72 : decode cX8_climb 72 = .ok (.iload_n 2, 1) := by decide +kernel
theorem dX8_climb_73 : decode cX8_climb 73 = .ok (.iadd, 1) := by decide +kernel
theorem dX8_climb_74 : decode cX8_climb 74 = .ok (.dup2, 1) := by decide +kernel
theorem dX8_climb_75 : decode cX8_climb 75 = .ok (.iaload, 1) := by decide +kernel
theorem dX8_climb_76 : decode cX8_climb 76 = .ok (.iconst 1, 1) := by decide +kernel
theorem dX8_climb_77 : decode cX8_climb 77 = .ok (.iadd, 1) := by decide +kernel
theorem dX8_climb_78 : decode cX8_climb 78 = .ok (.iastore, 1) := by decide +kernel
theorem dX8_climb_79 : decode cX8_climb 79 = .ok (.aload_n 0, 1) := by decide +kernel
theorem dX8_climb_80 : decode cX8_climb 80 = .ok (.getfield 7, 3) := by decide +kernel
theorem dX8_climb_83 : decode cX8_climb 83 = .ok (.sipush 1041, 3) := by decide +kernel
theorem dX8_climb_86 : decode cX8_climb 86 = .ok (.iload_n 2, 1) := by decide +kernel
theorem dX8_climb_87 : decode cX8_climb 87 = .ok (.iadd, 1) := by decide +kernel
theorem dX8_climb_88 : decode cX8_climb 88 = .ok (.iaload, 1) := by decide +kernel
theorem dX8_climb_89 : decode cX8_climb 89 = .ok (.ireturn, 1) := by decide +kernel
set_option maxRecDepth 20000 in
theorem wc_X8_rungOf : Cond.code yX8_rungOf cX8_rungOf 4 (some .int) ∈ zB := List.mem_filter.mpr ⟨List.mem_of_getElem? (i := 971) (by decide +kernel), by decide +kernel⟩
set_option maxRecDepth 20000 in
theorem wm_X8_163 : Cond.methodLink RX8 163 yX8_rungOf ∈ zB := List.mem_filter.mpr ⟨List.mem_of_getElem? (i := 968) (by decide +kernel), by decide +kernel⟩
theorem k_X8_163 : zCal RX8 163 yX8_rungOf cX8_rungOf 4 (some .int) 2 := ⟨wm_X8_163, wi_X8, wc_X8_rungOf, by decide +kernel, by decide +kernel, by decide +kernel⟩
set_option maxRecDepth 20000 in
theorem wn_X8_rungOf : Cond.instanceMethod yX8_rungOf ∈ zB := List.mem_filter.mpr ⟨List.mem_of_getElem? (i := 970) (by decide +kernel), by decide +kernel⟩
set_option maxRecDepth 20000 in
theorem ws_X8_rungOf : Cond.selects RX8 yX8_rungOf yX8_rungOf ∈ zB := List.mem_filter.mpr ⟨List.mem_of_getElem? (i := 36) (by decide +kernel), by decide +kernel⟩
theorem v_X8_rungOf : zVir yX8_rungOf 8 := ⟨wn_X8_rungOf, ws_X8_rungOf, TX8, 12, rfl⟩
set_option maxRecDepth 20000 in
theorem wc_X8_takeOff : Cond.code yX8_takeOff cX8_takeOff 4 none ∈ zB := List.mem_filter.mpr ⟨List.mem_of_getElem? (i := 975) (by decide +kernel), by decide +kernel⟩
set_option maxRecDepth 20000 in
theorem wm_X8_166 : Cond.methodLink RX8 166 yX8_takeOff ∈ zB := List.mem_filter.mpr ⟨List.mem_of_getElem? (i := 972) (by decide +kernel), by decide +kernel⟩
theorem k_X8_166 : zCal RX8 166 yX8_takeOff cX8_takeOff 4 none 2 := ⟨wm_X8_166, wi_X8, wc_X8_takeOff, by decide +kernel, by decide +kernel, by decide +kernel⟩
set_option maxRecDepth 20000 in
theorem wn_X8_takeOff : Cond.instanceMethod yX8_takeOff ∈ zB := List.mem_filter.mpr ⟨List.mem_of_getElem? (i := 974) (by decide +kernel), by decide +kernel⟩
set_option maxRecDepth 20000 in
theorem ws_X8_takeOff : Cond.selects RX8 yX8_takeOff yX8_takeOff ∈ zB := List.mem_filter.mpr ⟨List.mem_of_getElem? (i := 37) (by decide +kernel), by decide +kernel⟩
theorem v_X8_takeOff : zVir yX8_takeOff 8 := ⟨wn_X8_takeOff, ws_X8_takeOff, TX8, 12, rfl⟩
def rm_X8_climb : Room := { frames := 2, cells := 0, slots := 0, locals := 43 }
set_option maxHeartbeats 4000000 in
set_option maxRecDepth 20000 in
theorem t_X8_climb_40 {p : Program} {l : Launch} {e : Env} {s : State} {m : MethodId} {args : Array Value} {below : List Frame} {meth : Method} {c : Code} {G : zG} (Z : zF p s m args c meth cX8_climb 4 RX8 G) (hr : meth.sig.returnType = (some .int)) {out : Int32 × zHp} {a0 : Nat} {a1 : Int32} {a2 : Int32} {h : zHp} {H : Heap} {locs : List Loc} {ls : Array Slot} (hf : f_X8_climb_40 a0 a1 a2 h = some out) (E : zE G s h H locs) (hl : lv_has ls 4 [(0, .ref a0), (1, .int a1), (2, .int a2)]) : W p l e rm_X8_climb s m args below meth c H locs 0 0 (MQ below (zQi G out.1 out.2) args s 0 0 (zA G)) (F0 m 40 ls []) := by
  unfold f_X8_climb_40 at hf
  refine lv_aload_n Z.x Z.b dX8_climb_40 rfl (lv_at hl 0 rfl) ?_
  refine z_getR Z E q_X8_7 dX8_climb_41 hf (fun v1 hf => ?_)
  refine lv_sipush (v := 1045) Z.x Z.b dX8_climb_44 (by decide) ?_
  refine lv_bipush (v := 12) Z.x Z.b dX8_climb_47 (by decide) ?_
  refine lv_iload_n Z.x Z.b dX8_climb_49 rfl (lv_at hl 2 rfl) ?_
  refine lv_imul Z.x Z.b dX8_climb_50 ?_
  refine lv_iadd Z.x Z.b dX8_climb_51 ?_
  refine lv_aload_n Z.x Z.b dX8_climb_52 rfl (lv_at hl 0 rfl) ?_
  refine z_getR Z E q_X8_7 dX8_climb_53 hf (fun v2 hf => ?_)
  refine lv_sipush (v := 1041) Z.x Z.b dX8_climb_56 (by decide) ?_
  refine lv_iload_n Z.x Z.b dX8_climb_59 rfl (lv_at hl 2 rfl) ?_
  refine lv_iadd Z.x Z.b dX8_climb_60 ?_
  refine z_iald Z E dX8_climb_61 hf (fun v3 hf => ?_)
  refine lv_iadd Z.x Z.b dX8_climb_62 ?_
  refine lv_iload_n Z.x Z.b dX8_climb_63 rfl (lv_at hl 1 rfl) ?_
  refine z_iast Z E dX8_climb_64 hf (fun h4 H locs hf E => ?_)
  refine lv_aload_n Z.x Z.b dX8_climb_65 rfl (lv_at hl 0 rfl) ?_
  refine z_getR Z E q_X8_7 dX8_climb_66 hf (fun v5 hf => ?_)
  refine lv_sipush (v := 1041) Z.x Z.b dX8_climb_69 (by decide) ?_
  refine lv_iload_n Z.x Z.b dX8_climb_72 rfl (lv_at hl 2 rfl) ?_
  refine lv_iadd Z.x Z.b dX8_climb_73 ?_
  refine lv_dup2_11 Z.x Z.b dX8_climb_74 rfl rfl ?_
  refine z_iald Z E dX8_climb_75 hf (fun v6 hf => ?_)
  refine lv_iconst (v := 1) Z.x Z.b dX8_climb_76 (by decide) ?_
  refine lv_iadd Z.x Z.b dX8_climb_77 ?_
  refine z_iast Z E dX8_climb_78 hf (fun h7 H locs hf E => ?_)
  refine lv_aload_n Z.x Z.b dX8_climb_79 rfl (lv_at hl 0 rfl) ?_
  refine z_getR Z E q_X8_7 dX8_climb_80 hf (fun v8 hf => ?_)
  refine lv_sipush (v := 1041) Z.x Z.b dX8_climb_83 (by decide) ?_
  refine lv_iload_n Z.x Z.b dX8_climb_86 rfl (lv_at hl 2 rfl) ?_
  refine lv_iadd Z.x Z.b dX8_climb_87 ?_
  refine z_iald Z E dX8_climb_88 hf (fun v9 hf => ?_)
  exact z_iret Z E hr dX8_climb_89 hf
set_option maxHeartbeats 4000000 in
set_option maxRecDepth 20000 in
theorem t_X8_climb {p : Program} {l : Launch} {e : Env} {s : State} {m : MethodId} {args : Array Value} {below : List Frame} {meth : Method} {c : Code} {G : zG} (Z : zF p s m args c meth cX8_climb 4 RX8 G) (hr : meth.sig.returnType = (some .int)) {out : Int32 × zHp} {a0 : Nat} {a1 : Int32} {a2 : Int32} {h : zHp} {H : Heap} {locs : List Loc} {ls : Array Slot} (hf : f_X8_climb a0 a1 a2 h = some out) (E : zE G s h H locs) (hl : lv_has ls 4 [(0, .ref a0), (1, .int a1), (2, .int a2)]) : W p l e rm_X8_climb s m args below meth c H locs 0 0 (MQ below (zQi G out.1 out.2) args s 0 0 (zA G)) (F0 m 0 ls []) := by
  unfold f_X8_climb at hf
  refine lv_aload_n Z.x Z.b dX8_climb_0 rfl (lv_at hl 0 rfl) ?_
  refine lv_iload_n Z.x Z.b dX8_climb_1 rfl (lv_at hl 1 rfl) ?_
  refine z_Vi (As := [.int a1]) Z E hl.1 k_X8_160 v_X8_isMember hf (fun r h' e => c_X8_isMember l G h h' a0 a1 r e) rfl rfl (Nat.le_of_ble_eq_true rfl) (zRm_of rfl (Nat.zero_le _) (Nat.zero_le _)) dX8_climb_2 (fun v1 h2 H locs hf E => ?_)
  refine lv_if_eq (tgt := 15) Z.x Z.b dX8_climb_5 (by decide) (fun c => ?_) (fun c => ?_)
  · have hf := zit hf c
    refine lv_iconst (v := (-1)) Z.x Z.b dX8_climb_15 (by decide) ?_
    exact z_iret Z E hr dX8_climb_16 hf
  · have hf := zif_ hf c
    refine lv_iload_n Z.x Z.b dX8_climb_8 rfl (lv_at hl 2 rfl) ?_
    refine z_Si (As := [.int a2]) Z E hl.1 k_X8_157 wt_X8_isRole hf (fun r h' e => c_X8_isRole l G h2 h' a2 r e) rfl rfl (Nat.le_of_ble_eq_true rfl) (zRm_of rfl (Nat.zero_le _) (Nat.zero_le _)) dX8_climb_9 (fun v3 h4 H locs hf E => ?_)
    refine lv_if_ne (tgt := 17) Z.x Z.b dX8_climb_12 (by decide) (fun c => ?_) (fun c => ?_)
    · have hf := zif_ hf c
      refine lv_aload_n Z.x Z.b dX8_climb_17 rfl (lv_at hl 0 rfl) ?_
      refine z_Vv (As := []) Z E hl.1 k_X8_132 v_X8_record hf (fun h' e => c_X8_record l G h4 h' a0 e) rfl rfl (Nat.le_of_ble_eq_true rfl) (zRm_of rfl (Nat.zero_le _) (Nat.zero_le _)) dX8_climb_18 (fun h5 H locs hf E => ?_)
      refine lv_aload_n Z.x Z.b dX8_climb_21 rfl (lv_at hl 0 rfl) ?_
      refine lv_iload_n Z.x Z.b dX8_climb_22 rfl (lv_at hl 1 rfl) ?_
      refine lv_iload_n Z.x Z.b dX8_climb_23 rfl (lv_at hl 2 rfl) ?_
      refine z_Vi (As := [.int a1, .int a2]) Z E hl.1 k_X8_163 v_X8_rungOf hf (fun r h' e => c_X8_rungOf l G h5 h' a0 a1 a2 r e) rfl rfl (Nat.le_of_ble_eq_true rfl) (zRm_of rfl (Nat.zero_le _) (Nat.zero_le _)) dX8_climb_24 (fun v6 h7 H locs hf E => ?_)
      refine lv_istore_n (lv' := [(3, .int v6), (0, .ref a0), (1, .int a1), (2, .int a2)]) Z.x Z.b dX8_climb_27 rfl hl (by decide) rfl (fun ls hl => ?_)
      refine lv_iload_n Z.x Z.b dX8_climb_28 rfl (lv_at hl 0 rfl) ?_
      refine lv_bipush (v := (-5)) Z.x Z.b dX8_climb_29 (by decide) ?_
      refine lv_icmp_eq (tgt := 40) Z.x Z.b dX8_climb_31 (by decide) (fun c => ?_) (fun c => ?_)
      · have hf := zit hf c
        exact t_X8_climb_40 Z hr hf E (lv_sub hl [1, 2, 3] rfl)
      · have hf := zif_ hf c
        refine lv_aload_n Z.x Z.b dX8_climb_34 rfl (lv_at hl 1 rfl) ?_
        refine lv_iload_n Z.x Z.b dX8_climb_35 rfl (lv_at hl 3 rfl) ?_
        refine lv_iload_n Z.x Z.b dX8_climb_36 rfl (lv_at hl 0 rfl) ?_
        refine z_Vv (As := [.int a2, .int v6]) Z E hl.1 k_X8_166 v_X8_takeOff hf (fun h' e => c_X8_takeOff l G h7 h' a0 a2 v6 e) rfl rfl (Nat.le_of_ble_eq_true rfl) (zRm_of rfl (Nat.zero_le _) (Nat.zero_le _)) dX8_climb_37 (fun h8 H locs hf E => ?_)
        exact t_X8_climb_40 Z hr hf E (lv_sub hl [1, 2, 3] rfl)
    · have hf := zit hf c
      refine lv_iconst (v := (-1)) Z.x Z.b dX8_climb_15 (by decide) ?_
      exact z_iret Z E hr dX8_climb_16 hf
set_option maxHeartbeats 4000000 in
set_option maxRecDepth 20000 in
theorem c_X8_climb (l : Launch) (G : zG) (h : zHp) (h' : zHp) (a0 : Nat) (a1 : Int32) (a2 : Int32) (r : Int32) (hf : f_X8_climb a0 a1 a2 h = some (r, h')) : zM0 l yX8_climb cX8_climb 4 (some .int) rm_X8_climb G [.ref a0, .int a1, .int a2] h (zQi G r h') := by
  refine Met.ofW (cc := cX8_climb) (maxL := 4) (ret := (some .int)) (by decide) rfl ?_
  intro p e s m args below meth c s₁ B hml hv
  obtain ⟨rfl, hW⟩ := hv
  obtain ⟨Z, E, hr⟩ := zEnter (own := RX8) B hml rfl hW
  have hl := lv_entry ([.ref a0, .int a1, .int a2]) (n := 4) (Nat.le_of_ble_eq_true rfl)
  rw [lg_entry_eq]
  generalize (lg_sl ([.ref a0, .int a1, .int a2]) ++ List.replicate (4 - (lg_sl ([.ref a0, .int a1, .int a2])).length) Slot.unset).toArray = ls at hl ⊢
  have hl : lv_has ls 4 [(0, .ref a0), (1, .int a1), (2, .int a2)] := hl
  exact t_X8_climb (out := (r, h')) Z hr hf E hl
/-! FerryCrewsModel.leave(II)I -/
theorem dX8_leave_0 : decode cX8_leave 0 = .ok (.aload_n 0, 1) := by decide +kernel
theorem dX8_leave_1 : decode cX8_leave 1 = .ok (.iload_n 1, 1) := by decide +kernel
theorem dX8_leave_2 : decode cX8_leave 2 = .ok (.invokevirtual 160, 3) := by decide +kernel
theorem dX8_leave_5 : decode cX8_leave 5 = .ok (.ifCond .eq 10, 3) := by decide +kernel
theorem dX8_leave_8 : decode cX8_leave 8 = .ok (.iload_n 2, 1) := by decide +kernel
theorem dX8_leave_9 : decode cX8_leave 9 = .ok (.invokestatic 157, 3) := by decide +kernel
theorem dX8_leave_12 : decode cX8_leave 12 = .ok (.ifCond .ne 5, 3) := by decide +kernel
theorem dX8_leave_15 : decode cX8_leave 15 = .ok (.iconst (-1), 1) := by decide +kernel
theorem dX8_leave_16 : decode cX8_leave 16 = .ok (.ireturn, 1) := by decide +kernel
theorem dX8_leave_17 : decode cX8_leave 17 = .ok (.aload_n 0, 1) := by decide +kernel
theorem dX8_leave_18 : decode cX8_leave 18 = .ok (.iload_n 1, 1) := by decide +kernel
theorem dX8_leave_19 : decode cX8_leave 19 = .ok (.iload_n 2, 1) := by decide +kernel
theorem dX8_leave_20 : decode cX8_leave 20 = .ok (.invokevirtual 163, 3) := by decide +kernel
theorem dX8_leave_23 : decode cX8_leave 23 = .ok (.istore_n 3, 1) := by decide +kernel
theorem dX8_leave_24 : decode cX8_leave 24 = .ok (.iload_n 3, 1) := by decide +kernel
theorem dX8_leave_25 : decode cX8_leave 25 = .ok (.bipush (-5), 2) := by decide +kernel
theorem dX8_leave_27 : decode cX8_leave 27 = .ok (.if_icmp .ne 6, 3) := by decide +kernel
theorem dX8_leave_30 : decode cX8_leave 30 = .ok (.bipush (-5), 2) := by decide +kernel
theorem dX8_leave_32 : decode cX8_leave 32 = .ok (.ireturn, 1) := by decide +kernel
theorem dX8_leave_33 : decode cX8_leave 33 = .ok (.aload_n 0, 1) := by decide +kernel
theorem dX8_leave_34 : decode cX8_leave 34 = .ok (.invokevirtual 132, 3) := by decide +kernel
theorem dX8_leave_37 : decode cX8_leave 37 = .ok (.aload_n 0, 1) := by decide +kernel
theorem dX8_leave_38 : decode cX8_leave 38 = .ok (.iload_n 2, 1) := by decide +kernel
theorem dX8_leave_39 : decode cX8_leave 39 = .ok (.iload_n 3, 1) := by decide +kernel
theorem dX8_leave_40 : decode cX8_leave 40 = .ok (.invokevirtual 166, 3) := by decide +kernel
theorem dX8_leave_43 : decode cX8_leave 43 = .ok (.aload_n 0, 1) := by decide +kernel
theorem dX8_leave_44 : decode cX8_leave 44 = .ok (.getfield 7, 3) := by decide +kernel
theorem dX8_leave_47 : decode cX8_leave 47 = .ok (.sipush 1041, 3) := by decide +kernel
theorem dX8_leave_50 : decode cX8_leave 50 = .ok (.iload_n 2, 1) := by decide +kernel
theorem dX8_leave_51 : decode cX8_leave 51 = .ok (.iadd, 1) := by decide +kernel
theorem dX8_leave_52 : decode cX8_leave 52 = .ok (.iaload, 1) := by decide +kernel
theorem dX8_leave_53 : decode cX8_leave 53 = .ok (.ireturn, 1) := by decide +kernel
def rm_X8_leave : Room := { frames := 2, cells := 0, slots := 0, locals := 43 }
set_option maxHeartbeats 4000000 in
set_option maxRecDepth 20000 in
theorem t_X8_leave {p : Program} {l : Launch} {e : Env} {s : State} {m : MethodId} {args : Array Value} {below : List Frame} {meth : Method} {c : Code} {G : zG} (Z : zF p s m args c meth cX8_leave 4 RX8 G) (hr : meth.sig.returnType = (some .int)) {out : Int32 × zHp} {a0 : Nat} {a1 : Int32} {a2 : Int32} {h : zHp} {H : Heap} {locs : List Loc} {ls : Array Slot} (hf : f_X8_leave a0 a1 a2 h = some out) (E : zE G s h H locs) (hl : lv_has ls 4 [(0, .ref a0), (1, .int a1), (2, .int a2)]) : W p l e rm_X8_leave s m args below meth c H locs 0 0 (MQ below (zQi G out.1 out.2) args s 0 0 (zA G)) (F0 m 0 ls []) := by
  unfold f_X8_leave at hf
  refine lv_aload_n Z.x Z.b dX8_leave_0 rfl (lv_at hl 0 rfl) ?_
  refine lv_iload_n Z.x Z.b dX8_leave_1 rfl (lv_at hl 1 rfl) ?_
  refine z_Vi (As := [.int a1]) Z E hl.1 k_X8_160 v_X8_isMember hf (fun r h' e => c_X8_isMember l G h h' a0 a1 r e) rfl rfl (Nat.le_of_ble_eq_true rfl) (zRm_of rfl (Nat.zero_le _) (Nat.zero_le _)) dX8_leave_2 (fun v1 h2 H locs hf E => ?_)
  refine lv_if_eq (tgt := 15) Z.x Z.b dX8_leave_5 (by decide) (fun c => ?_) (fun c => ?_)
  · have hf := zit hf c
    refine lv_iconst (v := (-1)) Z.x Z.b dX8_leave_15 (by decide) ?_
    exact z_iret Z E hr dX8_leave_16 hf
  · have hf := zif_ hf c
    refine lv_iload_n Z.x Z.b dX8_leave_8 rfl (lv_at hl 2 rfl) ?_
    refine z_Si (As := [.int a2]) Z E hl.1 k_X8_157 wt_X8_isRole hf (fun r h' e => c_X8_isRole l G h2 h' a2 r e) rfl rfl (Nat.le_of_ble_eq_true rfl) (zRm_of rfl (Nat.zero_le _) (Nat.zero_le _)) dX8_leave_9 (fun v3 h4 H locs hf E => ?_)
    refine lv_if_ne (tgt := 17) Z.x Z.b dX8_leave_12 (by decide) (fun c => ?_) (fun c => ?_)
    · have hf := zif_ hf c
      refine lv_aload_n Z.x Z.b dX8_leave_17 rfl (lv_at hl 0 rfl) ?_
      refine lv_iload_n Z.x Z.b dX8_leave_18 rfl (lv_at hl 1 rfl) ?_
      refine lv_iload_n Z.x Z.b dX8_leave_19 rfl (lv_at hl 2 rfl) ?_
      refine z_Vi (As := [.int a1, .int a2]) Z E hl.1 k_X8_163 v_X8_rungOf hf (fun r h' e => c_X8_rungOf l G h4 h' a0 a1 a2 r e) rfl rfl (Nat.le_of_ble_eq_true rfl) (zRm_of rfl (Nat.zero_le _) (Nat.zero_le _)) dX8_leave_20 (fun v5 h6 H locs hf E => ?_)
      refine lv_istore_n (lv' := [(3, .int v5), (0, .ref a0), (1, .int a1), (2, .int a2)]) Z.x Z.b dX8_leave_23 rfl hl (by decide) rfl (fun ls hl => ?_)
      refine lv_iload_n Z.x Z.b dX8_leave_24 rfl (lv_at hl 0 rfl) ?_
      refine lv_bipush (v := (-5)) Z.x Z.b dX8_leave_25 (by decide) ?_
      refine lv_icmp_ne (tgt := 33) Z.x Z.b dX8_leave_27 (by decide) (fun c => ?_) (fun c => ?_)
      · have hf := zif_ hf c
        refine lv_aload_n Z.x Z.b dX8_leave_33 rfl (lv_at hl 1 rfl) ?_
        refine z_Vv (As := []) Z E hl.1 k_X8_132 v_X8_record hf (fun h' e => c_X8_record l G h6 h' a0 e) rfl rfl (Nat.le_of_ble_eq_true rfl) (zRm_of rfl (Nat.zero_le _) (Nat.zero_le _)) dX8_leave_34 (fun h7 H locs hf E => ?_)
        refine lv_aload_n Z.x Z.b dX8_leave_37 rfl (lv_at hl 1 rfl) ?_
        refine lv_iload_n Z.x Z.b dX8_leave_38 rfl (lv_at hl 3 rfl) ?_
        refine lv_iload_n Z.x Z.b dX8_leave_39 rfl (lv_at hl 0 rfl) ?_
        refine z_Vv (As := [.int a2, .int v5]) Z E hl.1 k_X8_166 v_X8_takeOff hf (fun h' e => c_X8_takeOff l G h7 h' a0 a2 v5 e) rfl rfl (Nat.le_of_ble_eq_true rfl) (zRm_of rfl (Nat.zero_le _) (Nat.zero_le _)) dX8_leave_40 (fun h8 H locs hf E => ?_)
        refine lv_aload_n Z.x Z.b dX8_leave_43 rfl (lv_at hl 1 rfl) ?_
        refine z_getR Z E q_X8_7 dX8_leave_44 hf (fun v9 hf => ?_)
        refine lv_sipush (v := 1041) Z.x Z.b dX8_leave_47 (by decide) ?_
        refine lv_iload_n Z.x Z.b dX8_leave_50 rfl (lv_at hl 3 rfl) ?_
        refine lv_iadd Z.x Z.b dX8_leave_51 ?_
        refine z_iald Z E dX8_leave_52 hf (fun v10 hf => ?_)
        exact z_iret Z E hr dX8_leave_53 hf
      · have hf := zit hf c
        refine lv_bipush (v := (-5)) Z.x Z.b dX8_leave_30 (by decide) ?_
        exact z_iret Z E hr dX8_leave_32 hf
    · have hf := zit hf c
      refine lv_iconst (v := (-1)) Z.x Z.b dX8_leave_15 (by decide) ?_
      exact z_iret Z E hr dX8_leave_16 hf
set_option maxHeartbeats 4000000 in
set_option maxRecDepth 20000 in
theorem c_X8_leave (l : Launch) (G : zG) (h : zHp) (h' : zHp) (a0 : Nat) (a1 : Int32) (a2 : Int32) (r : Int32) (hf : f_X8_leave a0 a1 a2 h = some (r, h')) : zM0 l yX8_leave cX8_leave 4 (some .int) rm_X8_leave G [.ref a0, .int a1, .int a2] h (zQi G r h') := by
  refine Met.ofW (cc := cX8_leave) (maxL := 4) (ret := (some .int)) (by decide) rfl ?_
  intro p e s m args below meth c s₁ B hml hv
  obtain ⟨rfl, hW⟩ := hv
  obtain ⟨Z, E, hr⟩ := zEnter (own := RX8) B hml rfl hW
  have hl := lv_entry ([.ref a0, .int a1, .int a2]) (n := 4) (Nat.le_of_ble_eq_true rfl)
  rw [lg_entry_eq]
  generalize (lg_sl ([.ref a0, .int a1, .int a2]) ++ List.replicate (4 - (lg_sl ([.ref a0, .int a1, .int a2])).length) Slot.unset).toArray = ls at hl ⊢
  have hl : lv_has ls 4 [(0, .ref a0), (1, .int a1), (2, .int a2)] := hl
  exact t_X8_leave (out := (r, h')) Z hr hf E hl
/-! FerryCrewsModel.sick(II)I -/
theorem dX8_sick_0 : decode cX8_sick 0 = .ok (.aload_n 0, 1) := by decide +kernel
theorem dX8_sick_1 : decode cX8_sick 1 = .ok (.iload_n 1, 1) := by decide +kernel
theorem dX8_sick_2 : decode cX8_sick 2 = .ok (.invokevirtual 160, 3) := by decide +kernel
theorem dX8_sick_5 : decode cX8_sick 5 = .ok (.ifCond .ne 5, 3) := by decide +kernel
theorem dX8_sick_8 : decode cX8_sick 8 = .ok (.iconst (-1), 1) := by decide +kernel
theorem dX8_sick_9 : decode cX8_sick 9 = .ok (.ireturn, 1) := by decide +kernel
theorem dX8_sick_10 : decode cX8_sick 10 = .ok (.iload_n 2, 1) := by decide +kernel
theorem dX8_sick_11 : decode cX8_sick 11 = .ok (.iconst 1, 1) := by decide +kernel
theorem dX8_sick_12 : decode cX8_sick 12 = .ok (.sipush 400, 3) := by decide +kernel
theorem dX8_sick_15 : decode cX8_sick 15 = .ok (.invokestatic 42, 3) := by decide +kernel
theorem dX8_sick_18 : decode cX8_sick 18 = .ok (.ifCond .ne 6, 3) := by decide +kernel
theorem dX8_sick_21 : decode cX8_sick 21 = .ok (.bipush (-2), 2) := by decide +kernel
theorem dX8_sick_23 : decode cX8_sick 23 = .ok (.ireturn, 1) := by decide +kernel
theorem dX8_sick_24 : decode cX8_sick 24 = .ok (.aload_n 0, 1) := by decide +kernel
theorem dX8_sick_25 : decode cX8_sick 25 = .ok (.invokevirtual 132, 3) := by decide +kernel
theorem dX8_sick_28 : decode cX8_sick 28 = .ok (.aload_n 0, 1) := by decide +kernel
theorem dX8_sick_29 : decode cX8_sick 29 = .ok (.iload_n 1, 1) := by decide +kernel
theorem dX8_sick_30 : decode cX8_sick 30 = .ok (.iload_n 2, 1) := by decide +kernel
theorem dX8_sick_31 : decode cX8_sick 31 = .ok (.invokevirtual 170, 3) := by decide +kernel
theorem dX8_sick_34 : decode cX8_sick 34 = .ok (.ireturn, 1) := by decide +kernel
set_option maxRecDepth 20000 in
theorem wc_X8_sickNow : Cond.code yX8_sickNow cX8_sickNow 7 (some .int) ∈ zB := List.mem_filter.mpr ⟨List.mem_of_getElem? (i := 987) (by decide +kernel), by decide +kernel⟩
set_option maxRecDepth 20000 in
theorem wm_X8_170 : Cond.methodLink RX8 170 yX8_sickNow ∈ zB := List.mem_filter.mpr ⟨List.mem_of_getElem? (i := 984) (by decide +kernel), by decide +kernel⟩
theorem k_X8_170 : zCal RX8 170 yX8_sickNow cX8_sickNow 7 (some .int) 2 := ⟨wm_X8_170, wi_X8, wc_X8_sickNow, by decide +kernel, by decide +kernel, by decide +kernel⟩
set_option maxRecDepth 20000 in
theorem wn_X8_sickNow : Cond.instanceMethod yX8_sickNow ∈ zB := List.mem_filter.mpr ⟨List.mem_of_getElem? (i := 986) (by decide +kernel), by decide +kernel⟩
set_option maxRecDepth 20000 in
theorem ws_X8_sickNow : Cond.selects RX8 yX8_sickNow yX8_sickNow ∈ zB := List.mem_filter.mpr ⟨List.mem_of_getElem? (i := 38) (by decide +kernel), by decide +kernel⟩
theorem v_X8_sickNow : zVir yX8_sickNow 8 := ⟨wn_X8_sickNow, ws_X8_sickNow, TX8, 12, rfl⟩
def rm_X8_sick : Room := { frames := 9, cells := 0, slots := 0, locals := 210 }
set_option maxHeartbeats 4000000 in
set_option maxRecDepth 20000 in
theorem t_X8_sick {p : Program} {l : Launch} {e : Env} {s : State} {m : MethodId} {args : Array Value} {below : List Frame} {meth : Method} {c : Code} {G : zG} (Z : zF p s m args c meth cX8_sick 3 RX8 G) (hr : meth.sig.returnType = (some .int)) {out : Int32 × zHp} {a0 : Nat} {a1 : Int32} {a2 : Int32} {h : zHp} {H : Heap} {locs : List Loc} {ls : Array Slot} (hf : f_X8_sick a0 a1 a2 h = some out) (E : zE G s h H locs) (hl : lv_has ls 3 [(0, .ref a0), (1, .int a1), (2, .int a2)]) : W p l e rm_X8_sick s m args below meth c H locs 0 0 (MQ below (zQi G out.1 out.2) args s 0 0 (zA G)) (F0 m 0 ls []) := by
  unfold f_X8_sick at hf
  refine lv_aload_n Z.x Z.b dX8_sick_0 rfl (lv_at hl 0 rfl) ?_
  refine lv_iload_n Z.x Z.b dX8_sick_1 rfl (lv_at hl 1 rfl) ?_
  refine z_Vi (As := [.int a1]) Z E hl.1 k_X8_160 v_X8_isMember hf (fun r h' e => c_X8_isMember l G h h' a0 a1 r e) rfl rfl (Nat.le_of_ble_eq_true rfl) (zRm_of rfl (Nat.zero_le _) (Nat.zero_le _)) dX8_sick_2 (fun v1 h2 H locs hf E => ?_)
  refine lv_if_ne (tgt := 10) Z.x Z.b dX8_sick_5 (by decide) (fun c => ?_) (fun c => ?_)
  · have hf := zif_ hf c
    refine lv_iload_n Z.x Z.b dX8_sick_10 rfl (lv_at hl 2 rfl) ?_
    refine lv_iconst (v := 1) Z.x Z.b dX8_sick_11 (by decide) ?_
    refine lv_sipush (v := 400) Z.x Z.b dX8_sick_12 (by decide) ?_
    refine z_Si (As := [.int a2, .int 1, .int 400]) Z E hl.1 k_X8_42 wt_X8_in hf (fun r h' e => c_X8_in l G h2 h' a2 1 400 r e) rfl rfl (Nat.le_of_ble_eq_true rfl) (zRm_of rfl (Nat.zero_le _) (Nat.zero_le _)) dX8_sick_15 (fun v3 h4 H locs hf E => ?_)
    refine lv_if_ne (tgt := 24) Z.x Z.b dX8_sick_18 (by decide) (fun c => ?_) (fun c => ?_)
    · have hf := zif_ hf c
      refine lv_aload_n Z.x Z.b dX8_sick_24 rfl (lv_at hl 0 rfl) ?_
      refine z_Vv (As := []) Z E hl.1 k_X8_132 v_X8_record hf (fun h' e => c_X8_record l G h4 h' a0 e) rfl rfl (Nat.le_of_ble_eq_true rfl) (zRm_of rfl (Nat.zero_le _) (Nat.zero_le _)) dX8_sick_25 (fun h5 H locs hf E => ?_)
      refine lv_aload_n Z.x Z.b dX8_sick_28 rfl (lv_at hl 0 rfl) ?_
      refine lv_iload_n Z.x Z.b dX8_sick_29 rfl (lv_at hl 1 rfl) ?_
      refine lv_iload_n Z.x Z.b dX8_sick_30 rfl (lv_at hl 2 rfl) ?_
      refine z_Vi (As := [.int a1, .int a2]) Z E hl.1 k_X8_170 v_X8_sickNow hf (fun r h' e => c_X8_sickNow l G h5 h' a0 a1 a2 r e) rfl rfl (Nat.le_of_ble_eq_true rfl) (zRm_of rfl (Nat.zero_le _) (Nat.zero_le _)) dX8_sick_31 (fun v6 h7 H locs hf E => ?_)
      exact z_iret Z E hr dX8_sick_34 hf
    · have hf := zit hf c
      refine lv_bipush (v := (-2)) Z.x Z.b dX8_sick_21 (by decide) ?_
      exact z_iret Z E hr dX8_sick_23 hf
  · have hf := zit hf c
    refine lv_iconst (v := (-1)) Z.x Z.b dX8_sick_8 (by decide) ?_
    exact z_iret Z E hr dX8_sick_9 hf
set_option maxHeartbeats 4000000 in
set_option maxRecDepth 20000 in
theorem c_X8_sick (l : Launch) (G : zG) (h : zHp) (h' : zHp) (a0 : Nat) (a1 : Int32) (a2 : Int32) (r : Int32) (hf : f_X8_sick a0 a1 a2 h = some (r, h')) : zM0 l yX8_sick cX8_sick 3 (some .int) rm_X8_sick G [.ref a0, .int a1, .int a2] h (zQi G r h') := by
  refine Met.ofW (cc := cX8_sick) (maxL := 3) (ret := (some .int)) (by decide) rfl ?_
  intro p e s m args below meth c s₁ B hml hv
  obtain ⟨rfl, hW⟩ := hv
  obtain ⟨Z, E, hr⟩ := zEnter (own := RX8) B hml rfl hW
  have hl := lv_entry ([.ref a0, .int a1, .int a2]) (n := 3) (Nat.le_of_ble_eq_true rfl)
  rw [lg_entry_eq]
  generalize (lg_sl ([.ref a0, .int a1, .int a2]) ++ List.replicate (3 - (lg_sl ([.ref a0, .int a1, .int a2])).length) Slot.unset).toArray = ls at hl ⊢
  have hl : lv_has ls 3 [(0, .ref a0), (1, .int a1), (2, .int a2)] := hl
  exact t_X8_sick (out := (r, h')) Z hr hf E hl
/-! FerryCrewsModel.well(I)I -/
theorem dX8_well_0 : decode cX8_well 0 = .ok (.aload_n 0, 1) := by decide +kernel
theorem dX8_well_1 : decode cX8_well 1 = .ok (.iload_n 1, 1) := by decide +kernel
theorem dX8_well_2 : decode cX8_well 2 = .ok (.invokevirtual 160, 3) := by decide +kernel
theorem dX8_well_5 : decode cX8_well 5 = .ok (.ifCond .ne 5, 3) := by decide +kernel
theorem dX8_well_8 : decode cX8_well 8 = .ok (.iconst (-1), 1) := by decide +kernel
theorem dX8_well_9 : decode cX8_well 9 = .ok (.ireturn, 1) := by decide +kernel
theorem dX8_well_10 : decode cX8_well 10 = .ok (.aload_n 0, 1) := by decide +kernel
theorem dX8_well_11 : decode cX8_well 11 = .ok (.iload_n 1, 1) := by decide +kernel
theorem dX8_well_12 : decode cX8_well 12 = .ok (.invokevirtual 89, 3) := by decide +kernel
theorem dX8_well_15 : decode cX8_well 15 = .ok (.ifCond .ne 6, 3) := by decide +kernel
theorem dX8_well_18 : decode cX8_well 18 = .ok (.bipush (-5), 2) := by decide +kernel
theorem dX8_well_20 : decode cX8_well 20 = .ok (.ireturn, 1) := by decide +kernel
theorem dX8_well_21 : decode cX8_well 21 = .ok (.aload_n 0, 1) := by decide +kernel
theorem dX8_well_22 : decode cX8_well 22 = .ok (.iload_n 1, 1) := by decide +kernel
theorem dX8_well_23 : decode cX8_well 23 = .ok (.iconst 4, 1) := by decide +kernel
theorem dX8_well_24 : decode cX8_well 24 = .ok (.invokevirtual 59, 3) := by decide +kernel
theorem dX8_well_27 : decode cX8_well 27 = .ok (.aload_n 0, 1) := by decide +kernel
theorem dX8_well_28 : decode cX8_well 28 = .ok (.getfield 7, 3) := by decide +kernel
theorem dX8_well_31 : decode cX8_well 31 = .ok (.iconst 0, 1) := by decide +kernel
theorem dX8_well_32 : decode cX8_well 32 = .ok (.iaload, 1) := by decide +kernel
theorem dX8_well_33 : decode cX8_well 33 = .ok (.isub, 1) := by decide +kernel
theorem dX8_well_34 : decode cX8_well 34 = .ok (.istore_n 2, 1) := by decide +kernel
theorem dX8_well_35 : decode cX8_well 35 = .ok (.aload_n 0, 1) := by decide +kernel
theorem dX8_well_36 : decode cX8_well 36 = .ok (.invokevirtual 132, 3) := by decide +kernel
theorem dX8_well_39 : decode cX8_well 39 = .ok (.aload_n 0, 1) := by decide +kernel
theorem dX8_well_40 : decode cX8_well 40 = .ok (.iload_n 1, 1) := by decide +kernel
theorem dX8_well_41 : decode cX8_well 41 = .ok (.iconst 4, 1) := by decide +kernel
theorem dX8_well_42 : decode cX8_well 42 = .ok (.iconst 0, 1) := by decide +kernel
theorem dX8_well_43 : decode cX8_well 43 = .ok (.invokevirtual 104, 3) := by decide +kernel
theorem dX8_well_46 : decode cX8_well 46 = .ok (.iload_n 2, 1) := by decide +kernel
theorem dX8_well_47 : decode cX8_well 47 = .ok (.ireturn, 1) := by decide +kernel
def rm_X8_well : Room := { frames := 2, cells := 0, slots := 0, locals := 43 }
set_option maxHeartbeats 4000000 in
set_option maxRecDepth 20000 in
theorem t_X8_well {p : Program} {l : Launch} {e : Env} {s : State} {m : MethodId} {args : Array Value} {below : List Frame} {meth : Method} {c : Code} {G : zG} (Z : zF p s m args c meth cX8_well 3 RX8 G) (hr : meth.sig.returnType = (some .int)) {out : Int32 × zHp} {a0 : Nat} {a1 : Int32} {h : zHp} {H : Heap} {locs : List Loc} {ls : Array Slot} (hf : f_X8_well a0 a1 h = some out) (E : zE G s h H locs) (hl : lv_has ls 3 [(0, .ref a0), (1, .int a1)]) : W p l e rm_X8_well s m args below meth c H locs 0 0 (MQ below (zQi G out.1 out.2) args s 0 0 (zA G)) (F0 m 0 ls []) := by
  unfold f_X8_well at hf
  refine lv_aload_n Z.x Z.b dX8_well_0 rfl (lv_at hl 0 rfl) ?_
  refine lv_iload_n Z.x Z.b dX8_well_1 rfl (lv_at hl 1 rfl) ?_
  refine z_Vi (As := [.int a1]) Z E hl.1 k_X8_160 v_X8_isMember hf (fun r h' e => c_X8_isMember l G h h' a0 a1 r e) rfl rfl (Nat.le_of_ble_eq_true rfl) (zRm_of rfl (Nat.zero_le _) (Nat.zero_le _)) dX8_well_2 (fun v1 h2 H locs hf E => ?_)
  refine lv_if_ne (tgt := 10) Z.x Z.b dX8_well_5 (by decide) (fun c => ?_) (fun c => ?_)
  · have hf := zif_ hf c
    refine lv_aload_n Z.x Z.b dX8_well_10 rfl (lv_at hl 0 rfl) ?_
    refine lv_iload_n Z.x Z.b dX8_well_11 rfl (lv_at hl 1 rfl) ?_
    refine z_Vi (As := [.int a1]) Z E hl.1 k_X8_89 v_X8_isSick hf (fun r h' e => c_X8_isSick l G h2 h' a0 a1 r e) rfl rfl (Nat.le_of_ble_eq_true rfl) (zRm_of rfl (Nat.zero_le _) (Nat.zero_le _)) dX8_well_12 (fun v3 h4 H locs hf E => ?_)
    refine lv_if_ne (tgt := 21) Z.x Z.b dX8_well_15 (by decide) (fun c => ?_) (fun c => ?_)
    · have hf := zif_ hf c
      refine lv_aload_n Z.x Z.b dX8_well_21 rfl (lv_at hl 0 rfl) ?_
      refine lv_iload_n Z.x Z.b dX8_well_22 rfl (lv_at hl 1 rfl) ?_
      refine lv_iconst (v := 4) Z.x Z.b dX8_well_23 (by decide) ?_
      refine z_Vi (As := [.int a1, .int 4]) Z E hl.1 k_X8_59 v_X8_has hf (fun r h' e => c_X8_has l G h4 h' a0 a1 4 r e) rfl rfl (Nat.le_of_ble_eq_true rfl) (zRm_of rfl (Nat.zero_le _) (Nat.zero_le _)) dX8_well_24 (fun v5 h6 H locs hf E => ?_)
      refine lv_aload_n Z.x Z.b dX8_well_27 rfl (lv_at hl 0 rfl) ?_
      refine z_getR Z E q_X8_7 dX8_well_28 hf (fun v7 hf => ?_)
      refine lv_iconst (v := 0) Z.x Z.b dX8_well_31 (by decide) ?_
      refine z_iald Z E dX8_well_32 hf (fun v8 hf => ?_)
      refine lv_isub Z.x Z.b dX8_well_33 ?_
      refine lv_istore_n (lv' := [(2, .int (v5 - v8)), (0, .ref a0), (1, .int a1)]) Z.x Z.b dX8_well_34 rfl hl (by decide) rfl (fun ls hl => ?_)
      refine lv_aload_n Z.x Z.b dX8_well_35 rfl (lv_at hl 1 rfl) ?_
      refine z_Vv (As := []) Z E hl.1 k_X8_132 v_X8_record hf (fun h' e => c_X8_record l G h6 h' a0 e) rfl rfl (Nat.le_of_ble_eq_true rfl) (zRm_of rfl (Nat.zero_le _) (Nat.zero_le _)) dX8_well_36 (fun h9 H locs hf E => ?_)
      refine lv_aload_n Z.x Z.b dX8_well_39 rfl (lv_at hl 1 rfl) ?_
      refine lv_iload_n Z.x Z.b dX8_well_40 rfl (lv_at hl 2 rfl) ?_
      refine lv_iconst (v := 4) Z.x Z.b dX8_well_41 (by decide) ?_
      refine lv_iconst (v := 0) Z.x Z.b dX8_well_42 (by decide) ?_
      refine z_Vv (As := [.int a1, .int 4, .int 0]) Z E hl.1 k_X8_104 v_X8_note hf (fun h' e => c_X8_note l G h9 h' a0 a1 4 0 e) rfl rfl (Nat.le_of_ble_eq_true rfl) (zRm_of rfl (Nat.zero_le _) (Nat.zero_le _)) dX8_well_43 (fun h10 H locs hf E => ?_)
      refine lv_iload_n Z.x Z.b dX8_well_46 rfl (lv_at hl 0 rfl) ?_
      exact z_iret Z E hr dX8_well_47 hf
    · have hf := zit hf c
      refine lv_bipush (v := (-5)) Z.x Z.b dX8_well_18 (by decide) ?_
      exact z_iret Z E hr dX8_well_20 hf
  · have hf := zit hf c
    refine lv_iconst (v := (-1)) Z.x Z.b dX8_well_8 (by decide) ?_
    exact z_iret Z E hr dX8_well_9 hf
set_option maxHeartbeats 4000000 in
set_option maxRecDepth 20000 in
theorem c_X8_well (l : Launch) (G : zG) (h : zHp) (h' : zHp) (a0 : Nat) (a1 : Int32) (r : Int32) (hf : f_X8_well a0 a1 h = some (r, h')) : zM0 l yX8_well cX8_well 3 (some .int) rm_X8_well G [.ref a0, .int a1] h (zQi G r h') := by
  refine Met.ofW (cc := cX8_well) (maxL := 3) (ret := (some .int)) (by decide) rfl ?_
  intro p e s m args below meth c s₁ B hml hv
  obtain ⟨rfl, hW⟩ := hv
  obtain ⟨Z, E, hr⟩ := zEnter (own := RX8) B hml rfl hW
  have hl := lv_entry ([.ref a0, .int a1]) (n := 3) (Nat.le_of_ble_eq_true rfl)
  rw [lg_entry_eq]
  generalize (lg_sl ([.ref a0, .int a1]) ++ List.replicate (3 - (lg_sl ([.ref a0, .int a1])).length) Slot.unset).toArray = ls at hl ⊢
  have hl : lv_has ls 3 [(0, .ref a0), (1, .int a1)] := hl
  exact t_X8_well (out := (r, h')) Z hr hf E hl
/-! FerryCrewsModel.isAsked(III)Z -/
theorem dX8_isAsked_0 : decode cX8_isAsked 0 = .ok (.aload_n 0, 1) := by decide +kernel
theorem dX8_isAsked_1 : decode cX8_isAsked 1 = .ok (.iload_n 1, 1) := by decide +kernel
theorem dX8_isAsked_2 : decode cX8_isAsked 2 = .ok (.invokevirtual 160, 3) := by decide +kernel
theorem dX8_isAsked_5 : decode cX8_isAsked 5 = .ok (.ifCond .eq 22, 3) := by decide +kernel
theorem dX8_isAsked_8 : decode cX8_isAsked 8 = .ok (.aload_n 0, 1) := by decide +kernel
theorem dX8_isAsked_9 : decode cX8_isAsked 9 = .ok (.iload_n 2, 1) := by decide +kernel
theorem dX8_isAsked_10 : decode cX8_isAsked 10 = .ok (.invokevirtual 154, 3) := by decide +kernel
theorem dX8_isAsked_13 : decode cX8_isAsked 13 = .ok (.ifCond .eq 14, 3) := by decide +kernel
theorem dX8_isAsked_16 : decode cX8_isAsked 16 = .ok (.iload_n 3, 1) := by decide +kernel
theorem dX8_isAsked_17 : decode cX8_isAsked 17 = .ok (.invokestatic 157, 3) := by decide +kernel
theorem dX8_isAsked_20 : decode cX8_isAsked 20 = .ok (.ifCond .eq 7, 3) := by decide +kernel
theorem dX8_isAsked_23 : decode cX8_isAsked 23 = .ok (.iconst 1, 1) := by decide +kernel
theorem dX8_isAsked_24 : decode cX8_isAsked 24 = .ok (.goto 4, 3) := by decide +kernel
theorem dX8_isAsked_27 : decode cX8_isAsked 27 = .ok (.iconst 0, 1) := by decide +kernel
theorem dX8_isAsked_28 : decode cX8_isAsked 28 = .ok (.ireturn, 1) := by decide +kernel
def rm_X8_isAsked : Room := { frames := 2, cells := 0, slots := 0, locals := 43 }
set_option maxHeartbeats 4000000 in
set_option maxRecDepth 20000 in
theorem t_X8_isAsked_27 {p : Program} {l : Launch} {e : Env} {s : State} {m : MethodId} {args : Array Value} {below : List Frame} {meth : Method} {c : Code} {G : zG} (Z : zF p s m args c meth cX8_isAsked 4 RX8 G) (hr : meth.sig.returnType = (some .boolean)) {out : Int32 × zHp} {h : zHp} {H : Heap} {locs : List Loc} {ls : Array Slot} (hf : f_X8_isAsked_27 h = some out) (E : zE G s h H locs) (hl : lv_has ls 4 []) : W p l e rm_X8_isAsked s m args below meth c H locs 0 0 (MQ below (zQi G out.1 out.2) args s 0 0 (zA G)) (F0 m 27 ls []) := by
  unfold f_X8_isAsked_27 at hf
  refine lv_iconst (v := 0) Z.x Z.b dX8_isAsked_27 (by decide) ?_
  exact z_zret Z E hr dX8_isAsked_28 hf
set_option maxHeartbeats 4000000 in
set_option maxRecDepth 20000 in
theorem t_X8_isAsked {p : Program} {l : Launch} {e : Env} {s : State} {m : MethodId} {args : Array Value} {below : List Frame} {meth : Method} {c : Code} {G : zG} (Z : zF p s m args c meth cX8_isAsked 4 RX8 G) (hr : meth.sig.returnType = (some .boolean)) {out : Int32 × zHp} {a0 : Nat} {a1 : Int32} {a2 : Int32} {a3 : Int32} {h : zHp} {H : Heap} {locs : List Loc} {ls : Array Slot} (hf : f_X8_isAsked a0 a1 a2 a3 h = some out) (E : zE G s h H locs) (hl : lv_has ls 4 [(0, .ref a0), (1, .int a1), (2, .int a2), (3, .int a3)]) : W p l e rm_X8_isAsked s m args below meth c H locs 0 0 (MQ below (zQi G out.1 out.2) args s 0 0 (zA G)) (F0 m 0 ls []) := by
  unfold f_X8_isAsked at hf
  refine lv_aload_n Z.x Z.b dX8_isAsked_0 rfl (lv_at hl 0 rfl) ?_
  refine lv_iload_n Z.x Z.b dX8_isAsked_1 rfl (lv_at hl 1 rfl) ?_
  refine z_Vi (As := [.int a1]) Z E hl.1 k_X8_160 v_X8_isMember hf (fun r h' e => c_X8_isMember l G h h' a0 a1 r e) rfl rfl (Nat.le_of_ble_eq_true rfl) (zRm_of rfl (Nat.zero_le _) (Nat.zero_le _)) dX8_isAsked_2 (fun v1 h2 H locs hf E => ?_)
  refine lv_if_eq (tgt := 27) Z.x Z.b dX8_isAsked_5 (by decide) (fun c => ?_) (fun c => ?_)
  · have hf := zit hf c
    exact t_X8_isAsked_27 Z hr hf E (lv_sub hl [] rfl)
  · have hf := zif_ hf c
    refine lv_aload_n Z.x Z.b dX8_isAsked_8 rfl (lv_at hl 0 rfl) ?_
    refine lv_iload_n Z.x Z.b dX8_isAsked_9 rfl (lv_at hl 2 rfl) ?_
    refine z_Vi (As := [.int a2]) Z E hl.1 k_X8_154 v_X8_isSailing hf (fun r h' e => c_X8_isSailing l G h2 h' a0 a2 r e) rfl rfl (Nat.le_of_ble_eq_true rfl) (zRm_of rfl (Nat.zero_le _) (Nat.zero_le _)) dX8_isAsked_10 (fun v3 h4 H locs hf E => ?_)
    refine lv_if_eq (tgt := 27) Z.x Z.b dX8_isAsked_13 (by decide) (fun c => ?_) (fun c => ?_)
    · have hf := zit hf c
      exact t_X8_isAsked_27 Z hr hf E (lv_sub hl [] rfl)
    · have hf := zif_ hf c
      refine lv_iload_n Z.x Z.b dX8_isAsked_16 rfl (lv_at hl 3 rfl) ?_
      refine z_Si (As := [.int a3]) Z E hl.1 k_X8_157 wt_X8_isRole hf (fun r h' e => c_X8_isRole l G h4 h' a3 r e) rfl rfl (Nat.le_of_ble_eq_true rfl) (zRm_of rfl (Nat.zero_le _) (Nat.zero_le _)) dX8_isAsked_17 (fun v5 h6 H locs hf E => ?_)
      refine lv_if_eq (tgt := 27) Z.x Z.b dX8_isAsked_20 (by decide) (fun c => ?_) (fun c => ?_)
      · have hf := zit hf c
        exact t_X8_isAsked_27 Z hr hf E (lv_sub hl [] rfl)
      · have hf := zif_ hf c
        refine lv_iconst (v := 1) Z.x Z.b dX8_isAsked_23 (by decide) ?_
        refine lv_goto (tgt := 28) Z.x Z.b dX8_isAsked_24 (by decide) ?_
        exact z_zret Z E hr dX8_isAsked_28 hf
set_option maxHeartbeats 4000000 in
set_option maxRecDepth 20000 in
theorem c_X8_isAsked (l : Launch) (G : zG) (h : zHp) (h' : zHp) (a0 : Nat) (a1 : Int32) (a2 : Int32) (a3 : Int32) (r : Int32) (hf : f_X8_isAsked a0 a1 a2 a3 h = some (r, h')) : zM0 l yX8_isAsked cX8_isAsked 4 (some .boolean) rm_X8_isAsked G [.ref a0, .int a1, .int a2, .int a3] h (zQi G r h') := by
  refine Met.ofW (cc := cX8_isAsked) (maxL := 4) (ret := (some .boolean)) (by decide) rfl ?_
  intro p e s m args below meth c s₁ B hml hv
  obtain ⟨rfl, hW⟩ := hv
  obtain ⟨Z, E, hr⟩ := zEnter (own := RX8) B hml rfl hW
  have hl := lv_entry ([.ref a0, .int a1, .int a2, .int a3]) (n := 4) (Nat.le_of_ble_eq_true rfl)
  rw [lg_entry_eq]
  generalize (lg_sl ([.ref a0, .int a1, .int a2, .int a3]) ++ List.replicate (4 - (lg_sl ([.ref a0, .int a1, .int a2, .int a3])).length) Slot.unset).toArray = ls at hl ⊢
  have hl : lv_has ls 4 [(0, .ref a0), (1, .int a1), (2, .int a2), (3, .int a3)] := hl
  exact t_X8_isAsked (out := (r, h')) Z hr hf E hl
/-! FerryCrewsModel.why(III)I -/
theorem dX8_why_0 : decode cX8_why 0 = .ok (.aload_n 0, 1) := by decide +kernel
theorem dX8_why_1 : decode cX8_why 1 = .ok (.iload_n 1, 1) := by decide +kernel
theorem dX8_why_2 : decode cX8_why 2 = .ok (.iload_n 2, 1) := by decide +kernel
theorem dX8_why_3 : decode cX8_why 3 = .ok (.iload_n 3, 1) := by decide +kernel
theorem dX8_why_4 : decode cX8_why 4 = .ok (.invokevirtual 216, 3) := by decide +kernel
theorem dX8_why_7 : decode cX8_why 7 = .ok (.ifCond .eq 13, 3) := by decide +kernel
theorem dX8_why_10 : decode cX8_why 10 = .ok (.aload_n 0, 1) := by decide +kernel
theorem dX8_why_11 : decode cX8_why 11 = .ok (.iload_n 1, 1) := by decide +kernel
theorem dX8_why_12 : decode cX8_why 12 = .ok (.iload_n 2, 1) := by decide +kernel
theorem dX8_why_13 : decode cX8_why 13 = .ok (.iload_n 3, 1) := by decide +kernel
theorem dX8_why_14 : decode cX8_why 14 = .ok (.invokevirtual 100, 3) := by decide +kernel
theorem dX8_why_17 : decode cX8_why 17 = .ok (.goto 4, 3) := by decide +kernel
theorem dX8_why_20 : decode cX8_why 20 = .ok (.iconst (-1), 1) := by decide +kernel
theorem dX8_why_21 : decode cX8_why 21 = .ok (.ireturn, 1) := by decide +kernel
set_option maxRecDepth 20000 in
theorem wc_X8_isAsked : Cond.code yX8_isAsked cX8_isAsked 4 (some .boolean) ∈ zB := List.mem_filter.mpr ⟨List.mem_of_getElem? (i := 1043) (by decide +kernel), by decide +kernel⟩
set_option maxRecDepth 20000 in
theorem wm_X8_216 : Cond.methodLink RX8 216 yX8_isAsked ∈ zB := List.mem_filter.mpr ⟨List.mem_of_getElem? (i := 1040) (by decide +kernel), by decide +kernel⟩
theorem k_X8_216 : zCal RX8 216 yX8_isAsked cX8_isAsked 4 (some .boolean) 3 := ⟨wm_X8_216, wi_X8, wc_X8_isAsked, by decide +kernel, by decide +kernel, by decide +kernel⟩
set_option maxRecDepth 20000 in
theorem wn_X8_isAsked : Cond.instanceMethod yX8_isAsked ∈ zB := List.mem_filter.mpr ⟨List.mem_of_getElem? (i := 1042) (by decide +kernel), by decide +kernel⟩
set_option maxRecDepth 20000 in
theorem ws_X8_isAsked : Cond.selects RX8 yX8_isAsked yX8_isAsked ∈ zB := List.mem_filter.mpr ⟨List.mem_of_getElem? (i := 49) (by decide +kernel), by decide +kernel⟩
theorem v_X8_isAsked : zVir yX8_isAsked 8 := ⟨wn_X8_isAsked, ws_X8_isAsked, TX8, 12, rfl⟩
def rm_X8_why : Room := { frames := 7, cells := 0, slots := 0, locals := 160 }
set_option maxHeartbeats 4000000 in
set_option maxRecDepth 20000 in
theorem t_X8_why {p : Program} {l : Launch} {e : Env} {s : State} {m : MethodId} {args : Array Value} {below : List Frame} {meth : Method} {c : Code} {G : zG} (Z : zF p s m args c meth cX8_why 4 RX8 G) (hr : meth.sig.returnType = (some .int)) {out : Int32 × zHp} {a0 : Nat} {a1 : Int32} {a2 : Int32} {a3 : Int32} {h : zHp} {H : Heap} {locs : List Loc} {ls : Array Slot} (hf : f_X8_why a0 a1 a2 a3 h = some out) (E : zE G s h H locs) (hl : lv_has ls 4 [(0, .ref a0), (1, .int a1), (2, .int a2), (3, .int a3)]) : W p l e rm_X8_why s m args below meth c H locs 0 0 (MQ below (zQi G out.1 out.2) args s 0 0 (zA G)) (F0 m 0 ls []) := by
  unfold f_X8_why at hf
  refine lv_aload_n Z.x Z.b dX8_why_0 rfl (lv_at hl 0 rfl) ?_
  refine lv_iload_n Z.x Z.b dX8_why_1 rfl (lv_at hl 1 rfl) ?_
  refine lv_iload_n Z.x Z.b dX8_why_2 rfl (lv_at hl 2 rfl) ?_
  refine lv_iload_n Z.x Z.b dX8_why_3 rfl (lv_at hl 3 rfl) ?_
  refine z_Vi (As := [.int a1, .int a2, .int a3]) Z E hl.1 k_X8_216 v_X8_isAsked hf (fun r h' e => c_X8_isAsked l G h h' a0 a1 a2 a3 r e) rfl rfl (Nat.le_of_ble_eq_true rfl) (zRm_of rfl (Nat.zero_le _) (Nat.zero_le _)) dX8_why_4 (fun v1 h2 H locs hf E => ?_)
  refine lv_if_eq (tgt := 20) Z.x Z.b dX8_why_7 (by decide) (fun c => ?_) (fun c => ?_)
  · have hf := zit hf c
    refine lv_iconst (v := (-1)) Z.x Z.b dX8_why_20 (by decide) ?_
    exact z_iret Z E hr dX8_why_21 hf
  · have hf := zif_ hf c
    refine lv_aload_n Z.x Z.b dX8_why_10 rfl (lv_at hl 0 rfl) ?_
    refine lv_iload_n Z.x Z.b dX8_why_11 rfl (lv_at hl 1 rfl) ?_
    refine lv_iload_n Z.x Z.b dX8_why_12 rfl (lv_at hl 2 rfl) ?_
    refine lv_iload_n Z.x Z.b dX8_why_13 rfl (lv_at hl 3 rfl) ?_
    refine z_Vi (As := [.int a1, .int a2, .int a3]) Z E hl.1 k_X8_100 v_X8_reason hf (fun r h' e => c_X8_reason l G h2 h' a0 a1 a2 a3 r e) rfl rfl (Nat.le_of_ble_eq_true rfl) (zRm_of rfl (Nat.zero_le _) (Nat.zero_le _)) dX8_why_14 (fun v3 h4 H locs hf E => ?_)
    refine lv_goto (tgt := 21) Z.x Z.b dX8_why_17 (by decide) ?_
    exact z_iret Z E hr dX8_why_21 hf
set_option maxHeartbeats 4000000 in
set_option maxRecDepth 20000 in
theorem c_X8_why (l : Launch) (G : zG) (h : zHp) (h' : zHp) (a0 : Nat) (a1 : Int32) (a2 : Int32) (a3 : Int32) (r : Int32) (hf : f_X8_why a0 a1 a2 a3 h = some (r, h')) : zM0 l yX8_why cX8_why 4 (some .int) rm_X8_why G [.ref a0, .int a1, .int a2, .int a3] h (zQi G r h') := by
  refine Met.ofW (cc := cX8_why) (maxL := 4) (ret := (some .int)) (by decide) rfl ?_
  intro p e s m args below meth c s₁ B hml hv
  obtain ⟨rfl, hW⟩ := hv
  obtain ⟨Z, E, hr⟩ := zEnter (own := RX8) B hml rfl hW
  have hl := lv_entry ([.ref a0, .int a1, .int a2, .int a3]) (n := 4) (Nat.le_of_ble_eq_true rfl)
  rw [lg_entry_eq]
  generalize (lg_sl ([.ref a0, .int a1, .int a2, .int a3]) ++ List.replicate (4 - (lg_sl ([.ref a0, .int a1, .int a2, .int a3])).length) Slot.unset).toArray = ls at hl ⊢
  have hl : lv_has ls 4 [(0, .ref a0), (1, .int a1), (2, .int a2), (3, .int a3)] := hl
  exact t_X8_why (out := (r, h')) Z hr hf E hl
/-! FerryCrewsModel.give(III)I -/
theorem dX8_give_0 : decode cX8_give 0 = .ok (.aload_n 0, 1) := by decide +kernel
theorem dX8_give_1 : decode cX8_give 1 = .ok (.iload_n 1, 1) := by decide +kernel
theorem dX8_give_2 : decode cX8_give 2 = .ok (.iload_n 2, 1) := by decide +kernel
theorem dX8_give_3 : decode cX8_give 3 = .ok (.iload_n 3, 1) := by decide +kernel
theorem dX8_give_4 : decode cX8_give 4 = .ok (.invokevirtual 173, 3) := by decide +kernel
theorem dX8_give_7 : decode cX8_give 7 = .ok (.istore 4, 2) := by decide +kernel
theorem dX8_give_9 : decode cX8_give 9 = .ok (.iload 4, 2) := by decide +kernel
theorem dX8_give_11 : decode cX8_give 11 = .ok (.ifCond .eq 6, 3) := by decide +kernel
theorem dX8_give_14 : decode cX8_give 14 = .ok (.iload 4, 2) := by decide +kernel
theorem dX8_give_16 : decode cX8_give 16 = .ok (.ireturn, 1) := by decide +kernel
theorem dX8_give_17 : decode cX8_give 17 = .ok (.aload_n 0, 1) := by decide +kernel
theorem dX8_give_18 : decode cX8_give 18 = .ok (.invokevirtual 132, 3) := by decide +kernel
theorem dX8_give_21 : decode cX8_give 21 = .ok (.aload_n 0, 1) := by decide +kernel
theorem dX8_give_22 : decode cX8_give 22 = .ok (.iload_n 2, 1) := by decide +kernel
theorem dX8_give_23 : decode cX8_give 23 = .ok (.iload_n 1, 1) := by decide +kernel
theorem dX8_give_24 : decode cX8_give 24 = .ok (.iload_n 3, 1) := by decide +kernel
theorem dX8_give_25 : decode cX8_give 25 = .ok (.iconst 1, 1) := by decide +kernel
theorem dX8_give_26 : decode cX8_give 26 = .ok (.iadd, 1) := by decide +kernel
theorem dX8_give_27 : decode cX8_give 27 = .ok (.invokevirtual 93, 3) := by decide +kernel
theorem dX8_give_30 : decode cX8_give 30 = .ok (.iconst 0, 1) := by decide +kernel
theorem dX8_give_31 : decode cX8_give 31 = .ok (.ireturn, 1) := by decide +kernel
set_option maxRecDepth 20000 in
theorem wc_X8_why : Cond.code yX8_why cX8_why 4 (some .int) ∈ zB := List.mem_filter.mpr ⟨List.mem_of_getElem? (i := 1039) (by decide +kernel), by decide +kernel⟩
set_option maxRecDepth 20000 in
theorem wm_X8_173 : Cond.methodLink RX8 173 yX8_why ∈ zB := List.mem_filter.mpr ⟨List.mem_of_getElem? (i := 1036) (by decide +kernel), by decide +kernel⟩
theorem k_X8_173 : zCal RX8 173 yX8_why cX8_why 4 (some .int) 3 := ⟨wm_X8_173, wi_X8, wc_X8_why, by decide +kernel, by decide +kernel, by decide +kernel⟩
set_option maxRecDepth 20000 in
theorem wn_X8_why : Cond.instanceMethod yX8_why ∈ zB := List.mem_filter.mpr ⟨List.mem_of_getElem? (i := 1037) (by decide +kernel), by decide +kernel⟩
set_option maxRecDepth 20000 in
theorem ws_X8_why : Cond.selects RX8 yX8_why yX8_why ∈ zB := List.mem_filter.mpr ⟨List.mem_of_getElem? (i := 1038) (by decide +kernel), by decide +kernel⟩
theorem v_X8_why : zVir yX8_why 8 := ⟨wn_X8_why, ws_X8_why, TX8, 12, rfl⟩
def rm_X8_give : Room := { frames := 8, cells := 0, slots := 0, locals := 183 }
set_option maxHeartbeats 4000000 in
set_option maxRecDepth 20000 in
theorem t_X8_give {p : Program} {l : Launch} {e : Env} {s : State} {m : MethodId} {args : Array Value} {below : List Frame} {meth : Method} {c : Code} {G : zG} (Z : zF p s m args c meth cX8_give 5 RX8 G) (hr : meth.sig.returnType = (some .int)) {out : Int32 × zHp} {a0 : Nat} {a1 : Int32} {a2 : Int32} {a3 : Int32} {h : zHp} {H : Heap} {locs : List Loc} {ls : Array Slot} (hf : f_X8_give a0 a1 a2 a3 h = some out) (E : zE G s h H locs) (hl : lv_has ls 5 [(0, .ref a0), (1, .int a1), (2, .int a2), (3, .int a3)]) : W p l e rm_X8_give s m args below meth c H locs 0 0 (MQ below (zQi G out.1 out.2) args s 0 0 (zA G)) (F0 m 0 ls []) := by
  unfold f_X8_give at hf
  refine lv_aload_n Z.x Z.b dX8_give_0 rfl (lv_at hl 0 rfl) ?_
  refine lv_iload_n Z.x Z.b dX8_give_1 rfl (lv_at hl 1 rfl) ?_
  refine lv_iload_n Z.x Z.b dX8_give_2 rfl (lv_at hl 2 rfl) ?_
  refine lv_iload_n Z.x Z.b dX8_give_3 rfl (lv_at hl 3 rfl) ?_
  refine z_Vi (As := [.int a1, .int a2, .int a3]) Z E hl.1 k_X8_173 v_X8_why hf (fun r h' e => c_X8_why l G h h' a0 a1 a2 a3 r e) rfl rfl (Nat.le_of_ble_eq_true rfl) (zRm_of rfl (Nat.zero_le _) (Nat.zero_le _)) dX8_give_4 (fun v1 h2 H locs hf E => ?_)
  refine lv_istore (lv' := [(4, .int v1), (0, .ref a0), (1, .int a1), (2, .int a2), (3, .int a3)]) Z.x Z.b dX8_give_7 hl (by decide) rfl (fun ls hl => ?_)
  refine lv_iload Z.x Z.b dX8_give_9 (lv_at hl 0 rfl) ?_
  refine lv_if_eq (tgt := 17) Z.x Z.b dX8_give_11 (by decide) (fun c => ?_) (fun c => ?_)
  · have hf := zit hf c
    refine lv_aload_n Z.x Z.b dX8_give_17 rfl (lv_at hl 1 rfl) ?_
    refine z_Vv (As := []) Z E hl.1 k_X8_132 v_X8_record hf (fun h' e => c_X8_record l G h2 h' a0 e) rfl rfl (Nat.le_of_ble_eq_true rfl) (zRm_of rfl (Nat.zero_le _) (Nat.zero_le _)) dX8_give_18 (fun h3 H locs hf E => ?_)
    refine lv_aload_n Z.x Z.b dX8_give_21 rfl (lv_at hl 1 rfl) ?_
    refine lv_iload_n Z.x Z.b dX8_give_22 rfl (lv_at hl 3 rfl) ?_
    refine lv_iload_n Z.x Z.b dX8_give_23 rfl (lv_at hl 2 rfl) ?_
    refine lv_iload_n Z.x Z.b dX8_give_24 rfl (lv_at hl 4 rfl) ?_
    refine lv_iconst (v := 1) Z.x Z.b dX8_give_25 (by decide) ?_
    refine lv_iadd Z.x Z.b dX8_give_26 ?_
    refine z_Vv (As := [.int a2, .int a1, .int (a3 + 1)]) Z E hl.1 k_X8_93 v_X8_setPlace hf (fun h' e => c_X8_setPlace l G h3 h' a0 a2 a1 (a3 + 1) e) rfl rfl (Nat.le_of_ble_eq_true rfl) (zRm_of rfl (Nat.zero_le _) (Nat.zero_le _)) dX8_give_27 (fun h4 H locs hf E => ?_)
    refine lv_iconst (v := 0) Z.x Z.b dX8_give_30 (by decide) ?_
    exact z_iret Z E hr dX8_give_31 hf
  · have hf := zif_ hf c
    refine lv_iload Z.x Z.b dX8_give_14 (lv_at hl 0 rfl) ?_
    exact z_iret Z E hr dX8_give_16 hf
set_option maxHeartbeats 4000000 in
set_option maxRecDepth 20000 in
theorem c_X8_give (l : Launch) (G : zG) (h : zHp) (h' : zHp) (a0 : Nat) (a1 : Int32) (a2 : Int32) (a3 : Int32) (r : Int32) (hf : f_X8_give a0 a1 a2 a3 h = some (r, h')) : zM0 l yX8_give cX8_give 5 (some .int) rm_X8_give G [.ref a0, .int a1, .int a2, .int a3] h (zQi G r h') := by
  refine Met.ofW (cc := cX8_give) (maxL := 5) (ret := (some .int)) (by decide) rfl ?_
  intro p e s m args below meth c s₁ B hml hv
  obtain ⟨rfl, hW⟩ := hv
  obtain ⟨Z, E, hr⟩ := zEnter (own := RX8) B hml rfl hW
  have hl := lv_entry ([.ref a0, .int a1, .int a2, .int a3]) (n := 5) (Nat.le_of_ble_eq_true rfl)
  rw [lg_entry_eq]
  generalize (lg_sl ([.ref a0, .int a1, .int a2, .int a3]) ++ List.replicate (5 - (lg_sl ([.ref a0, .int a1, .int a2, .int a3])).length) Slot.unset).toArray = ls at hl ⊢
  have hl : lv_has ls 5 [(0, .ref a0), (1, .int a1), (2, .int a2), (3, .int a3)] := hl
  exact t_X8_give (out := (r, h')) Z hr hf E hl
/-! FerryCrewsModel.giveUp(II)I -/
theorem dX8_giveUp_0 : decode cX8_giveUp 0 = .ok (.aload_n 0, 1) := by decide +kernel
theorem dX8_giveUp_1 : decode cX8_giveUp 1 = .ok (.iload_n 1, 1) := by decide +kernel
theorem dX8_giveUp_2 : decode cX8_giveUp 2 = .ok (.invokevirtual 160, 3) := by decide +kernel
theorem dX8_giveUp_5 : decode cX8_giveUp 5 = .ok (.ifCond .eq 11, 3) := by decide +kernel
theorem dX8_giveUp_8 : decode cX8_giveUp 8 = .ok (.aload_n 0, 1) := by decide +kernel
theorem dX8_giveUp_9 : decode cX8_giveUp 9 = .ok (.iload_n 2, 1) := by decide +kernel
theorem dX8_giveUp_10 : decode cX8_giveUp 10 = .ok (.invokevirtual 154, 3) := by decide +kernel
theorem dX8_giveUp_13 : decode cX8_giveUp 13 = .ok (.ifCond .ne 5, 3) := by decide +kernel
theorem dX8_giveUp_16 : decode cX8_giveUp 16 = .ok (.iconst (-1), 1) := by decide +kernel
theorem dX8_giveUp_17 : decode cX8_giveUp 17 = .ok (.ireturn, 1) := by decide +kernel
theorem dX8_giveUp_18 : decode cX8_giveUp 18 = .ok (.aload_n 0, 1) := by decide +kernel
theorem dX8_giveUp_19 : decode cX8_giveUp 19 = .ok (.iload_n 2, 1) := by decide +kernel
theorem dX8_giveUp_20 : decode cX8_giveUp 20 = .ok (.iconst 0, 1) := by decide +kernel
theorem dX8_giveUp_21 : decode cX8_giveUp 21 = .ok (.invokevirtual 62, 3) := by decide +kernel
theorem dX8_giveUp_24 : decode cX8_giveUp 24 = .ok (.ifCond .ne 6, 3) := by decide +kernel
theorem dX8_giveUp_27 : decode cX8_giveUp 27 = .ok (.bipush (-4), 2) := by decide +kernel
theorem dX8_giveUp_29 : decode cX8_giveUp 29 = .ok (.ireturn, 1) := by decide +kernel
theorem dX8_giveUp_30 : decode cX8_giveUp 30 = .ok (.aload_n 0, 1) := by decide +kernel
theorem dX8_giveUp_31 : decode cX8_giveUp 31 = .ok (.iload_n 2, 1) := by decide +kernel
theorem dX8_giveUp_32 : decode cX8_giveUp 32 = .ok (.iload_n 1, 1) := by decide +kernel
theorem dX8_giveUp_33 : decode cX8_giveUp 33 = .ok (.invokevirtual 46, 3) := by decide +kernel
theorem dX8_giveUp_36 : decode cX8_giveUp 36 = .ok (.istore_n 3, 1) := by decide +kernel
theorem dX8_giveUp_37 : decode cX8_giveUp 37 = .ok (.iload_n 3, 1) := by decide +kernel
theorem dX8_giveUp_38 : decode cX8_giveUp 38 = .ok (.ifCond .ne 6, 3) := by decide +kernel
theorem dX8_giveUp_41 : decode cX8_giveUp 41 = .ok (.bipush (-5), 2) := by decide +kernel
theorem dX8_giveUp_43 : decode cX8_giveUp 43 = .ok (.ireturn, 1) := by decide +kernel
theorem dX8_giveUp_44 : decode cX8_giveUp 44 = .ok (.aload_n 0, 1) := by decide +kernel
theorem dX8_giveUp_45 : decode cX8_giveUp 45 = .ok (.invokevirtual 132, 3) := by decide +kernel
theorem dX8_giveUp_48 : decode cX8_giveUp 48 = .ok (.aload_n 0, 1) := by decide +kernel
theorem dX8_giveUp_49 : decode cX8_giveUp 49 = .ok (.iload_n 2, 1) := by decide +kernel
theorem dX8_giveUp_50 : decode cX8_giveUp 50 = .ok (.iload_n 1, 1) := by decide +kernel
theorem dX8_giveUp_51 : decode cX8_giveUp 51 = .ok (.iconst 0, 1) := by decide +kernel
theorem dX8_giveUp_52 : decode cX8_giveUp 52 = .ok (.invokevirtual 93, 3) := by decide +kernel
theorem dX8_giveUp_55 : decode cX8_giveUp 55 = .ok (.iload_n 3, 1) := by decide +kernel
theorem dX8_giveUp_56 : decode cX8_giveUp 56 = .ok (.iconst 1, 1) := by decide +kernel
theorem dX8_giveUp_57 : decode cX8_giveUp 57 = .ok (.isub, 1) := by decide +kernel
theorem dX8_giveUp_58 : decode cX8_giveUp 58 = .ok (.ireturn, 1) := by decide +kernel
def rm_X8_giveUp : Room := { frames := 2, cells := 0, slots := 0, locals := 44 }
set_option maxHeartbeats 4000000 in
set_option maxRecDepth 20000 in
theorem t_X8_giveUp {p : Program} {l : Launch} {e : Env} {s : State} {m : MethodId} {args : Array Value} {below : List Frame} {meth : Method} {c : Code} {G : zG} (Z : zF p s m args c meth cX8_giveUp 4 RX8 G) (hr : meth.sig.returnType = (some .int)) {out : Int32 × zHp} {a0 : Nat} {a1 : Int32} {a2 : Int32} {h : zHp} {H : Heap} {locs : List Loc} {ls : Array Slot} (hf : f_X8_giveUp a0 a1 a2 h = some out) (E : zE G s h H locs) (hl : lv_has ls 4 [(0, .ref a0), (1, .int a1), (2, .int a2)]) : W p l e rm_X8_giveUp s m args below meth c H locs 0 0 (MQ below (zQi G out.1 out.2) args s 0 0 (zA G)) (F0 m 0 ls []) := by
  unfold f_X8_giveUp at hf
  refine lv_aload_n Z.x Z.b dX8_giveUp_0 rfl (lv_at hl 0 rfl) ?_
  refine lv_iload_n Z.x Z.b dX8_giveUp_1 rfl (lv_at hl 1 rfl) ?_
  refine z_Vi (As := [.int a1]) Z E hl.1 k_X8_160 v_X8_isMember hf (fun r h' e => c_X8_isMember l G h h' a0 a1 r e) rfl rfl (Nat.le_of_ble_eq_true rfl) (zRm_of rfl (Nat.zero_le _) (Nat.zero_le _)) dX8_giveUp_2 (fun v1 h2 H locs hf E => ?_)
  refine lv_if_eq (tgt := 16) Z.x Z.b dX8_giveUp_5 (by decide) (fun c => ?_) (fun c => ?_)
  · have hf := zit hf c
    refine lv_iconst (v := (-1)) Z.x Z.b dX8_giveUp_16 (by decide) ?_
    exact z_iret Z E hr dX8_giveUp_17 hf
  · have hf := zif_ hf c
    refine lv_aload_n Z.x Z.b dX8_giveUp_8 rfl (lv_at hl 0 rfl) ?_
    refine lv_iload_n Z.x Z.b dX8_giveUp_9 rfl (lv_at hl 2 rfl) ?_
    refine z_Vi (As := [.int a2]) Z E hl.1 k_X8_154 v_X8_isSailing hf (fun r h' e => c_X8_isSailing l G h2 h' a0 a2 r e) rfl rfl (Nat.le_of_ble_eq_true rfl) (zRm_of rfl (Nat.zero_le _) (Nat.zero_le _)) dX8_giveUp_10 (fun v3 h4 H locs hf E => ?_)
    refine lv_if_ne (tgt := 18) Z.x Z.b dX8_giveUp_13 (by decide) (fun c => ?_) (fun c => ?_)
    · have hf := zif_ hf c
      refine lv_aload_n Z.x Z.b dX8_giveUp_18 rfl (lv_at hl 0 rfl) ?_
      refine lv_iload_n Z.x Z.b dX8_giveUp_19 rfl (lv_at hl 2 rfl) ?_
      refine lv_iconst (v := 0) Z.x Z.b dX8_giveUp_20 (by decide) ?_
      refine z_Vi (As := [.int a2, .int 0]) Z E hl.1 k_X8_62 v_X8_is hf (fun r h' e => c_X8_is l G h4 h' a0 a2 0 r e) rfl rfl (Nat.le_of_ble_eq_true rfl) (zRm_of rfl (Nat.zero_le _) (Nat.zero_le _)) dX8_giveUp_21 (fun v5 h6 H locs hf E => ?_)
      refine lv_if_ne (tgt := 30) Z.x Z.b dX8_giveUp_24 (by decide) (fun c => ?_) (fun c => ?_)
      · have hf := zif_ hf c
        refine lv_aload_n Z.x Z.b dX8_giveUp_30 rfl (lv_at hl 0 rfl) ?_
        refine lv_iload_n Z.x Z.b dX8_giveUp_31 rfl (lv_at hl 2 rfl) ?_
        refine lv_iload_n Z.x Z.b dX8_giveUp_32 rfl (lv_at hl 1 rfl) ?_
        refine z_Vi (As := [.int a2, .int a1]) Z E hl.1 k_X8_46 v_X8_placeOf hf (fun r h' e => c_X8_placeOf l G h6 h' a0 a2 a1 r e) rfl rfl (Nat.le_of_ble_eq_true rfl) (zRm_of rfl (Nat.zero_le _) (Nat.zero_le _)) dX8_giveUp_33 (fun v7 h8 H locs hf E => ?_)
        refine lv_istore_n (lv' := [(3, .int v7), (0, .ref a0), (1, .int a1), (2, .int a2)]) Z.x Z.b dX8_giveUp_36 rfl hl (by decide) rfl (fun ls hl => ?_)
        refine lv_iload_n Z.x Z.b dX8_giveUp_37 rfl (lv_at hl 0 rfl) ?_
        refine lv_if_ne (tgt := 44) Z.x Z.b dX8_giveUp_38 (by decide) (fun c => ?_) (fun c => ?_)
        · have hf := zif_ hf c
          refine lv_aload_n Z.x Z.b dX8_giveUp_44 rfl (lv_at hl 1 rfl) ?_
          refine z_Vv (As := []) Z E hl.1 k_X8_132 v_X8_record hf (fun h' e => c_X8_record l G h8 h' a0 e) rfl rfl (Nat.le_of_ble_eq_true rfl) (zRm_of rfl (Nat.zero_le _) (Nat.zero_le _)) dX8_giveUp_45 (fun h9 H locs hf E => ?_)
          refine lv_aload_n Z.x Z.b dX8_giveUp_48 rfl (lv_at hl 1 rfl) ?_
          refine lv_iload_n Z.x Z.b dX8_giveUp_49 rfl (lv_at hl 3 rfl) ?_
          refine lv_iload_n Z.x Z.b dX8_giveUp_50 rfl (lv_at hl 2 rfl) ?_
          refine lv_iconst (v := 0) Z.x Z.b dX8_giveUp_51 (by decide) ?_
          refine z_Vv (As := [.int a2, .int a1, .int 0]) Z E hl.1 k_X8_93 v_X8_setPlace hf (fun h' e => c_X8_setPlace l G h9 h' a0 a2 a1 0 e) rfl rfl (Nat.le_of_ble_eq_true rfl) (zRm_of rfl (Nat.zero_le _) (Nat.zero_le _)) dX8_giveUp_52 (fun h10 H locs hf E => ?_)
          refine lv_iload_n Z.x Z.b dX8_giveUp_55 rfl (lv_at hl 0 rfl) ?_
          refine lv_iconst (v := 1) Z.x Z.b dX8_giveUp_56 (by decide) ?_
          refine lv_isub Z.x Z.b dX8_giveUp_57 ?_
          exact z_iret Z E hr dX8_giveUp_58 hf
        · have hf := zit hf c
          refine lv_bipush (v := (-5)) Z.x Z.b dX8_giveUp_41 (by decide) ?_
          exact z_iret Z E hr dX8_giveUp_43 hf
      · have hf := zit hf c
        refine lv_bipush (v := (-4)) Z.x Z.b dX8_giveUp_27 (by decide) ?_
        exact z_iret Z E hr dX8_giveUp_29 hf
    · have hf := zit hf c
      refine lv_iconst (v := (-1)) Z.x Z.b dX8_giveUp_16 (by decide) ?_
      exact z_iret Z E hr dX8_giveUp_17 hf
set_option maxHeartbeats 4000000 in
set_option maxRecDepth 20000 in
theorem c_X8_giveUp (l : Launch) (G : zG) (h : zHp) (h' : zHp) (a0 : Nat) (a1 : Int32) (a2 : Int32) (r : Int32) (hf : f_X8_giveUp a0 a1 a2 h = some (r, h')) : zM0 l yX8_giveUp cX8_giveUp 4 (some .int) rm_X8_giveUp G [.ref a0, .int a1, .int a2] h (zQi G r h') := by
  refine Met.ofW (cc := cX8_giveUp) (maxL := 4) (ret := (some .int)) (by decide) rfl ?_
  intro p e s m args below meth c s₁ B hml hv
  obtain ⟨rfl, hW⟩ := hv
  obtain ⟨Z, E, hr⟩ := zEnter (own := RX8) B hml rfl hW
  have hl := lv_entry ([.ref a0, .int a1, .int a2]) (n := 4) (Nat.le_of_ble_eq_true rfl)
  rw [lg_entry_eq]
  generalize (lg_sl ([.ref a0, .int a1, .int a2]) ++ List.replicate (4 - (lg_sl ([.ref a0, .int a1, .int a2])).length) Slot.unset).toArray = ls at hl ⊢
  have hl : lv_has ls 4 [(0, .ref a0), (1, .int a1), (2, .int a2)] := hl
  exact t_X8_giveUp (out := (r, h')) Z hr hf E hl
/-! FerryCrewsModel.fill(I)I -/
theorem dX8_fill_0 : decode cX8_fill 0 = .ok (.aload_n 0, 1) := by decide +kernel
theorem dX8_fill_1 : decode cX8_fill 1 = .ok (.iload_n 1, 1) := by decide +kernel
theorem dX8_fill_2 : decode cX8_fill 2 = .ok (.invokevirtual 154, 3) := by decide +kernel
theorem dX8_fill_5 : decode cX8_fill 5 = .ok (.ifCond .ne 5, 3) := by decide +kernel
theorem dX8_fill_8 : decode cX8_fill 8 = .ok (.iconst (-1), 1) := by decide +kernel
theorem dX8_fill_9 : decode cX8_fill 9 = .ok (.ireturn, 1) := by decide +kernel
theorem dX8_fill_10 : decode cX8_fill 10 = .ok (.aload_n 0, 1) := by decide +kernel
theorem dX8_fill_11 : decode cX8_fill 11 = .ok (.iload_n 1, 1) := by decide +kernel
theorem dX8_fill_12 : decode cX8_fill 12 = .ok (.iconst 0, 1) := by decide +kernel
theorem dX8_fill_13 : decode cX8_fill 13 = .ok (.invokevirtual 62, 3) := by decide +kernel
theorem dX8_fill_16 : decode cX8_fill 16 = .ok (.ifCond .ne 6, 3) := by decide +kernel
theorem dX8_fill_19 : decode cX8_fill 19 = .ok (.bipush (-4), 2) := by decide +kernel
theorem dX8_fill_21 : decode cX8_fill 21 = .ok (.ireturn, 1) := by decide +kernel
theorem dX8_fill_22 : decode cX8_fill 22 = .ok (.aload_n 0, 1) := by decide +kernel
theorem dX8_fill_23 : decode cX8_fill 23 = .ok (.iload_n 1, 1) := by decide +kernel
theorem dX8_fill_24 : decode cX8_fill 24 = .ok (.invokevirtual 116, 3) := by decide +kernel
theorem dX8_fill_27 : decode cX8_fill 27 = .ok (.ifCond .ne 6, 3) := by decide +kernel
theorem dX8_fill_30 : decode cX8_fill 30 = .ok (.bipush (-5), 2) := by decide +kernel
theorem dX8_fill_32 : decode cX8_fill 32 = .ok (.ireturn, 1) := by decide +kernel
theorem dX8_fill_33 : decode cX8_fill 33 = .ok (.aload_n 0, 1) := by decide +kernel
theorem dX8_fill_34 : decode cX8_fill 34 = .ok (.invokevirtual 132, 3) := by decide +kernel
theorem dX8_fill_37 : decode cX8_fill 37 = .ok (.iconst 0, 1) := by decide +kernel
theorem dX8_fill_38 : decode cX8_fill 38 = .ok (.istore_n 2, 1) := by decide +kernel
theorem dX8_fill_39 : decode cX8_fill 39 = .ok (.iload_n 2, 1) := by decide +kernel
theorem dX8_fill_40 : decode cX8_fill 40 = .ok (.iconst 4, 1) := by decide +kernel
theorem dX8_fill_41 : decode cX8_fill 41 = .ok (.if_icmp .ge 47, 3) := by decide +kernel
theorem dX8_fill_44 : decode cX8_fill 44 = .ok (.aload_n 0, 1) := by decide +kernel
theorem dX8_fill_45 : decode cX8_fill 45 = .ok (.iload_n 1, 1) := by decide +kernel
theorem dX8_fill_46 : decode cX8_fill 46 = .ok (.iconst 4, 1) := by decide +kernel
theorem dX8_fill_47 : decode cX8_fill 47 = .ok (.iload_n 2, 1) := by decide +kernel
theorem dX8_fill_48 : decode cX8_fill 48 = .ok (.iadd, 1) := by decide +kernel
theorem dX8_fill_49 : decode cX8_fill 49 = .ok (.invokevirtual 38, 3) := by decide +kernel
theorem dX8_fill_52 : decode cX8_fill 52 = .ok (.aload_n 0, 1) := by decide +kernel
theorem dX8_fill_53 : decode cX8_fill 53 = .ok (.iload_n 1, 1) := by decide +kernel
theorem dX8_fill_54 : decode cX8_fill 54 = .ok (.iload_n 2, 1) := by decide +kernel
theorem dX8_fill_55 : decode cX8_fill 55 = .ok (.invokevirtual 49, 3) := by decide +kernel
theorem dX8_fill_58 : decode cX8_fill 58 = .ok (.isub, 1) := by decide +kernel
theorem dX8_fill_59 : decode cX8_fill 59 = .ok (.istore_n 3, 1) := by decide +kernel
theorem dX8_fill_60 : decode cX8_fill 60 = .ok (.iconst 0, 1) := by decide +kernel
theorem dX8_fill_61 : decode cX8_fill 61 = .ok (.istore 4, 2) := by decide +kernel
theorem dX8_fill_63 : decode cX8_fill 63 = .ok (.iload 4, 2) := by decide +kernel
theorem dX8_fill_65 : decode cX8_fill 65 = .ok (.iload_n 3, 1) := by decide +kernel
theorem dX8_fill_66 : decode cX8_fill 66 = .ok (.if_icmp .ge 16, 3) := by decide +kernel
theorem dX8_fill_69 : decode cX8_fill 69 = .ok (.aload_n 0, 1) := by decide +kernel
theorem dX8_fill_70 : decode cX8_fill 70 = .ok (.iload_n 1, 1) := by decide +kernel
theorem dX8_fill_71 : decode cX8_fill 71 = .ok (.iload_n 2, 1) := by decide +kernel
theorem dX8_fill_72 : decode cX8_fill 72 = .ok (.invokevirtual 113, 3) := by decide +kernel
theorem dX8_fill_75 : decode cX8_fill 75 = .ok (.pop, 1) := by decide +kernel
theorem dX8_fill_76 : decode cX8_fill 76 = .ok (.iinc 4 1, 3) := by decide +kernel
theorem dX8_fill_79 : decode cX8_fill 79 = .ok (.goto (-16), 3) := by decide +kernel
theorem dX8_fill_82 : decode cX8_fill 82 = .ok (.iinc 2 1, 3) := by decide +kernel
theorem dX8_fill_85 : decode cX8_fill 85 = .ok (.goto (-46), 3) := by decide +kernel
theorem dX8_fill_88 : decode cX8_fill 88 = .ok (.aload_n 0, 1) := by decide +kernel
theorem dX8_fill_89 : decode cX8_fill 89 = .ok (.iload_n 1, 1) := by decide +kernel
theorem dX8_fill_90 : decode cX8_fill 90 = .ok (.invokevirtual 116, 3) := by decide +kernel
theorem dX8_fill_93 : decode cX8_fill 93 = .ok (.ireturn, 1) := by decide +kernel
def rm_X8_fill : Room := { frames := 8, cells := 0, slots := 0, locals := 184 }
set_option maxHeartbeats 4000000 in
set_option maxRecDepth 20000 in
theorem t_X8_fill_63_body {p : Program} {l : Launch} {e : Env} {s : State} {m : MethodId} {args : Array Value} {below : List Frame} {meth : Method} {c : Code} {G : zG} (Z : zF p s m args c meth cX8_fill 5 RX8 G) (hr : meth.sig.returnType = (some .int)) {out : Int32 × zHp} {r39 : Nat → Int32 → Int32 → zHp → Option (Int32 × zHp)} (k39 : ∀ {a0 : Nat} {a1 : Int32} {a2 : Int32} {h : zHp} {H : Heap} {locs : List Loc} {ls : Array Slot}, r39 a0 a1 a2 h = some out → zE G s h H locs → lv_has ls 5 [(0, .ref a0), (1, .int a1), (2, .int a2)] → W p l e rm_X8_fill s m args below meth c H locs 0 0 (MQ below (zQi G out.1 out.2) args s 0 0 (zA G)) (F0 m 39 ls [])) {r63 : Nat → Int32 → Int32 → Int32 → Int32 → zHp → Option (Int32 × zHp)} (k63 : ∀ {a0 : Nat} {a1 : Int32} {a2 : Int32} {a3 : Int32} {a4 : Int32} {h : zHp} {H : Heap} {locs : List Loc} {ls : Array Slot}, r63 a0 a1 a2 a3 a4 h = some out → zE G s h H locs → lv_has ls 5 [(0, .ref a0), (1, .int a1), (2, .int a2), (3, .int a3), (4, .int a4)] → W p l e rm_X8_fill s m args below meth c H locs 0 0 (MQ below (zQi G out.1 out.2) args s 0 0 (zA G)) (F0 m 63 ls [])) {a0 : Nat} {a1 : Int32} {a2 : Int32} {a3 : Int32} {a4 : Int32} {h : zHp} {H : Heap} {locs : List Loc} {ls : Array Slot} (hf : f_X8_fill_63_body r39 r63 a0 a1 a2 a3 a4 h = some out) (E : zE G s h H locs) (hl : lv_has ls 5 [(0, .ref a0), (1, .int a1), (2, .int a2), (3, .int a3), (4, .int a4)]) : W p l e rm_X8_fill s m args below meth c H locs 0 0 (MQ below (zQi G out.1 out.2) args s 0 0 (zA G)) (F0 m 63 ls []) := by
  unfold f_X8_fill_63_body at hf
  refine lv_iload Z.x Z.b dX8_fill_63 (lv_at hl 4 rfl) ?_
  refine lv_iload_n Z.x Z.b dX8_fill_65 rfl (lv_at hl 3 rfl) ?_
  refine lv_icmp_ge (tgt := 82) Z.x Z.b dX8_fill_66 (by decide) (fun c => ?_) (fun c => ?_)
  · have hf := zit hf c
    refine lv_iinc (v := (a2 + 1)) (lv' := [(2, .int (a2 + 1)), (0, .ref a0), (1, .int a1), (3, .int a3), (4, .int a4)]) Z.x Z.b dX8_fill_82 hl (k := 2) rfl rfl (by decide) rfl (fun ls hl => ?_)
    refine lv_goto (tgt := 39) Z.x Z.b dX8_fill_85 (by decide) ?_
    exact k39 hf E (lv_sub hl [1, 2, 0] rfl)
  · have hf := zif_ hf c
    refine lv_aload_n Z.x Z.b dX8_fill_69 rfl (lv_at hl 0 rfl) ?_
    refine lv_iload_n Z.x Z.b dX8_fill_70 rfl (lv_at hl 1 rfl) ?_
    refine lv_iload_n Z.x Z.b dX8_fill_71 rfl (lv_at hl 2 rfl) ?_
    refine z_Vi (As := [.int a1, .int a2]) Z E hl.1 k_X8_113 v_X8_cover hf (fun r h' e => c_X8_cover l G h h' a0 a1 a2 r e) rfl rfl (Nat.le_of_ble_eq_true rfl) (zRm_of rfl (Nat.zero_le _) (Nat.zero_le _)) dX8_fill_72 (fun v1 h2 H locs hf E => ?_)
    refine lv_pop Z.x Z.b dX8_fill_75 rfl ?_
    refine lv_iinc (v := (a4 + 1)) (lv' := [(4, .int (a4 + 1)), (0, .ref a0), (1, .int a1), (2, .int a2), (3, .int a3)]) Z.x Z.b dX8_fill_76 hl (k := 4) rfl rfl (by decide) rfl (fun ls hl => ?_)
    refine lv_goto (tgt := 63) Z.x Z.b dX8_fill_79 (by decide) ?_
    exact k63 hf E (lv_sub hl [1, 2, 3, 4, 0] rfl)
theorem t_X8_fill_63 {p : Program} {l : Launch} {e : Env} {s : State} {m : MethodId} {args : Array Value} {below : List Frame} {meth : Method} {c : Code} {G : zG} (Z : zF p s m args c meth cX8_fill 5 RX8 G) (hr : meth.sig.returnType = (some .int)) {out : Int32 × zHp} {r39 : Nat → Int32 → Int32 → zHp → Option (Int32 × zHp)} (k39 : ∀ {a0 : Nat} {a1 : Int32} {a2 : Int32} {h : zHp} {H : Heap} {locs : List Loc} {ls : Array Slot}, r39 a0 a1 a2 h = some out → zE G s h H locs → lv_has ls 5 [(0, .ref a0), (1, .int a1), (2, .int a2)] → W p l e rm_X8_fill s m args below meth c H locs 0 0 (MQ below (zQi G out.1 out.2) args s 0 0 (zA G)) (F0 m 39 ls [])) : ∀ (n : Nat), ∀ {a0 : Nat} {a1 : Int32} {a2 : Int32} {a3 : Int32} {a4 : Int32} {h : zHp} {H : Heap} {locs : List Loc} {ls : Array Slot}, f_X8_fill_63 r39 n a0 a1 a2 a3 a4 h = some out → zE G s h H locs → lv_has ls 5 [(0, .ref a0), (1, .int a1), (2, .int a2), (3, .int a3), (4, .int a4)] → W p l e rm_X8_fill s m args below meth c H locs 0 0 (MQ below (zQi G out.1 out.2) args s 0 0 (zA G)) (F0 m 63 ls [])
  | 0 => fun hf => by cases hf
  | n + 1 => fun hf E hl => t_X8_fill_63_body Z hr k39 (r63 := f_X8_fill_63 r39 n) (t_X8_fill_63 Z hr k39 n) hf E hl
set_option maxHeartbeats 4000000 in
set_option maxRecDepth 20000 in
theorem t_X8_fill_39_body {p : Program} {l : Launch} {e : Env} {s : State} {m : MethodId} {args : Array Value} {below : List Frame} {meth : Method} {c : Code} {G : zG} (Z : zF p s m args c meth cX8_fill 5 RX8 G) (hr : meth.sig.returnType = (some .int)) {out : Int32 × zHp} {r39 : Nat → Int32 → Int32 → zHp → Option (Int32 × zHp)} (k39 : ∀ {a0 : Nat} {a1 : Int32} {a2 : Int32} {h : zHp} {H : Heap} {locs : List Loc} {ls : Array Slot}, r39 a0 a1 a2 h = some out → zE G s h H locs → lv_has ls 5 [(0, .ref a0), (1, .int a1), (2, .int a2)] → W p l e rm_X8_fill s m args below meth c H locs 0 0 (MQ below (zQi G out.1 out.2) args s 0 0 (zA G)) (F0 m 39 ls [])) {a0 : Nat} {a1 : Int32} {a2 : Int32} {h : zHp} {H : Heap} {locs : List Loc} {ls : Array Slot} (hf : f_X8_fill_39_body r39 a0 a1 a2 h = some out) (E : zE G s h H locs) (hl : lv_has ls 5 [(0, .ref a0), (1, .int a1), (2, .int a2)]) : W p l e rm_X8_fill s m args below meth c H locs 0 0 (MQ below (zQi G out.1 out.2) args s 0 0 (zA G)) (F0 m 39 ls []) := by
  unfold f_X8_fill_39_body at hf
  refine lv_iload_n Z.x Z.b dX8_fill_39 rfl (lv_at hl 2 rfl) ?_
  refine lv_iconst (v := 4) Z.x Z.b dX8_fill_40 (by decide) ?_
  refine lv_icmp_ge (tgt := 88) Z.x Z.b dX8_fill_41 (by decide) (fun c => ?_) (fun c => ?_)
  · have hf := zit hf c
    refine lv_aload_n Z.x Z.b dX8_fill_88 rfl (lv_at hl 0 rfl) ?_
    refine lv_iload_n Z.x Z.b dX8_fill_89 rfl (lv_at hl 1 rfl) ?_
    refine z_Vi (As := [.int a1]) Z E hl.1 k_X8_116 v_X8_freeOf hf (fun r h' e => c_X8_freeOf l G h h' a0 a1 r e) rfl rfl (Nat.le_of_ble_eq_true rfl) (zRm_of rfl (Nat.zero_le _) (Nat.zero_le _)) dX8_fill_90 (fun v1 h2 H locs hf E => ?_)
    exact z_iret Z E hr dX8_fill_93 hf
  · have hf := zif_ hf c
    refine lv_aload_n Z.x Z.b dX8_fill_44 rfl (lv_at hl 0 rfl) ?_
    refine lv_iload_n Z.x Z.b dX8_fill_45 rfl (lv_at hl 1 rfl) ?_
    refine lv_iconst (v := 4) Z.x Z.b dX8_fill_46 (by decide) ?_
    refine lv_iload_n Z.x Z.b dX8_fill_47 rfl (lv_at hl 2 rfl) ?_
    refine lv_iadd Z.x Z.b dX8_fill_48 ?_
    refine z_Vi (As := [.int a1, .int (4 + a2)]) Z E hl.1 k_X8_38 v_X8_of hf (fun r h' e => c_X8_of l G h h' a0 a1 (4 + a2) r e) rfl rfl (Nat.le_of_ble_eq_true rfl) (zRm_of rfl (Nat.zero_le _) (Nat.zero_le _)) dX8_fill_49 (fun v3 h4 H locs hf E => ?_)
    refine lv_aload_n Z.x Z.b dX8_fill_52 rfl (lv_at hl 0 rfl) ?_
    refine lv_iload_n Z.x Z.b dX8_fill_53 rfl (lv_at hl 1 rfl) ?_
    refine lv_iload_n Z.x Z.b dX8_fill_54 rfl (lv_at hl 2 rfl) ?_
    refine z_Vi (As := [.int a1, .int a2]) Z E hl.1 k_X8_49 v_X8_taken hf (fun r h' e => c_X8_taken l G h4 h' a0 a1 a2 r e) rfl rfl (Nat.le_of_ble_eq_true rfl) (zRm_of rfl (Nat.zero_le _) (Nat.zero_le _)) dX8_fill_55 (fun v5 h6 H locs hf E => ?_)
    refine lv_isub Z.x Z.b dX8_fill_58 ?_
    refine lv_istore_n (lv' := [(3, .int (v3 - v5)), (0, .ref a0), (1, .int a1), (2, .int a2)]) Z.x Z.b dX8_fill_59 rfl hl (by decide) rfl (fun ls hl => ?_)
    refine lv_iconst (v := 0) Z.x Z.b dX8_fill_60 (by decide) ?_
    refine lv_istore (lv' := [(4, .int 0), (3, .int (v3 - v5)), (0, .ref a0), (1, .int a1), (2, .int a2)]) Z.x Z.b dX8_fill_61 hl (by decide) rfl (fun ls hl => ?_)
    exact t_X8_fill_63 Z hr k39 zN hf E (lv_sub hl [2, 3, 4, 1, 0] rfl)
theorem t_X8_fill_39 {p : Program} {l : Launch} {e : Env} {s : State} {m : MethodId} {args : Array Value} {below : List Frame} {meth : Method} {c : Code} {G : zG} (Z : zF p s m args c meth cX8_fill 5 RX8 G) (hr : meth.sig.returnType = (some .int)) {out : Int32 × zHp} : ∀ (n : Nat), ∀ {a0 : Nat} {a1 : Int32} {a2 : Int32} {h : zHp} {H : Heap} {locs : List Loc} {ls : Array Slot}, f_X8_fill_39 n a0 a1 a2 h = some out → zE G s h H locs → lv_has ls 5 [(0, .ref a0), (1, .int a1), (2, .int a2)] → W p l e rm_X8_fill s m args below meth c H locs 0 0 (MQ below (zQi G out.1 out.2) args s 0 0 (zA G)) (F0 m 39 ls [])
  | 0 => fun hf => by cases hf
  | n + 1 => fun hf E hl => t_X8_fill_39_body Z hr (r39 := f_X8_fill_39 n) (t_X8_fill_39 Z hr n) hf E hl
set_option maxHeartbeats 4000000 in
set_option maxRecDepth 20000 in
theorem t_X8_fill {p : Program} {l : Launch} {e : Env} {s : State} {m : MethodId} {args : Array Value} {below : List Frame} {meth : Method} {c : Code} {G : zG} (Z : zF p s m args c meth cX8_fill 5 RX8 G) (hr : meth.sig.returnType = (some .int)) {out : Int32 × zHp} {a0 : Nat} {a1 : Int32} {h : zHp} {H : Heap} {locs : List Loc} {ls : Array Slot} (hf : f_X8_fill a0 a1 h = some out) (E : zE G s h H locs) (hl : lv_has ls 5 [(0, .ref a0), (1, .int a1)]) : W p l e rm_X8_fill s m args below meth c H locs 0 0 (MQ below (zQi G out.1 out.2) args s 0 0 (zA G)) (F0 m 0 ls []) := by
  unfold f_X8_fill at hf
  refine lv_aload_n Z.x Z.b dX8_fill_0 rfl (lv_at hl 0 rfl) ?_
  refine lv_iload_n Z.x Z.b dX8_fill_1 rfl (lv_at hl 1 rfl) ?_
  refine z_Vi (As := [.int a1]) Z E hl.1 k_X8_154 v_X8_isSailing hf (fun r h' e => c_X8_isSailing l G h h' a0 a1 r e) rfl rfl (Nat.le_of_ble_eq_true rfl) (zRm_of rfl (Nat.zero_le _) (Nat.zero_le _)) dX8_fill_2 (fun v1 h2 H locs hf E => ?_)
  refine lv_if_ne (tgt := 10) Z.x Z.b dX8_fill_5 (by decide) (fun c => ?_) (fun c => ?_)
  · have hf := zif_ hf c
    refine lv_aload_n Z.x Z.b dX8_fill_10 rfl (lv_at hl 0 rfl) ?_
    refine lv_iload_n Z.x Z.b dX8_fill_11 rfl (lv_at hl 1 rfl) ?_
    refine lv_iconst (v := 0) Z.x Z.b dX8_fill_12 (by decide) ?_
    refine z_Vi (As := [.int a1, .int 0]) Z E hl.1 k_X8_62 v_X8_is hf (fun r h' e => c_X8_is l G h2 h' a0 a1 0 r e) rfl rfl (Nat.le_of_ble_eq_true rfl) (zRm_of rfl (Nat.zero_le _) (Nat.zero_le _)) dX8_fill_13 (fun v3 h4 H locs hf E => ?_)
    refine lv_if_ne (tgt := 22) Z.x Z.b dX8_fill_16 (by decide) (fun c => ?_) (fun c => ?_)
    · have hf := zif_ hf c
      refine lv_aload_n Z.x Z.b dX8_fill_22 rfl (lv_at hl 0 rfl) ?_
      refine lv_iload_n Z.x Z.b dX8_fill_23 rfl (lv_at hl 1 rfl) ?_
      refine z_Vi (As := [.int a1]) Z E hl.1 k_X8_116 v_X8_freeOf hf (fun r h' e => c_X8_freeOf l G h4 h' a0 a1 r e) rfl rfl (Nat.le_of_ble_eq_true rfl) (zRm_of rfl (Nat.zero_le _) (Nat.zero_le _)) dX8_fill_24 (fun v5 h6 H locs hf E => ?_)
      refine lv_if_ne (tgt := 33) Z.x Z.b dX8_fill_27 (by decide) (fun c => ?_) (fun c => ?_)
      · have hf := zif_ hf c
        refine lv_aload_n Z.x Z.b dX8_fill_33 rfl (lv_at hl 0 rfl) ?_
        refine z_Vv (As := []) Z E hl.1 k_X8_132 v_X8_record hf (fun h' e => c_X8_record l G h6 h' a0 e) rfl rfl (Nat.le_of_ble_eq_true rfl) (zRm_of rfl (Nat.zero_le _) (Nat.zero_le _)) dX8_fill_34 (fun h7 H locs hf E => ?_)
        refine lv_iconst (v := 0) Z.x Z.b dX8_fill_37 (by decide) ?_
        refine lv_istore_n (lv' := [(2, .int 0), (0, .ref a0), (1, .int a1)]) Z.x Z.b dX8_fill_38 rfl hl (by decide) rfl (fun ls hl => ?_)
        exact t_X8_fill_39 Z hr zN hf E (lv_sub hl [1, 2, 0] rfl)
      · have hf := zit hf c
        refine lv_bipush (v := (-5)) Z.x Z.b dX8_fill_30 (by decide) ?_
        exact z_iret Z E hr dX8_fill_32 hf
    · have hf := zit hf c
      refine lv_bipush (v := (-4)) Z.x Z.b dX8_fill_19 (by decide) ?_
      exact z_iret Z E hr dX8_fill_21 hf
  · have hf := zit hf c
    refine lv_iconst (v := (-1)) Z.x Z.b dX8_fill_8 (by decide) ?_
    exact z_iret Z E hr dX8_fill_9 hf
set_option maxHeartbeats 4000000 in
set_option maxRecDepth 20000 in
theorem c_X8_fill (l : Launch) (G : zG) (h : zHp) (h' : zHp) (a0 : Nat) (a1 : Int32) (r : Int32) (hf : f_X8_fill a0 a1 h = some (r, h')) : zM0 l yX8_fill cX8_fill 5 (some .int) rm_X8_fill G [.ref a0, .int a1] h (zQi G r h') := by
  refine Met.ofW (cc := cX8_fill) (maxL := 5) (ret := (some .int)) (by decide) rfl ?_
  intro p e s m args below meth c s₁ B hml hv
  obtain ⟨rfl, hW⟩ := hv
  obtain ⟨Z, E, hr⟩ := zEnter (own := RX8) B hml rfl hW
  have hl := lv_entry ([.ref a0, .int a1]) (n := 5) (Nat.le_of_ble_eq_true rfl)
  rw [lg_entry_eq]
  generalize (lg_sl ([.ref a0, .int a1]) ++ List.replicate (5 - (lg_sl ([.ref a0, .int a1])).length) Slot.unset).toArray = ls at hl ⊢
  have hl : lv_has ls 5 [(0, .ref a0), (1, .int a1)] := hl
  exact t_X8_fill (out := (r, h')) Z hr hf E hl
/-! FerryCrewsModel.pass(I)I -/
theorem dX8_pass_0 : decode cX8_pass 0 = .ok (.iload_n 1, 1) := by decide +kernel
theorem dX8_pass_1 : decode cX8_pass 1 = .ok (.iconst 1, 1) := by decide +kernel
theorem dX8_pass_2 : decode cX8_pass 2 = .ok (.sipush 200, 3) := by decide +kernel
theorem dX8_pass_5 : decode cX8_pass 5 = .ok (.invokestatic 42, 3) := by decide +kernel
theorem dX8_pass_8 : decode cX8_pass 8 = .ok (.ifCond .ne 6, 3) := by decide +kernel
theorem dX8_pass_11 : decode cX8_pass 11 = .ok (.bipush (-2), 2) := by decide +kernel
theorem dX8_pass_13 : decode cX8_pass 13 = .ok (.ireturn, 1) := by decide +kernel
theorem dX8_pass_14 : decode cX8_pass 14 = .ok (.aload_n 0, 1) := by decide +kernel
theorem dX8_pass_15 : decode cX8_pass 15 = .ok (.getfield 7, 3) := by decide +kernel
theorem dX8_pass_18 : decode cX8_pass 18 = .ok (.iconst 0, 1) := by decide +kernel
theorem dX8_pass_19 : decode cX8_pass 19 = .ok (.iaload, 1) := by decide +kernel
theorem dX8_pass_20 : decode cX8_pass 20 = .ok (.iload_n 1, 1) := by decide +kernel
theorem dX8_pass_21 : decode cX8_pass 21 = .ok (.iadd, 1) := by decide +kernel
theorem dX8_pass_22 : decode cX8_pass 22 = .ok (.sipush 1000, 3) := by decide +kernel
theorem dX8_pass_25 : decode cX8_pass 25 = .ok (.if_icmp .le 6, 3) := by decide +kernel
theorem dX8_pass_28 : decode cX8_pass 28 = .ok (.bipush (-3), 2) := by decide +kernel
theorem dX8_pass_30 : decode cX8_pass 30 = .ok (.ireturn, 1) := by decide +kernel
theorem dX8_pass_31 : decode cX8_pass 31 = .ok (.aload_n 0, 1) := by decide +kernel
theorem dX8_pass_32 : decode cX8_pass 32 = .ok (.invokevirtual 132, 3) := by decide +kernel
theorem dX8_pass_35 : decode cX8_pass 35 = .ok (.iconst 0, 1) := by decide +kernel
theorem dX8_pass_36 : decode cX8_pass 36 = .ok (.istore_n 2, 1) := by decide +kernel
theorem dX8_pass_37 : decode cX8_pass 37 = .ok (.iload_n 2, 1) := by decide +kernel
theorem dX8_pass_38 : decode cX8_pass 38 = .ok (.iload_n 1, 1) := by decide +kernel
theorem dX8_pass_39 : decode cX8_pass 39 = .ok (.if_icmp .ge 13, 3) := by decide +kernel
theorem dX8_pass_42 : decode cX8_pass 42 = .ok (.aload_n 0, 1) := by decide +kernel
theorem dX8_pass_43 : decode cX8_pass 43 = .ok (.invokevirtual 176, 3) := by decide +kernel
theorem dX8_pass_46 : decode cX8_pass 46 = .ok (.iinc 2 1, 3) := by decide +kernel
theorem dX8_pass_49 : decode cX8_pass 49 = .ok (.goto (-12), 3) := by decide +kernel
theorem dX8_pass_52 : decode cX8_pass 52 = .ok (.aload_n 0, 1) := by decide +kernel
theorem dX8_pass_53 : decode cX8_pass 53 = .ok (.getfield 7, 3) := by decide +kernel
theorem dX8_pass_56 : decode cX8_pass 56 = .ok (.iconst 0, 1) := by decide +kernel
theorem dX8_pass_57 : decode cX8_pass 57 = .ok (.iaload, 1) := by decide +kernel
theorem dX8_pass_58 : decode cX8_pass 58 = .ok (.ireturn, 1) := by decide +kernel
set_option maxRecDepth 20000 in
theorem wc_X8_passHour : Cond.code yX8_passHour cX8_passHour 2 none ∈ zB := List.mem_filter.mpr ⟨List.mem_of_getElem? (i := 1067) (by decide +kernel), by decide +kernel⟩
set_option maxRecDepth 20000 in
theorem wm_X8_176 : Cond.methodLink RX8 176 yX8_passHour ∈ zB := List.mem_filter.mpr ⟨List.mem_of_getElem? (i := 1064) (by decide +kernel), by decide +kernel⟩
theorem k_X8_176 : zCal RX8 176 yX8_passHour cX8_passHour 2 none 0 := ⟨wm_X8_176, wi_X8, wc_X8_passHour, by decide +kernel, by decide +kernel, by decide +kernel⟩
set_option maxRecDepth 20000 in
theorem wn_X8_passHour : Cond.instanceMethod yX8_passHour ∈ zB := List.mem_filter.mpr ⟨List.mem_of_getElem? (i := 1066) (by decide +kernel), by decide +kernel⟩
set_option maxRecDepth 20000 in
theorem ws_X8_passHour : Cond.selects RX8 yX8_passHour yX8_passHour ∈ zB := List.mem_filter.mpr ⟨List.mem_of_getElem? (i := 52) (by decide +kernel), by decide +kernel⟩
theorem v_X8_passHour : zVir yX8_passHour 8 := ⟨wn_X8_passHour, ws_X8_passHour, TX8, 12, rfl⟩
def rm_X8_pass : Room := { frames := 5, cells := 0, slots := 0, locals := 109 }
set_option maxHeartbeats 4000000 in
set_option maxRecDepth 20000 in
theorem t_X8_pass_37_body {p : Program} {l : Launch} {e : Env} {s : State} {m : MethodId} {args : Array Value} {below : List Frame} {meth : Method} {c : Code} {G : zG} (Z : zF p s m args c meth cX8_pass 3 RX8 G) (hr : meth.sig.returnType = (some .int)) {out : Int32 × zHp} {r37 : Nat → Int32 → Int32 → zHp → Option (Int32 × zHp)} (k37 : ∀ {a0 : Nat} {a1 : Int32} {a2 : Int32} {h : zHp} {H : Heap} {locs : List Loc} {ls : Array Slot}, r37 a0 a1 a2 h = some out → zE G s h H locs → lv_has ls 3 [(0, .ref a0), (1, .int a1), (2, .int a2)] → W p l e rm_X8_pass s m args below meth c H locs 0 0 (MQ below (zQi G out.1 out.2) args s 0 0 (zA G)) (F0 m 37 ls [])) {a0 : Nat} {a1 : Int32} {a2 : Int32} {h : zHp} {H : Heap} {locs : List Loc} {ls : Array Slot} (hf : f_X8_pass_37_body r37 a0 a1 a2 h = some out) (E : zE G s h H locs) (hl : lv_has ls 3 [(0, .ref a0), (1, .int a1), (2, .int a2)]) : W p l e rm_X8_pass s m args below meth c H locs 0 0 (MQ below (zQi G out.1 out.2) args s 0 0 (zA G)) (F0 m 37 ls []) := by
  unfold f_X8_pass_37_body at hf
  refine lv_iload_n Z.x Z.b dX8_pass_37 rfl (lv_at hl 2 rfl) ?_
  refine lv_iload_n Z.x Z.b dX8_pass_38 rfl (lv_at hl 1 rfl) ?_
  refine lv_icmp_ge (tgt := 52) Z.x Z.b dX8_pass_39 (by decide) (fun c => ?_) (fun c => ?_)
  · have hf := zit hf c
    refine lv_aload_n Z.x Z.b dX8_pass_52 rfl (lv_at hl 0 rfl) ?_
    refine z_getR Z E q_X8_7 dX8_pass_53 hf (fun v1 hf => ?_)
    refine lv_iconst (v := 0) Z.x Z.b dX8_pass_56 (by decide) ?_
    refine z_iald Z E dX8_pass_57 hf (fun v2 hf => ?_)
    exact z_iret Z E hr dX8_pass_58 hf
  · have hf := zif_ hf c
    refine lv_aload_n Z.x Z.b dX8_pass_42 rfl (lv_at hl 0 rfl) ?_
    refine z_Vv (As := []) Z E hl.1 k_X8_176 v_X8_passHour hf (fun h' e => c_X8_passHour l G h h' a0 e) rfl rfl (Nat.le_of_ble_eq_true rfl) (zRm_of rfl (Nat.zero_le _) (Nat.zero_le _)) dX8_pass_43 (fun h3 H locs hf E => ?_)
    refine lv_iinc (v := (a2 + 1)) (lv' := [(2, .int (a2 + 1)), (0, .ref a0), (1, .int a1)]) Z.x Z.b dX8_pass_46 hl (k := 2) rfl rfl (by decide) rfl (fun ls hl => ?_)
    refine lv_goto (tgt := 37) Z.x Z.b dX8_pass_49 (by decide) ?_
    exact k37 hf E (lv_sub hl [1, 2, 0] rfl)
theorem t_X8_pass_37 {p : Program} {l : Launch} {e : Env} {s : State} {m : MethodId} {args : Array Value} {below : List Frame} {meth : Method} {c : Code} {G : zG} (Z : zF p s m args c meth cX8_pass 3 RX8 G) (hr : meth.sig.returnType = (some .int)) {out : Int32 × zHp} : ∀ (n : Nat), ∀ {a0 : Nat} {a1 : Int32} {a2 : Int32} {h : zHp} {H : Heap} {locs : List Loc} {ls : Array Slot}, f_X8_pass_37 n a0 a1 a2 h = some out → zE G s h H locs → lv_has ls 3 [(0, .ref a0), (1, .int a1), (2, .int a2)] → W p l e rm_X8_pass s m args below meth c H locs 0 0 (MQ below (zQi G out.1 out.2) args s 0 0 (zA G)) (F0 m 37 ls [])
  | 0 => fun hf => by cases hf
  | n + 1 => fun hf E hl => t_X8_pass_37_body Z hr (r37 := f_X8_pass_37 n) (t_X8_pass_37 Z hr n) hf E hl
set_option maxHeartbeats 4000000 in
set_option maxRecDepth 20000 in
theorem t_X8_pass {p : Program} {l : Launch} {e : Env} {s : State} {m : MethodId} {args : Array Value} {below : List Frame} {meth : Method} {c : Code} {G : zG} (Z : zF p s m args c meth cX8_pass 3 RX8 G) (hr : meth.sig.returnType = (some .int)) {out : Int32 × zHp} {a0 : Nat} {a1 : Int32} {h : zHp} {H : Heap} {locs : List Loc} {ls : Array Slot} (hf : f_X8_pass a0 a1 h = some out) (E : zE G s h H locs) (hl : lv_has ls 3 [(0, .ref a0), (1, .int a1)]) : W p l e rm_X8_pass s m args below meth c H locs 0 0 (MQ below (zQi G out.1 out.2) args s 0 0 (zA G)) (F0 m 0 ls []) := by
  unfold f_X8_pass at hf
  refine lv_iload_n Z.x Z.b dX8_pass_0 rfl (lv_at hl 1 rfl) ?_
  refine lv_iconst (v := 1) Z.x Z.b dX8_pass_1 (by decide) ?_
  refine lv_sipush (v := 200) Z.x Z.b dX8_pass_2 (by decide) ?_
  refine z_Si (As := [.int a1, .int 1, .int 200]) Z E hl.1 k_X8_42 wt_X8_in hf (fun r h' e => c_X8_in l G h h' a1 1 200 r e) rfl rfl (Nat.le_of_ble_eq_true rfl) (zRm_of rfl (Nat.zero_le _) (Nat.zero_le _)) dX8_pass_5 (fun v1 h2 H locs hf E => ?_)
  refine lv_if_ne (tgt := 14) Z.x Z.b dX8_pass_8 (by decide) (fun c => ?_) (fun c => ?_)
  · have hf := zif_ hf c
    refine lv_aload_n Z.x Z.b dX8_pass_14 rfl (lv_at hl 0 rfl) ?_
    refine z_getR Z E q_X8_7 dX8_pass_15 hf (fun v3 hf => ?_)
    refine lv_iconst (v := 0) Z.x Z.b dX8_pass_18 (by decide) ?_
    refine z_iald Z E dX8_pass_19 hf (fun v4 hf => ?_)
    refine lv_iload_n Z.x Z.b dX8_pass_20 rfl (lv_at hl 1 rfl) ?_
    refine lv_iadd Z.x Z.b dX8_pass_21 ?_
    refine lv_sipush (v := 1000) Z.x Z.b dX8_pass_22 (by decide) ?_
    refine lv_icmp_le (tgt := 31) Z.x Z.b dX8_pass_25 (by decide) (fun c => ?_) (fun c => ?_)
    · have hf := zit hf c
      refine lv_aload_n Z.x Z.b dX8_pass_31 rfl (lv_at hl 0 rfl) ?_
      refine z_Vv (As := []) Z E hl.1 k_X8_132 v_X8_record hf (fun h' e => c_X8_record l G h2 h' a0 e) rfl rfl (Nat.le_of_ble_eq_true rfl) (zRm_of rfl (Nat.zero_le _) (Nat.zero_le _)) dX8_pass_32 (fun h5 H locs hf E => ?_)
      refine lv_iconst (v := 0) Z.x Z.b dX8_pass_35 (by decide) ?_
      refine lv_istore_n (lv' := [(2, .int 0), (0, .ref a0), (1, .int a1)]) Z.x Z.b dX8_pass_36 rfl hl (by decide) rfl (fun ls hl => ?_)
      exact t_X8_pass_37 Z hr zN hf E (lv_sub hl [1, 2, 0] rfl)
    · have hf := zif_ hf c
      refine lv_bipush (v := (-3)) Z.x Z.b dX8_pass_28 (by decide) ?_
      exact z_iret Z E hr dX8_pass_30 hf
  · have hf := zit hf c
    refine lv_bipush (v := (-2)) Z.x Z.b dX8_pass_11 (by decide) ?_
    exact z_iret Z E hr dX8_pass_13 hf
set_option maxHeartbeats 4000000 in
set_option maxRecDepth 20000 in
theorem c_X8_pass (l : Launch) (G : zG) (h : zHp) (h' : zHp) (a0 : Nat) (a1 : Int32) (r : Int32) (hf : f_X8_pass a0 a1 h = some (r, h')) : zM0 l yX8_pass cX8_pass 3 (some .int) rm_X8_pass G [.ref a0, .int a1] h (zQi G r h') := by
  refine Met.ofW (cc := cX8_pass) (maxL := 3) (ret := (some .int)) (by decide) rfl ?_
  intro p e s m args below meth c s₁ B hml hv
  obtain ⟨rfl, hW⟩ := hv
  obtain ⟨Z, E, hr⟩ := zEnter (own := RX8) B hml rfl hW
  have hl := lv_entry ([.ref a0, .int a1]) (n := 3) (Nat.le_of_ble_eq_true rfl)
  rw [lg_entry_eq]
  generalize (lg_sl ([.ref a0, .int a1]) ++ List.replicate (3 - (lg_sl ([.ref a0, .int a1])).length) Slot.unset).toArray = ls at hl ⊢
  have hl : lv_has ls 3 [(0, .ref a0), (1, .int a1)] := hl
  exact t_X8_pass (out := (r, h')) Z hr hf E hl
/-! FerryCrewsModel.most(I)I -/
theorem dX8_most_0 : decode cX8_most 0 = .ok (.iload_n 0, 1) := by decide +kernel
theorem dX8_most_1 : decode cX8_most 1 = .ok (.ifCond .ne 8, 3) := by decide +kernel
theorem dX8_most_4 : decode cX8_most 4 = .ok (.bipush 20, 2) := by decide +kernel
theorem dX8_most_6 : decode cX8_most 6 = .ok (.goto 35, 3) := by decide +kernel
theorem dX8_most_9 : decode cX8_most 9 = .ok (.iload_n 0, 1) := by decide +kernel
theorem dX8_most_10 : decode cX8_most 10 = .ok (.iconst 1, 1) := by decide +kernel
theorem dX8_most_11 : decode cX8_most 11 = .ok (.if_icmp .ne 8, 3) := by decide +kernel
theorem dX8_most_14 : decode cX8_most 14 = .ok (.bipush 12, 2) := by decide +kernel
theorem dX8_most_16 : decode cX8_most 16 = .ok (.goto 25, 3) := by decide +kernel
theorem dX8_most_19 : decode cX8_most 19 = .ok (.iload_n 0, 1) := by decide +kernel
theorem dX8_most_20 : decode cX8_most 20 = .ok (.iconst 2, 1) := by decide +kernel
theorem dX8_most_21 : decode cX8_most 21 = .ok (.if_icmp .ne 9, 3) := by decide +kernel
theorem dX8_most_24 : decode cX8_most 24 = .ok (.sipush 140, 3) := by decide +kernel
theorem dX8_most_27 : decode cX8_most 27 = .ok (.goto 14, 3) := by decide +kernel
theorem dX8_most_30 : decode cX8_most 30 = .ok (.iload_n 0, 1) := by decide +kernel
theorem dX8_most_31 : decode cX8_most 31 = .ok (.iconst 3, 1) := by decide +kernel
theorem dX8_most_32 : decode cX8_most 32 = .ok (.if_icmp .ne 7, 3) := by decide +kernel
theorem dX8_most_35 : decode cX8_most 35 = .ok (.iconst 1, 1) := by decide +kernel
theorem dX8_most_36 : decode cX8_most 36 = .ok (.goto 5, 3) := by decide +kernel
theorem dX8_most_39 : decode cX8_most 39 = .ok (.bipush 100, 2) := by decide +kernel
theorem dX8_most_41 : decode cX8_most 41 = .ok (.ireturn, 1) := by decide +kernel
def rm_X8_most : Room := { frames := 0, cells := 0, slots := 0, locals := 0 }
set_option maxHeartbeats 4000000 in
set_option maxRecDepth 20000 in
theorem t_X8_most {p : Program} {l : Launch} {e : Env} {s : State} {m : MethodId} {args : Array Value} {below : List Frame} {meth : Method} {c : Code} {G : zG} (Z : zF p s m args c meth cX8_most 1 RX8 G) (hr : meth.sig.returnType = (some .int)) {out : Int32 × zHp} {a0 : Int32} {h : zHp} {H : Heap} {locs : List Loc} {ls : Array Slot} (hf : f_X8_most a0 h = some out) (E : zE G s h H locs) (hl : lv_has ls 1 [(0, .int a0)]) : W p l e rm_X8_most s m args below meth c H locs 0 0 (MQ below (zQi G out.1 out.2) args s 0 0 (zA G)) (F0 m 0 ls []) := by
  unfold f_X8_most at hf
  refine lv_iload_n Z.x Z.b dX8_most_0 rfl (lv_at hl 0 rfl) ?_
  refine lv_if_ne (tgt := 9) Z.x Z.b dX8_most_1 (by decide) (fun c => ?_) (fun c => ?_)
  · have hf := zif_ hf c
    refine lv_iload_n Z.x Z.b dX8_most_9 rfl (lv_at hl 0 rfl) ?_
    refine lv_iconst (v := 1) Z.x Z.b dX8_most_10 (by decide) ?_
    refine lv_icmp_ne (tgt := 19) Z.x Z.b dX8_most_11 (by decide) (fun c => ?_) (fun c => ?_)
    · have hf := zif_ hf c
      refine lv_iload_n Z.x Z.b dX8_most_19 rfl (lv_at hl 0 rfl) ?_
      refine lv_iconst (v := 2) Z.x Z.b dX8_most_20 (by decide) ?_
      refine lv_icmp_ne (tgt := 30) Z.x Z.b dX8_most_21 (by decide) (fun c => ?_) (fun c => ?_)
      · have hf := zif_ hf c
        refine lv_iload_n Z.x Z.b dX8_most_30 rfl (lv_at hl 0 rfl) ?_
        refine lv_iconst (v := 3) Z.x Z.b dX8_most_31 (by decide) ?_
        refine lv_icmp_ne (tgt := 39) Z.x Z.b dX8_most_32 (by decide) (fun c => ?_) (fun c => ?_)
        · have hf := zif_ hf c
          refine lv_bipush (v := 100) Z.x Z.b dX8_most_39 (by decide) ?_
          exact z_iret Z E hr dX8_most_41 hf
        · have hf := zit hf c
          refine lv_iconst (v := 1) Z.x Z.b dX8_most_35 (by decide) ?_
          refine lv_goto (tgt := 41) Z.x Z.b dX8_most_36 (by decide) ?_
          exact z_iret Z E hr dX8_most_41 hf
      · have hf := zit hf c
        refine lv_sipush (v := 140) Z.x Z.b dX8_most_24 (by decide) ?_
        refine lv_goto (tgt := 41) Z.x Z.b dX8_most_27 (by decide) ?_
        exact z_iret Z E hr dX8_most_41 hf
    · have hf := zit hf c
      refine lv_bipush (v := 12) Z.x Z.b dX8_most_14 (by decide) ?_
      refine lv_goto (tgt := 41) Z.x Z.b dX8_most_16 (by decide) ?_
      exact z_iret Z E hr dX8_most_41 hf
  · have hf := zit hf c
    refine lv_bipush (v := 20) Z.x Z.b dX8_most_4 (by decide) ?_
    refine lv_goto (tgt := 41) Z.x Z.b dX8_most_6 (by decide) ?_
    exact z_iret Z E hr dX8_most_41 hf
set_option maxHeartbeats 4000000 in
set_option maxRecDepth 20000 in
theorem c_X8_most (l : Launch) (G : zG) (h : zHp) (h' : zHp) (a0 : Int32) (r : Int32) (hf : f_X8_most a0 h = some (r, h')) : zM0 l yX8_most cX8_most 1 (some .int) rm_X8_most G [.int a0] h (zQi G r h') := by
  refine Met.ofW (cc := cX8_most) (maxL := 1) (ret := (some .int)) (by decide) rfl ?_
  intro p e s m args below meth c s₁ B hml hv
  obtain ⟨rfl, hW⟩ := hv
  obtain ⟨Z, E, hr⟩ := zEnter (own := RX8) B hml rfl hW
  have hl := lv_entry ([.int a0]) (n := 1) (Nat.le_of_ble_eq_true rfl)
  rw [lg_entry_eq]
  generalize (lg_sl ([.int a0]) ++ List.replicate (1 - (lg_sl ([.int a0])).length) Slot.unset).toArray = ls at hl ⊢
  have hl : lv_has ls 1 [(0, .int a0)] := hl
  exact t_X8_most (out := (r, h')) Z hr hf E hl
/-! FerryCrewsModel.set(II)I -/
theorem dX8_set_0 : decode cX8_set 0 = .ok (.iload_n 1, 1) := by decide +kernel
theorem dX8_set_1 : decode cX8_set 1 = .ok (.iconst 0, 1) := by decide +kernel
theorem dX8_set_2 : decode cX8_set 2 = .ok (.iconst 4, 1) := by decide +kernel
theorem dX8_set_3 : decode cX8_set 3 = .ok (.invokestatic 42, 3) := by decide +kernel
theorem dX8_set_6 : decode cX8_set 6 = .ok (.ifCond .eq 15, 3) := by decide +kernel
theorem dX8_set_9 : decode cX8_set 9 = .ok (.iload_n 2, 1) := by decide +kernel
theorem dX8_set_10 : decode cX8_set 10 = .ok (.iconst 0, 1) := by decide +kernel
theorem dX8_set_11 : decode cX8_set 11 = .ok (.iload_n 1, 1) := by decide +kernel
theorem dX8_set_12 : decode cX8_set 12 = .ok (.invokestatic 179, 3) := by decide +kernel
theorem dX8_set_15 : decode cX8_set 15 = .ok (.invokestatic 42, 3) := by decide +kernel
theorem dX8_set_18 : decode cX8_set 18 = .ok (.ifCond .ne 6, 3) := by decide +kernel
theorem dX8_set_21 : decode cX8_set 21 = .ok (.bipush (-2), 2) := by decide +kernel
theorem dX8_set_23 : decode cX8_set 23 = .ok (.ireturn, 1) := by decide +kernel
theorem dX8_set_24 : decode cX8_set 24 = .ok (.aload_n 0, 1) := by decide +kernel
theorem dX8_set_25 : decode cX8_set 25 = .ok (.getfield 7, 3) := by decide +kernel
theorem dX8_set_28 : decode cX8_set 28 = .ok (.iconst 4, 1) := by decide +kernel
theorem dX8_set_29 : decode cX8_set 29 = .ok (.iload_n 1, 1) := by decide +kernel
theorem dX8_set_30 : decode cX8_set 30 = .ok (.iadd, 1) := by decide +kernel
theorem dX8_set_31 : decode cX8_set 31 = .ok (.iaload, 1) := by decide +kernel
theorem dX8_set_32 : decode cX8_set 32 = .ok (.istore_n 3, 1) := by decide +kernel
theorem dX8_set_33 : decode cX8_set 33 = .ok (.iload_n 3, 1) := by decide +kernel
theorem dX8_set_34 : decode cX8_set 34 = .ok (.iload_n 2, 1) := by decide +kernel
theorem dX8_set_35 : decode cX8_set 35 = .ok (.if_icmp .ne 6, 3) := by decide +kernel
theorem dX8_set_38 : decode cX8_set 38 = .ok (.bipush (-5), 2) := by decide +kernel
theorem dX8_set_40 : decode cX8_set 40 = .ok (.ireturn, 1) := by decide +kernel
theorem dX8_set_41 : decode cX8_set 41 = .ok (.iconst 1, 1) := by decide +kernel
theorem dX8_set_42 : decode cX8_set 42 = .ok (.istore 4, 2) := by decide +kernel
theorem dX8_set_44 : decode cX8_set 44 = .ok (.aload_n 0, 1) := by decide +kernel
theorem dX8_set_45 : decode cX8_set 45 = .ok (.getfield 7, 3) := by decide +kernel
theorem dX8_set_48 : decode cX8_set 48 = .ok (.iconst 4, 1) := by decide +kernel
theorem dX8_set_49 : decode cX8_set 49 = .ok (.iload_n 1, 1) := by decide +kernel
theorem dX8_set_50 : decode cX8_set 50 = .ok (.iadd, 1) := by decide +kernel
theorem dX8_set_51 : decode cX8_set 51 = .ok (.iload_n 2, 1) := by decide +kernel
theorem dX8_set_52 : decode cX8_set 52 = .ok (.iastore, 1) := by decide +kernel
theorem dX8_set_53 : decode cX8_set 53 = .ok (.iconst 0, 1) := by decide +kernel
theorem dX8_set_54 : decode cX8_set 54 = .ok (.istore 5, 2) := by decide +kernel
theorem dX8_set_56 : decode cX8_set 56 = .ok (.iload 5, 2) := by decide +kernel
theorem dX8_set_58 : decode cX8_set 58 = .ok (.aload_n 0, 1) := by decide +kernel
theorem dX8_set_59 : decode cX8_set 59 = .ok (.getfield 7, 3) := by decide +kernel
theorem dX8_set_62 : decode cX8_set 62 = .ok (.iconst 2, 1) := by decide +kernel
theorem dX8_set_63 : decode cX8_set 63 = .ok (.iaload, 1) := by decide +kernel
theorem dX8_set_64 : decode cX8_set 64 = .ok (.if_icmp .ge 22, 3) := by decide +kernel
theorem dX8_set_67 : decode cX8_set 67 = .ok (.iload 4, 2) := by decide +kernel
theorem dX8_set_69 : decode cX8_set 69 = .ok (.ifCond .eq 17, 3) := by decide +kernel
theorem dX8_set_72 : decode cX8_set 72 = .ok (.aload_n 0, 1) := by decide +kernel
theorem dX8_set_73 : decode cX8_set 73 = .ok (.iload 5, 2) := by decide +kernel
theorem dX8_set_75 : decode cX8_set 75 = .ok (.invokevirtual 97, 3) := by decide +kernel
theorem dX8_set_78 : decode cX8_set 78 = .ok (.istore 4, 2) := by decide +kernel
theorem dX8_set_80 : decode cX8_set 80 = .ok (.iinc 5 1, 3) := by decide +kernel
theorem dX8_set_83 : decode cX8_set 83 = .ok (.goto (-27), 3) := by decide +kernel
theorem dX8_set_86 : decode cX8_set 86 = .ok (.aload_n 0, 1) := by decide +kernel
theorem dX8_set_87 : decode cX8_set 87 = .ok (.getfield 7, 3) := by decide +kernel
theorem dX8_set_90 : decode cX8_set 90 = .ok (.iconst 4, 1) := by decide +kernel
theorem dX8_set_91 : decode cX8_set 91 = .ok (.iload_n 1, 1) := by decide +kernel
theorem dX8_set_92 : decode cX8_set 92 = .ok (.iadd, 1) := by decide +kernel
theorem dX8_set_93 : decode cX8_set 93 = .ok (.iload_n 3, 1) := by decide +kernel
theorem dX8_set_94 : decode cX8_set 94 = .ok (.iastore, 1) := by decide +kernel
theorem dX8_set_95 : decode cX8_set 95 = .ok (.iload 4, 2) := by decide +kernel
theorem dX8_set_97 : decode cX8_set 97 = .ok (.ifCond .ne 6, 3) := by decide +kernel
theorem dX8_set_100 : decode cX8_set 100 = .ok (.bipush (-4), 2) := by decide +kernel
theorem dX8_set_102 : decode cX8_set 102 = .ok (.ireturn, 1) := by decide +kernel
theorem dX8_set_103 : decode cX8_set 103 = .ok (.aload_n 0, 1) := by decide +kernel
theorem dX8_set_104 : decode cX8_set 104 = .ok (.invokevirtual 132, 3) := by decide +kernel
theorem dX8_set_107 : decode cX8_set 107 = .ok (.aload_n 0, 1) := by decide +kernel
theorem dX8_set_108 : decode cX8_set 108 = .ok (.getfield 7, 3) := by decide +kernel
theorem dX8_set_111 : decode cX8_set 111 = .ok (.iconst 4, 1) := by decide +kernel
theorem dX8_set_112 : decode cX8_set 112 = .ok (.iload_n 1, 1) := by decide +kernel
theorem dX8_set_113 : decode cX8_set 113 = .ok (.iadd, 1) := by decide +kernel
theorem dX8_set_114 : decode cX8_set 114 = .ok (.iload_n 2, 1) := by decide +kernel
theorem dX8_set_115 : decode cX8_set 115 = .ok (.iastore, 1) := by decide +kernel
theorem dX8_set_116 : decode cX8_set 116 = .ok (.iload_n 3, 1) := by decide +kernel
theorem dX8_set_117 : decode cX8_set 117 = .ok (.ireturn, 1) := by decide +kernel
set_option maxRecDepth 20000 in
theorem wc_X8_most : Cond.code yX8_most cX8_most 1 (some .int) ∈ zB := List.mem_filter.mpr ⟨List.mem_of_getElem? (i := 1074) (by decide +kernel), by decide +kernel⟩
set_option maxRecDepth 20000 in
theorem wm_X8_179 : Cond.methodLink RX8 179 yX8_most ∈ zB := List.mem_filter.mpr ⟨List.mem_of_getElem? (i := 1072) (by decide +kernel), by decide +kernel⟩
theorem k_X8_179 : zCal RX8 179 yX8_most cX8_most 1 (some .int) 1 := ⟨wm_X8_179, wi_X8, wc_X8_most, by decide +kernel, by decide +kernel, by decide +kernel⟩
set_option maxRecDepth 20000 in
theorem wt_X8_most : Cond.static yX8_most ∈ zB := List.mem_filter.mpr ⟨List.mem_of_getElem? (i := 1073) (by decide +kernel), by decide +kernel⟩
def rm_X8_set : Room := { frames := 6, cells := 0, slots := 0, locals := 136 }
set_option maxHeartbeats 4000000 in
set_option maxRecDepth 20000 in
theorem t_X8_set_86 {p : Program} {l : Launch} {e : Env} {s : State} {m : MethodId} {args : Array Value} {below : List Frame} {meth : Method} {c : Code} {G : zG} (Z : zF p s m args c meth cX8_set 6 RX8 G) (hr : meth.sig.returnType = (some .int)) {out : Int32 × zHp} {a0 : Nat} {a1 : Int32} {a2 : Int32} {a3 : Int32} {a4 : Int32} {h : zHp} {H : Heap} {locs : List Loc} {ls : Array Slot} (hf : f_X8_set_86 a0 a1 a2 a3 a4 h = some out) (E : zE G s h H locs) (hl : lv_has ls 6 [(0, .ref a0), (1, .int a1), (2, .int a2), (3, .int a3), (4, .int a4)]) : W p l e rm_X8_set s m args below meth c H locs 0 0 (MQ below (zQi G out.1 out.2) args s 0 0 (zA G)) (F0 m 86 ls []) := by
  unfold f_X8_set_86 at hf
  refine lv_aload_n Z.x Z.b dX8_set_86 rfl (lv_at hl 0 rfl) ?_
  refine z_getR Z E q_X8_7 dX8_set_87 hf (fun v1 hf => ?_)
  refine lv_iconst (v := 4) Z.x Z.b dX8_set_90 (by decide) ?_
  refine lv_iload_n Z.x Z.b dX8_set_91 rfl (lv_at hl 1 rfl) ?_
  refine lv_iadd Z.x Z.b dX8_set_92 ?_
  refine lv_iload_n Z.x Z.b dX8_set_93 rfl (lv_at hl 3 rfl) ?_
  refine z_iast Z E dX8_set_94 hf (fun h2 H locs hf E => ?_)
  refine lv_iload Z.x Z.b dX8_set_95 (lv_at hl 4 rfl) ?_
  refine lv_if_ne (tgt := 103) Z.x Z.b dX8_set_97 (by decide) (fun c => ?_) (fun c => ?_)
  · have hf := zif_ hf c
    refine lv_aload_n Z.x Z.b dX8_set_103 rfl (lv_at hl 0 rfl) ?_
    refine z_Vv (As := []) Z E hl.1 k_X8_132 v_X8_record hf (fun h' e => c_X8_record l G h2 h' a0 e) rfl rfl (Nat.le_of_ble_eq_true rfl) (zRm_of rfl (Nat.zero_le _) (Nat.zero_le _)) dX8_set_104 (fun h3 H locs hf E => ?_)
    refine lv_aload_n Z.x Z.b dX8_set_107 rfl (lv_at hl 0 rfl) ?_
    refine z_getR Z E q_X8_7 dX8_set_108 hf (fun v4 hf => ?_)
    refine lv_iconst (v := 4) Z.x Z.b dX8_set_111 (by decide) ?_
    refine lv_iload_n Z.x Z.b dX8_set_112 rfl (lv_at hl 1 rfl) ?_
    refine lv_iadd Z.x Z.b dX8_set_113 ?_
    refine lv_iload_n Z.x Z.b dX8_set_114 rfl (lv_at hl 2 rfl) ?_
    refine z_iast Z E dX8_set_115 hf (fun h5 H locs hf E => ?_)
    refine lv_iload_n Z.x Z.b dX8_set_116 rfl (lv_at hl 3 rfl) ?_
    exact z_iret Z E hr dX8_set_117 hf
  · have hf := zit hf c
    refine lv_bipush (v := (-4)) Z.x Z.b dX8_set_100 (by decide) ?_
    exact z_iret Z E hr dX8_set_102 hf
set_option maxHeartbeats 4000000 in
set_option maxRecDepth 20000 in
theorem t_X8_set_56_body {p : Program} {l : Launch} {e : Env} {s : State} {m : MethodId} {args : Array Value} {below : List Frame} {meth : Method} {c : Code} {G : zG} (Z : zF p s m args c meth cX8_set 6 RX8 G) (hr : meth.sig.returnType = (some .int)) {out : Int32 × zHp} {r56 : Nat → Int32 → Int32 → Int32 → Int32 → Int32 → zHp → Option (Int32 × zHp)} (k56 : ∀ {a0 : Nat} {a1 : Int32} {a2 : Int32} {a3 : Int32} {a4 : Int32} {a5 : Int32} {h : zHp} {H : Heap} {locs : List Loc} {ls : Array Slot}, r56 a0 a1 a2 a3 a4 a5 h = some out → zE G s h H locs → lv_has ls 6 [(0, .ref a0), (1, .int a1), (2, .int a2), (3, .int a3), (4, .int a4), (5, .int a5)] → W p l e rm_X8_set s m args below meth c H locs 0 0 (MQ below (zQi G out.1 out.2) args s 0 0 (zA G)) (F0 m 56 ls [])) {a0 : Nat} {a1 : Int32} {a2 : Int32} {a3 : Int32} {a4 : Int32} {a5 : Int32} {h : zHp} {H : Heap} {locs : List Loc} {ls : Array Slot} (hf : f_X8_set_56_body r56 a0 a1 a2 a3 a4 a5 h = some out) (E : zE G s h H locs) (hl : lv_has ls 6 [(0, .ref a0), (1, .int a1), (2, .int a2), (3, .int a3), (4, .int a4), (5, .int a5)]) : W p l e rm_X8_set s m args below meth c H locs 0 0 (MQ below (zQi G out.1 out.2) args s 0 0 (zA G)) (F0 m 56 ls []) := by
  unfold f_X8_set_56_body at hf
  refine lv_iload Z.x Z.b dX8_set_56 (lv_at hl 5 rfl) ?_
  refine lv_aload_n Z.x Z.b dX8_set_58 rfl (lv_at hl 0 rfl) ?_
  refine z_getR Z E q_X8_7 dX8_set_59 hf (fun v1 hf => ?_)
  refine lv_iconst (v := 2) Z.x Z.b dX8_set_62 (by decide) ?_
  refine z_iald Z E dX8_set_63 hf (fun v2 hf => ?_)
  refine lv_icmp_ge (tgt := 86) Z.x Z.b dX8_set_64 (by decide) (fun c => ?_) (fun c => ?_)
  · have hf := zit hf c
    exact t_X8_set_86 Z hr hf E (lv_sub hl [0, 1, 2, 3, 4] rfl)
  · have hf := zif_ hf c
    refine lv_iload Z.x Z.b dX8_set_67 (lv_at hl 4 rfl) ?_
    refine lv_if_eq (tgt := 86) Z.x Z.b dX8_set_69 (by decide) (fun c => ?_) (fun c => ?_)
    · have hf := zit hf c
      exact t_X8_set_86 Z hr hf E (lv_sub hl [0, 1, 2, 3, 4] rfl)
    · have hf := zif_ hf c
      refine lv_aload_n Z.x Z.b dX8_set_72 rfl (lv_at hl 0 rfl) ?_
      refine lv_iload Z.x Z.b dX8_set_73 (lv_at hl 5 rfl) ?_
      refine z_Vi (As := [.int a5]) Z E hl.1 k_X8_97 v_X8_restsHold hf (fun r h' e => c_X8_restsHold l G h h' a0 a5 r e) rfl rfl (Nat.le_of_ble_eq_true rfl) (zRm_of rfl (Nat.zero_le _) (Nat.zero_le _)) dX8_set_75 (fun v3 h4 H locs hf E => ?_)
      refine lv_istore (lv' := [(4, .int v3), (0, .ref a0), (1, .int a1), (2, .int a2), (3, .int a3), (5, .int a5)]) Z.x Z.b dX8_set_78 hl (by decide) rfl (fun ls hl => ?_)
      refine lv_iinc (v := (a5 + 1)) (lv' := [(5, .int (a5 + 1)), (4, .int v3), (0, .ref a0), (1, .int a1), (2, .int a2), (3, .int a3)]) Z.x Z.b dX8_set_80 hl (k := 5) rfl rfl (by decide) rfl (fun ls hl => ?_)
      refine lv_goto (tgt := 56) Z.x Z.b dX8_set_83 (by decide) ?_
      exact k56 hf E (lv_sub hl [2, 3, 4, 5, 1, 0] rfl)
theorem t_X8_set_56 {p : Program} {l : Launch} {e : Env} {s : State} {m : MethodId} {args : Array Value} {below : List Frame} {meth : Method} {c : Code} {G : zG} (Z : zF p s m args c meth cX8_set 6 RX8 G) (hr : meth.sig.returnType = (some .int)) {out : Int32 × zHp} : ∀ (n : Nat), ∀ {a0 : Nat} {a1 : Int32} {a2 : Int32} {a3 : Int32} {a4 : Int32} {a5 : Int32} {h : zHp} {H : Heap} {locs : List Loc} {ls : Array Slot}, f_X8_set_56 n a0 a1 a2 a3 a4 a5 h = some out → zE G s h H locs → lv_has ls 6 [(0, .ref a0), (1, .int a1), (2, .int a2), (3, .int a3), (4, .int a4), (5, .int a5)] → W p l e rm_X8_set s m args below meth c H locs 0 0 (MQ below (zQi G out.1 out.2) args s 0 0 (zA G)) (F0 m 56 ls [])
  | 0 => fun hf => by cases hf
  | n + 1 => fun hf E hl => t_X8_set_56_body Z hr (r56 := f_X8_set_56 n) (t_X8_set_56 Z hr n) hf E hl
set_option maxHeartbeats 4000000 in
set_option maxRecDepth 20000 in
theorem t_X8_set {p : Program} {l : Launch} {e : Env} {s : State} {m : MethodId} {args : Array Value} {below : List Frame} {meth : Method} {c : Code} {G : zG} (Z : zF p s m args c meth cX8_set 6 RX8 G) (hr : meth.sig.returnType = (some .int)) {out : Int32 × zHp} {a0 : Nat} {a1 : Int32} {a2 : Int32} {h : zHp} {H : Heap} {locs : List Loc} {ls : Array Slot} (hf : f_X8_set a0 a1 a2 h = some out) (E : zE G s h H locs) (hl : lv_has ls 6 [(0, .ref a0), (1, .int a1), (2, .int a2)]) : W p l e rm_X8_set s m args below meth c H locs 0 0 (MQ below (zQi G out.1 out.2) args s 0 0 (zA G)) (F0 m 0 ls []) := by
  unfold f_X8_set at hf
  refine lv_iload_n Z.x Z.b dX8_set_0 rfl (lv_at hl 1 rfl) ?_
  refine lv_iconst (v := 0) Z.x Z.b dX8_set_1 (by decide) ?_
  refine lv_iconst (v := 4) Z.x Z.b dX8_set_2 (by decide) ?_
  refine z_Si (As := [.int a1, .int 0, .int 4]) Z E hl.1 k_X8_42 wt_X8_in hf (fun r h' e => c_X8_in l G h h' a1 0 4 r e) rfl rfl (Nat.le_of_ble_eq_true rfl) (zRm_of rfl (Nat.zero_le _) (Nat.zero_le _)) dX8_set_3 (fun v1 h2 H locs hf E => ?_)
  refine lv_if_eq (tgt := 21) Z.x Z.b dX8_set_6 (by decide) (fun c => ?_) (fun c => ?_)
  · have hf := zit hf c
    refine lv_bipush (v := (-2)) Z.x Z.b dX8_set_21 (by decide) ?_
    exact z_iret Z E hr dX8_set_23 hf
  · have hf := zif_ hf c
    refine lv_iload_n Z.x Z.b dX8_set_9 rfl (lv_at hl 2 rfl) ?_
    refine lv_iconst (v := 0) Z.x Z.b dX8_set_10 (by decide) ?_
    refine lv_iload_n Z.x Z.b dX8_set_11 rfl (lv_at hl 1 rfl) ?_
    refine z_Si (As := [.int a1]) Z E hl.1 k_X8_179 wt_X8_most hf (fun r h' e => c_X8_most l G h2 h' a1 r e) rfl rfl (Nat.le_of_ble_eq_true rfl) (zRm_of rfl (Nat.zero_le _) (Nat.zero_le _)) dX8_set_12 (fun v3 h4 H locs hf E => ?_)
    refine z_Si (As := [.int a2, .int 0, .int v3]) Z E hl.1 k_X8_42 wt_X8_in hf (fun r h' e => c_X8_in l G h4 h' a2 0 v3 r e) rfl rfl (Nat.le_of_ble_eq_true rfl) (zRm_of rfl (Nat.zero_le _) (Nat.zero_le _)) dX8_set_15 (fun v5 h6 H locs hf E => ?_)
    refine lv_if_ne (tgt := 24) Z.x Z.b dX8_set_18 (by decide) (fun c => ?_) (fun c => ?_)
    · have hf := zif_ hf c
      refine lv_aload_n Z.x Z.b dX8_set_24 rfl (lv_at hl 0 rfl) ?_
      refine z_getR Z E q_X8_7 dX8_set_25 hf (fun v7 hf => ?_)
      refine lv_iconst (v := 4) Z.x Z.b dX8_set_28 (by decide) ?_
      refine lv_iload_n Z.x Z.b dX8_set_29 rfl (lv_at hl 1 rfl) ?_
      refine lv_iadd Z.x Z.b dX8_set_30 ?_
      refine z_iald Z E dX8_set_31 hf (fun v8 hf => ?_)
      refine lv_istore_n (lv' := [(3, .int v8), (0, .ref a0), (1, .int a1), (2, .int a2)]) Z.x Z.b dX8_set_32 rfl hl (by decide) rfl (fun ls hl => ?_)
      refine lv_iload_n Z.x Z.b dX8_set_33 rfl (lv_at hl 0 rfl) ?_
      refine lv_iload_n Z.x Z.b dX8_set_34 rfl (lv_at hl 3 rfl) ?_
      refine lv_icmp_ne (tgt := 41) Z.x Z.b dX8_set_35 (by decide) (fun c => ?_) (fun c => ?_)
      · have hf := zif_ hf c
        refine lv_iconst (v := 1) Z.x Z.b dX8_set_41 (by decide) ?_
        refine lv_istore (lv' := [(4, .int 1), (3, .int v8), (0, .ref a0), (1, .int a1), (2, .int a2)]) Z.x Z.b dX8_set_42 hl (by decide) rfl (fun ls hl => ?_)
        refine lv_aload_n Z.x Z.b dX8_set_44 rfl (lv_at hl 2 rfl) ?_
        refine z_getR Z E q_X8_7 dX8_set_45 hf (fun v9 hf => ?_)
        refine lv_iconst (v := 4) Z.x Z.b dX8_set_48 (by decide) ?_
        refine lv_iload_n Z.x Z.b dX8_set_49 rfl (lv_at hl 3 rfl) ?_
        refine lv_iadd Z.x Z.b dX8_set_50 ?_
        refine lv_iload_n Z.x Z.b dX8_set_51 rfl (lv_at hl 4 rfl) ?_
        refine z_iast Z E dX8_set_52 hf (fun h10 H locs hf E => ?_)
        refine lv_iconst (v := 0) Z.x Z.b dX8_set_53 (by decide) ?_
        refine lv_istore (lv' := [(5, .int 0), (4, .int 1), (3, .int v8), (0, .ref a0), (1, .int a1), (2, .int a2)]) Z.x Z.b dX8_set_54 hl (by decide) rfl (fun ls hl => ?_)
        exact t_X8_set_56 Z hr zN hf E (lv_sub hl [3, 4, 5, 2, 1, 0] rfl)
      · have hf := zit hf c
        refine lv_bipush (v := (-5)) Z.x Z.b dX8_set_38 (by decide) ?_
        exact z_iret Z E hr dX8_set_40 hf
    · have hf := zit hf c
      refine lv_bipush (v := (-2)) Z.x Z.b dX8_set_21 (by decide) ?_
      exact z_iret Z E hr dX8_set_23 hf
set_option maxHeartbeats 4000000 in
set_option maxRecDepth 20000 in
theorem c_X8_set (l : Launch) (G : zG) (h : zHp) (h' : zHp) (a0 : Nat) (a1 : Int32) (a2 : Int32) (r : Int32) (hf : f_X8_set a0 a1 a2 h = some (r, h')) : zM0 l yX8_set cX8_set 6 (some .int) rm_X8_set G [.ref a0, .int a1, .int a2] h (zQi G r h') := by
  refine Met.ofW (cc := cX8_set) (maxL := 6) (ret := (some .int)) (by decide) rfl ?_
  intro p e s m args below meth c s₁ B hml hv
  obtain ⟨rfl, hW⟩ := hv
  obtain ⟨Z, E, hr⟩ := zEnter (own := RX8) B hml rfl hW
  have hl := lv_entry ([.ref a0, .int a1, .int a2]) (n := 6) (Nat.le_of_ble_eq_true rfl)
  rw [lg_entry_eq]
  generalize (lg_sl ([.ref a0, .int a1, .int a2]) ++ List.replicate (6 - (lg_sl ([.ref a0, .int a1, .int a2])).length) Slot.unset).toArray = ls at hl ⊢
  have hl : lv_has ls 6 [(0, .ref a0), (1, .int a1), (2, .int a2)] := hl
  exact t_X8_set (out := (r, h')) Z hr hf E hl
/-! FerryCrewsModel.type(C)I -/
theorem dX8_type_0 : decode cX8_type 0 = .ok (.aload_n 0, 1) := by decide +kernel
theorem dX8_type_1 : decode cX8_type 1 = .ok (.getfield 182, 3) := by decide +kernel
theorem dX8_type_4 : decode cX8_type 4 = .ok (.bipush 60, 2) := by decide +kernel
theorem dX8_type_6 : decode cX8_type 6 = .ok (.if_icmp .ne 6, 3) := by decide +kernel
theorem dX8_type_9 : decode cX8_type 9 = .ok (.bipush (-3), 2) := by decide +kernel
theorem dX8_type_11 : decode cX8_type 11 = .ok (.ireturn, 1) := by decide +kernel
theorem dX8_type_12 : decode cX8_type 12 = .ok (.aload_n 0, 1) := by decide +kernel
theorem dX8_type_13 : decode cX8_type 13 = .ok (.getfield 22, 3) := by decide +kernel
theorem dX8_type_16 : decode cX8_type 16 = .ok (.aload_n 0, 1) := by decide +kernel
theorem dX8_type_17 : decode cX8_type 17 = .ok (.getfield 182, 3) := by decide +kernel
theorem dX8_type_20 : decode cX8_type 20 = .ok (.iload_n 1, 1) := by decide +kernel
theorem dX8_type_21 : decode cX8_type 21 = .ok (.iastore, 1) := by decide +kernel
theorem dX8_type_22 : decode cX8_type 22 = .ok (.aload_n 0, 1) := by decide +kernel
theorem dX8_type_23 : decode cX8_type 23 = .ok (.dup, 1) := by decide +kernel
theorem dX8_type_24 : decode cX8_type 24 = .ok (.getfield 182, 3) := by decide +kernel
theorem dX8_type_27 : decode cX8_type 27 = .ok (.iconst 1, 1) := by decide +kernel
theorem dX8_type_28 : decode cX8_type 28 = .ok (.iadd, 1) := by decide +kernel
theorem dX8_type_29 : decode cX8_type 29 = .ok (.putfield 182, 3) := by decide +kernel
theorem dX8_type_32 : decode cX8_type 32 = .ok (.aload_n 0, 1) := by decide +kernel
theorem dX8_type_33 : decode cX8_type 33 = .ok (.getfield 182, 3) := by decide +kernel
theorem dX8_type_36 : decode cX8_type 36 = .ok (.ireturn, 1) := by decide +kernel
theorem p_X8_182 : zPut RX8 182 8 10 false .int := ⟨RX8, TX8, 12, tyX8, rfl, by decide, iX8, wf_X8_182, rfl, tyX8_ok, nmX8, rfl, by decide +kernel, fun _ => rfl⟩
def rm_X8_type : Room := { frames := 0, cells := 0, slots := 0, locals := 0 }
set_option maxHeartbeats 4000000 in
set_option maxRecDepth 20000 in
theorem t_X8_type {p : Program} {l : Launch} {e : Env} {s : State} {m : MethodId} {args : Array Value} {below : List Frame} {meth : Method} {c : Code} {G : zG} (Z : zF p s m args c meth cX8_type 2 RX8 G) (hr : meth.sig.returnType = (some .int)) {out : Int32 × zHp} {a0 : Nat} {a1 : Int32} {h : zHp} {H : Heap} {locs : List Loc} {ls : Array Slot} (hf : f_X8_type a0 a1 h = some out) (E : zE G s h H locs) (hl : lv_has ls 2 [(0, .ref a0), (1, .int a1)]) : W p l e rm_X8_type s m args below meth c H locs 0 0 (MQ below (zQi G out.1 out.2) args s 0 0 (zA G)) (F0 m 0 ls []) := by
  unfold f_X8_type at hf
  refine lv_aload_n Z.x Z.b dX8_type_0 rfl (lv_at hl 0 rfl) ?_
  refine z_getI Z E q_X8_182 dX8_type_1 hf (fun v1 hf => ?_)
  refine lv_bipush (v := 60) Z.x Z.b dX8_type_4 (by decide) ?_
  refine lv_icmp_ne (tgt := 12) Z.x Z.b dX8_type_6 (by decide) (fun c => ?_) (fun c => ?_)
  · have hf := zif_ hf c
    refine lv_aload_n Z.x Z.b dX8_type_12 rfl (lv_at hl 0 rfl) ?_
    refine z_getR Z E q_X8_22 dX8_type_13 hf (fun v2 hf => ?_)
    refine lv_aload_n Z.x Z.b dX8_type_16 rfl (lv_at hl 0 rfl) ?_
    refine z_getI Z E q_X8_182 dX8_type_17 hf (fun v3 hf => ?_)
    refine lv_iload_n Z.x Z.b dX8_type_20 rfl (lv_at hl 1 rfl) ?_
    refine z_iast Z E dX8_type_21 hf (fun h4 H locs hf E => ?_)
    refine lv_aload_n Z.x Z.b dX8_type_22 rfl (lv_at hl 0 rfl) ?_
    refine lv_dup Z.x Z.b dX8_type_23 rfl ?_
    refine z_getI Z E q_X8_182 dX8_type_24 hf (fun v5 hf => ?_)
    refine lv_iconst (v := 1) Z.x Z.b dX8_type_27 (by decide) ?_
    refine lv_iadd Z.x Z.b dX8_type_28 ?_
    refine z_put Z E p_X8_182 rfl rfl dX8_type_29 hf (fun h6 H locs hf E => ?_)
    refine lv_aload_n Z.x Z.b dX8_type_32 rfl (lv_at hl 0 rfl) ?_
    refine z_getI Z E q_X8_182 dX8_type_33 hf (fun v7 hf => ?_)
    exact z_iret Z E hr dX8_type_36 hf
  · have hf := zit hf c
    refine lv_bipush (v := (-3)) Z.x Z.b dX8_type_9 (by decide) ?_
    exact z_iret Z E hr dX8_type_11 hf
set_option maxHeartbeats 4000000 in
set_option maxRecDepth 20000 in
theorem c_X8_type (l : Launch) (G : zG) (h : zHp) (h' : zHp) (a0 : Nat) (a1 : Int32) (r : Int32) (hf : f_X8_type a0 a1 h = some (r, h')) : zM0 l yX8_type cX8_type 2 (some .int) rm_X8_type G [.ref a0, .int a1] h (zQi G r h') := by
  refine Met.ofW (cc := cX8_type) (maxL := 2) (ret := (some .int)) (by decide) rfl ?_
  intro p e s m args below meth c s₁ B hml hv
  obtain ⟨rfl, hW⟩ := hv
  obtain ⟨Z, E, hr⟩ := zEnter (own := RX8) B hml rfl hW
  have hl := lv_entry ([.ref a0, .int a1]) (n := 2) (Nat.le_of_ble_eq_true rfl)
  rw [lg_entry_eq]
  generalize (lg_sl ([.ref a0, .int a1]) ++ List.replicate (2 - (lg_sl ([.ref a0, .int a1])).length) Slot.unset).toArray = ls at hl ⊢
  have hl : lv_has ls 2 [(0, .ref a0), (1, .int a1)] := hl
  exact t_X8_type (out := (r, h')) Z hr hf E hl
/-! FerryCrewsModel.clearText()I -/
theorem dX8_clearText_0 : decode cX8_clearText 0 = .ok (.aload_n 0, 1) := by decide +kernel
theorem dX8_clearText_1 : decode cX8_clearText 1 = .ok (.getfield 182, 3) := by decide +kernel
theorem dX8_clearText_4 : decode cX8_clearText 4 = .ok (.istore_n 1, 1) := by decide +kernel
theorem dX8_clearText_5 : decode cX8_clearText 5 = .ok (.aload_n 0, 1) := by decide +kernel
theorem dX8_clearText_6 : decode cX8_clearText 6 = .ok (.iconst 0, 1) := by decide +kernel
theorem dX8_clearText_7 : decode cX8_clearText 7 = .ok (.putfield 182, 3) := by decide +kernel
theorem dX8_clearText_10 : decode cX8_clearText 10 = .ok (.iload_n 1, 1) := by decide +kernel
theorem dX8_clearText_11 : decode cX8_clearText 11 = .ok (.ireturn, 1) := by decide +kernel
def rm_X8_clearText : Room := { frames := 0, cells := 0, slots := 0, locals := 0 }
set_option maxHeartbeats 4000000 in
set_option maxRecDepth 20000 in
theorem t_X8_clearText {p : Program} {l : Launch} {e : Env} {s : State} {m : MethodId} {args : Array Value} {below : List Frame} {meth : Method} {c : Code} {G : zG} (Z : zF p s m args c meth cX8_clearText 2 RX8 G) (hr : meth.sig.returnType = (some .int)) {out : Int32 × zHp} {a0 : Nat} {h : zHp} {H : Heap} {locs : List Loc} {ls : Array Slot} (hf : f_X8_clearText a0 h = some out) (E : zE G s h H locs) (hl : lv_has ls 2 [(0, .ref a0)]) : W p l e rm_X8_clearText s m args below meth c H locs 0 0 (MQ below (zQi G out.1 out.2) args s 0 0 (zA G)) (F0 m 0 ls []) := by
  unfold f_X8_clearText at hf
  refine lv_aload_n Z.x Z.b dX8_clearText_0 rfl (lv_at hl 0 rfl) ?_
  refine z_getI Z E q_X8_182 dX8_clearText_1 hf (fun v1 hf => ?_)
  refine lv_istore_n (lv' := [(1, .int v1), (0, .ref a0)]) Z.x Z.b dX8_clearText_4 rfl hl (by decide) rfl (fun ls hl => ?_)
  refine lv_aload_n Z.x Z.b dX8_clearText_5 rfl (lv_at hl 1 rfl) ?_
  refine lv_iconst (v := 0) Z.x Z.b dX8_clearText_6 (by decide) ?_
  refine z_put Z E p_X8_182 rfl rfl dX8_clearText_7 hf (fun h2 H locs hf E => ?_)
  refine lv_iload_n Z.x Z.b dX8_clearText_10 rfl (lv_at hl 0 rfl) ?_
  exact z_iret Z E hr dX8_clearText_11 hf
set_option maxHeartbeats 4000000 in
set_option maxRecDepth 20000 in
theorem c_X8_clearText (l : Launch) (G : zG) (h : zHp) (h' : zHp) (a0 : Nat) (r : Int32) (hf : f_X8_clearText a0 h = some (r, h')) : zM0 l yX8_clearText cX8_clearText 2 (some .int) rm_X8_clearText G [.ref a0] h (zQi G r h') := by
  refine Met.ofW (cc := cX8_clearText) (maxL := 2) (ret := (some .int)) (by decide) rfl ?_
  intro p e s m args below meth c s₁ B hml hv
  obtain ⟨rfl, hW⟩ := hv
  obtain ⟨Z, E, hr⟩ := zEnter (own := RX8) B hml rfl hW
  have hl := lv_entry ([.ref a0]) (n := 2) (Nat.le_of_ble_eq_true rfl)
  rw [lg_entry_eq]
  generalize (lg_sl ([.ref a0]) ++ List.replicate (2 - (lg_sl ([.ref a0])).length) Slot.unset).toArray = ls at hl ⊢
  have hl : lv_has ls 2 [(0, .ref a0)] := hl
  exact t_X8_clearText (out := (r, h')) Z hr hf E hl
/-! FerryCrewsModel.fault()I -/
theorem dX8_fault_0 : decode cX8_fault 0 = .ok (.aload_n 0, 1) := by decide +kernel
theorem dX8_fault_1 : decode cX8_fault 1 = .ok (.invokevirtual 138, 3) := by decide +kernel
theorem dX8_fault_4 : decode cX8_fault 4 = .ok (.istore_n 1, 1) := by decide +kernel
theorem dX8_fault_5 : decode cX8_fault 5 = .ok (.iload_n 1, 1) := by decide +kernel
theorem dX8_fault_6 : decode cX8_fault 6 = .ok (.ifCond .ge 10, 3) := by decide +kernel
theorem dX8_fault_9 : decode cX8_fault 9 = .ok (.bipush (-100), 2) := by decide +kernel
theorem dX8_fault_11 : decode cX8_fault 11 = .ok (.iload_n 1, 1) := by decide +kernel
theorem dX8_fault_12 : decode cX8_fault 12 = .ok (.isub, 1) := by decide +kernel
theorem dX8_fault_13 : decode cX8_fault 13 = .ok (.goto 5, 3) := by decide +kernel
theorem dX8_fault_16 : decode cX8_fault 16 = .ok (.bipush (-5), 2) := by decide +kernel
theorem dX8_fault_18 : decode cX8_fault 18 = .ok (.ireturn, 1) := by decide +kernel
def rm_X8_fault : Room := { frames := 5, cells := 0, slots := 0, locals := 112 }
set_option maxHeartbeats 4000000 in
set_option maxRecDepth 20000 in
theorem t_X8_fault {p : Program} {l : Launch} {e : Env} {s : State} {m : MethodId} {args : Array Value} {below : List Frame} {meth : Method} {c : Code} {G : zG} (Z : zF p s m args c meth cX8_fault 2 RX8 G) (hr : meth.sig.returnType = (some .int)) {out : Int32 × zHp} {a0 : Nat} {h : zHp} {H : Heap} {locs : List Loc} {ls : Array Slot} (hf : f_X8_fault a0 h = some out) (E : zE G s h H locs) (hl : lv_has ls 2 [(0, .ref a0)]) : W p l e rm_X8_fault s m args below meth c H locs 0 0 (MQ below (zQi G out.1 out.2) args s 0 0 (zA G)) (F0 m 0 ls []) := by
  unfold f_X8_fault at hf
  refine lv_aload_n Z.x Z.b dX8_fault_0 rfl (lv_at hl 0 rfl) ?_
  refine z_Vi (As := []) Z E hl.1 k_X8_138 v_X8_readAll hf (fun r h' e => c_X8_readAll l G h h' a0 r e) rfl rfl (Nat.le_of_ble_eq_true rfl) (zRm_of rfl (Nat.zero_le _) (Nat.zero_le _)) dX8_fault_1 (fun v1 h2 H locs hf E => ?_)
  refine lv_istore_n (lv' := [(1, .int v1), (0, .ref a0)]) Z.x Z.b dX8_fault_4 rfl hl (by decide) rfl (fun ls hl => ?_)
  refine lv_iload_n Z.x Z.b dX8_fault_5 rfl (lv_at hl 0 rfl) ?_
  refine lv_if_ge (tgt := 16) Z.x Z.b dX8_fault_6 (by decide) (fun c => ?_) (fun c => ?_)
  · have hf := zit hf c
    refine lv_bipush (v := (-5)) Z.x Z.b dX8_fault_16 (by decide) ?_
    exact z_iret Z E hr dX8_fault_18 hf
  · have hf := zif_ hf c
    refine lv_bipush (v := (-100)) Z.x Z.b dX8_fault_9 (by decide) ?_
    refine lv_iload_n Z.x Z.b dX8_fault_11 rfl (lv_at hl 0 rfl) ?_
    refine lv_isub Z.x Z.b dX8_fault_12 ?_
    refine lv_goto (tgt := 18) Z.x Z.b dX8_fault_13 (by decide) ?_
    exact z_iret Z E hr dX8_fault_18 hf
set_option maxHeartbeats 4000000 in
set_option maxRecDepth 20000 in
theorem c_X8_fault (l : Launch) (G : zG) (h : zHp) (h' : zHp) (a0 : Nat) (r : Int32) (hf : f_X8_fault a0 h = some (r, h')) : zM0 l yX8_fault cX8_fault 2 (some .int) rm_X8_fault G [.ref a0] h (zQi G r h') := by
  refine Met.ofW (cc := cX8_fault) (maxL := 2) (ret := (some .int)) (by decide) rfl ?_
  intro p e s m args below meth c s₁ B hml hv
  obtain ⟨rfl, hW⟩ := hv
  obtain ⟨Z, E, hr⟩ := zEnter (own := RX8) B hml rfl hW
  have hl := lv_entry ([.ref a0]) (n := 2) (Nat.le_of_ble_eq_true rfl)
  rw [lg_entry_eq]
  generalize (lg_sl ([.ref a0]) ++ List.replicate (2 - (lg_sl ([.ref a0])).length) Slot.unset).toArray = ls at hl ⊢
  have hl : lv_has ls 2 [(0, .ref a0)] := hl
  exact t_X8_fault (out := (r, h')) Z hr hf E hl
/-! FerryCrewsModel.undo()I -/
theorem dX8_undo_0 : decode cX8_undo 0 = .ok (.aload_n 0, 1) := by decide +kernel
theorem dX8_undo_1 : decode cX8_undo 1 = .ok (.getfield 34, 3) := by decide +kernel
theorem dX8_undo_4 : decode cX8_undo 4 = .ok (.ifCond .ne 6, 3) := by decide +kernel
theorem dX8_undo_7 : decode cX8_undo 7 = .ok (.bipush (-5), 2) := by decide +kernel
theorem dX8_undo_9 : decode cX8_undo 9 = .ok (.ireturn, 1) := by decide +kernel
theorem dX8_undo_10 : decode cX8_undo 10 = .ok (.aload_n 0, 1) := by decide +kernel
theorem dX8_undo_11 : decode cX8_undo 11 = .ok (.dup, 1) := by decide +kernel
theorem dX8_undo_12 : decode cX8_undo 12 = .ok (.getfield 34, 3) := by decide +kernel
theorem dX8_undo_15 : decode cX8_undo 15 = .ok (.iconst 1, 1) := by decide +kernel
theorem dX8_undo_16 : decode cX8_undo 16 = .ok (.isub, 1) := by decide +kernel
theorem dX8_undo_17 : decode cX8_undo 17 = .ok (.putfield 34, 3) := by decide +kernel
theorem dX8_undo_20 : decode cX8_undo 20 = .ok (.iconst 0, 1) := by decide +kernel
theorem dX8_undo_21 : decode cX8_undo 21 = .ok (.istore_n 1, 1) := by decide +kernel
theorem dX8_undo_22 : decode cX8_undo 22 = .ok (.iload_n 1, 1) := by decide +kernel
theorem dX8_undo_23 : decode cX8_undo 23 = .ok (.sipush 1093, 3) := by decide +kernel
theorem dX8_undo_26 : decode cX8_undo 26 = .ok (.if_icmp .ge 30, 3) := by decide +kernel
theorem dX8_undo_29 : decode cX8_undo 29 = .ok (.aload_n 0, 1) := by decide +kernel
theorem dX8_undo_30 : decode cX8_undo 30 = .ok (.getfield 7, 3) := by decide +kernel
theorem dX8_undo_33 : decode cX8_undo 33 = .ok (.iload_n 1, 1) := by decide +kernel
theorem dX8_undo_34 : decode cX8_undo 34 = .ok (.aload_n 0, 1) := by decide +kernel
theorem dX8_undo_35 : decode cX8_undo 35 = .ok (.getfield 19, 3) := by decide +kernel
theorem dX8_undo_38 : decode cX8_undo 38 = .ok (.sipush 1093, 3) := by decide +kernel
theorem dX8_undo_41 : decode cX8_undo 41 = .ok (.aload_n 0, 1) := by decide +kernel
theorem dX8_undo_42 : decode cX8_undo 42 = .ok (.getfield 34, 3) := by decide +kernel
theorem dX8_undo_45 : decode cX8_undo 45 = .ok (.imul, 1) := by decide +kernel
theorem dX8_undo_46 : decode cX8_undo 46 = .ok (.iload_n 1, 1) := by decide +kernel
theorem dX8_undo_47 : decode cX8_undo 47 = .ok (.iadd, 1) := by decide +kernel
theorem dX8_undo_48 : decode cX8_undo 48 = .ok (.iaload, 1) := by decide +kernel
theorem dX8_undo_49 : decode cX8_undo 49 = .ok (.iastore, 1) := by decide +kernel
theorem dX8_undo_50 : decode cX8_undo 50 = .ok (.iinc 1 1, 3) := by decide +kernel
theorem dX8_undo_53 : decode cX8_undo 53 = .ok (.goto (-31), 3) := by decide +kernel
theorem dX8_undo_56 : decode cX8_undo 56 = .ok (.aload_n 0, 1) := by decide +kernel
theorem dX8_undo_57 : decode cX8_undo 57 = .ok (.getfield 34, 3) := by decide +kernel
theorem dX8_undo_60 : decode cX8_undo 60 = .ok (.ireturn, 1) := by decide +kernel
def rm_X8_undo : Room := { frames := 0, cells := 0, slots := 0, locals := 0 }
set_option maxHeartbeats 4000000 in
set_option maxRecDepth 20000 in
theorem t_X8_undo_22_body {p : Program} {l : Launch} {e : Env} {s : State} {m : MethodId} {args : Array Value} {below : List Frame} {meth : Method} {c : Code} {G : zG} (Z : zF p s m args c meth cX8_undo 2 RX8 G) (hr : meth.sig.returnType = (some .int)) {out : Int32 × zHp} {r22 : Nat → Int32 → zHp → Option (Int32 × zHp)} (k22 : ∀ {a0 : Nat} {a1 : Int32} {h : zHp} {H : Heap} {locs : List Loc} {ls : Array Slot}, r22 a0 a1 h = some out → zE G s h H locs → lv_has ls 2 [(0, .ref a0), (1, .int a1)] → W p l e rm_X8_undo s m args below meth c H locs 0 0 (MQ below (zQi G out.1 out.2) args s 0 0 (zA G)) (F0 m 22 ls [])) {a0 : Nat} {a1 : Int32} {h : zHp} {H : Heap} {locs : List Loc} {ls : Array Slot} (hf : f_X8_undo_22_body r22 a0 a1 h = some out) (E : zE G s h H locs) (hl : lv_has ls 2 [(0, .ref a0), (1, .int a1)]) : W p l e rm_X8_undo s m args below meth c H locs 0 0 (MQ below (zQi G out.1 out.2) args s 0 0 (zA G)) (F0 m 22 ls []) := by
  unfold f_X8_undo_22_body at hf
  refine lv_iload_n Z.x Z.b dX8_undo_22 rfl (lv_at hl 1 rfl) ?_
  refine lv_sipush (v := 1093) Z.x Z.b dX8_undo_23 (by decide) ?_
  refine lv_icmp_ge (tgt := 56) Z.x Z.b dX8_undo_26 (by decide) (fun c => ?_) (fun c => ?_)
  · have hf := zit hf c
    refine lv_aload_n Z.x Z.b dX8_undo_56 rfl (lv_at hl 0 rfl) ?_
    refine z_getI Z E q_X8_34 dX8_undo_57 hf (fun v1 hf => ?_)
    exact z_iret Z E hr dX8_undo_60 hf
  · have hf := zif_ hf c
    refine lv_aload_n Z.x Z.b dX8_undo_29 rfl (lv_at hl 0 rfl) ?_
    refine z_getR Z E q_X8_7 dX8_undo_30 hf (fun v2 hf => ?_)
    refine lv_iload_n Z.x Z.b dX8_undo_33 rfl (lv_at hl 1 rfl) ?_
    refine lv_aload_n Z.x Z.b dX8_undo_34 rfl (lv_at hl 0 rfl) ?_
    refine z_getR Z E q_X8_19 dX8_undo_35 hf (fun v3 hf => ?_)
    refine lv_sipush (v := 1093) Z.x Z.b dX8_undo_38 (by decide) ?_
    refine lv_aload_n Z.x Z.b dX8_undo_41 rfl (lv_at hl 0 rfl) ?_
    refine z_getI Z E q_X8_34 dX8_undo_42 hf (fun v4 hf => ?_)
    refine lv_imul Z.x Z.b dX8_undo_45 ?_
    refine lv_iload_n Z.x Z.b dX8_undo_46 rfl (lv_at hl 1 rfl) ?_
    refine lv_iadd Z.x Z.b dX8_undo_47 ?_
    refine z_iald Z E dX8_undo_48 hf (fun v5 hf => ?_)
    refine z_iast Z E dX8_undo_49 hf (fun h6 H locs hf E => ?_)
    refine lv_iinc (v := (a1 + 1)) (lv' := [(1, .int (a1 + 1)), (0, .ref a0)]) Z.x Z.b dX8_undo_50 hl (k := 1) rfl rfl (by decide) rfl (fun ls hl => ?_)
    refine lv_goto (tgt := 22) Z.x Z.b dX8_undo_53 (by decide) ?_
    exact k22 hf E (lv_sub hl [1, 0] rfl)
theorem t_X8_undo_22 {p : Program} {l : Launch} {e : Env} {s : State} {m : MethodId} {args : Array Value} {below : List Frame} {meth : Method} {c : Code} {G : zG} (Z : zF p s m args c meth cX8_undo 2 RX8 G) (hr : meth.sig.returnType = (some .int)) {out : Int32 × zHp} : ∀ (n : Nat), ∀ {a0 : Nat} {a1 : Int32} {h : zHp} {H : Heap} {locs : List Loc} {ls : Array Slot}, f_X8_undo_22 n a0 a1 h = some out → zE G s h H locs → lv_has ls 2 [(0, .ref a0), (1, .int a1)] → W p l e rm_X8_undo s m args below meth c H locs 0 0 (MQ below (zQi G out.1 out.2) args s 0 0 (zA G)) (F0 m 22 ls [])
  | 0 => fun hf => by cases hf
  | n + 1 => fun hf E hl => t_X8_undo_22_body Z hr (r22 := f_X8_undo_22 n) (t_X8_undo_22 Z hr n) hf E hl
set_option maxHeartbeats 4000000 in
set_option maxRecDepth 20000 in
theorem t_X8_undo {p : Program} {l : Launch} {e : Env} {s : State} {m : MethodId} {args : Array Value} {below : List Frame} {meth : Method} {c : Code} {G : zG} (Z : zF p s m args c meth cX8_undo 2 RX8 G) (hr : meth.sig.returnType = (some .int)) {out : Int32 × zHp} {a0 : Nat} {h : zHp} {H : Heap} {locs : List Loc} {ls : Array Slot} (hf : f_X8_undo a0 h = some out) (E : zE G s h H locs) (hl : lv_has ls 2 [(0, .ref a0)]) : W p l e rm_X8_undo s m args below meth c H locs 0 0 (MQ below (zQi G out.1 out.2) args s 0 0 (zA G)) (F0 m 0 ls []) := by
  unfold f_X8_undo at hf
  refine lv_aload_n Z.x Z.b dX8_undo_0 rfl (lv_at hl 0 rfl) ?_
  refine z_getI Z E q_X8_34 dX8_undo_1 hf (fun v1 hf => ?_)
  refine lv_if_ne (tgt := 10) Z.x Z.b dX8_undo_4 (by decide) (fun c => ?_) (fun c => ?_)
  · have hf := zif_ hf c
    refine lv_aload_n Z.x Z.b dX8_undo_10 rfl (lv_at hl 0 rfl) ?_
    refine lv_dup Z.x Z.b dX8_undo_11 rfl ?_
    refine z_getI Z E q_X8_34 dX8_undo_12 hf (fun v2 hf => ?_)
    refine lv_iconst (v := 1) Z.x Z.b dX8_undo_15 (by decide) ?_
    refine lv_isub Z.x Z.b dX8_undo_16 ?_
    refine z_put Z E p_X8_34 rfl rfl dX8_undo_17 hf (fun h3 H locs hf E => ?_)
    refine lv_iconst (v := 0) Z.x Z.b dX8_undo_20 (by decide) ?_
    refine lv_istore_n (lv' := [(1, .int 0), (0, .ref a0)]) Z.x Z.b dX8_undo_21 rfl hl (by decide) rfl (fun ls hl => ?_)
    exact t_X8_undo_22 Z hr zN hf E (lv_sub hl [1, 0] rfl)
  · have hf := zit hf c
    refine lv_bipush (v := (-5)) Z.x Z.b dX8_undo_7 (by decide) ?_
    exact z_iret Z E hr dX8_undo_9 hf
set_option maxHeartbeats 4000000 in
set_option maxRecDepth 20000 in
theorem c_X8_undo (l : Launch) (G : zG) (h : zHp) (h' : zHp) (a0 : Nat) (r : Int32) (hf : f_X8_undo a0 h = some (r, h')) : zM0 l yX8_undo cX8_undo 2 (some .int) rm_X8_undo G [.ref a0] h (zQi G r h') := by
  refine Met.ofW (cc := cX8_undo) (maxL := 2) (ret := (some .int)) (by decide) rfl ?_
  intro p e s m args below meth c s₁ B hml hv
  obtain ⟨rfl, hW⟩ := hv
  obtain ⟨Z, E, hr⟩ := zEnter (own := RX8) B hml rfl hW
  have hl := lv_entry ([.ref a0]) (n := 2) (Nat.le_of_ble_eq_true rfl)
  rw [lg_entry_eq]
  generalize (lg_sl ([.ref a0]) ++ List.replicate (2 - (lg_sl ([.ref a0])).length) Slot.unset).toArray = ls at hl ⊢
  have hl : lv_has ls 2 [(0, .ref a0)] := hl
  exact t_X8_undo (out := (r, h')) Z hr hf E hl
/-! FerryCrewsModel.keep()I -/
theorem dX8_keep_0 : decode cX8_keep 0 = .ok (.iconst 0, 1) := by decide +kernel
theorem dX8_keep_1 : decode cX8_keep 1 = .ok (.istore_n 1, 1) := by decide +kernel
theorem dX8_keep_2 : decode cX8_keep 2 = .ok (.iload_n 1, 1) := by decide +kernel
theorem dX8_keep_3 : decode cX8_keep 3 = .ok (.sipush 1093, 3) := by decide +kernel
theorem dX8_keep_6 : decode cX8_keep 6 = .ok (.if_icmp .ge 21, 3) := by decide +kernel
theorem dX8_keep_9 : decode cX8_keep 9 = .ok (.aload_n 0, 1) := by decide +kernel
theorem dX8_keep_10 : decode cX8_keep 10 = .ok (.getfield 13, 3) := by decide +kernel
theorem dX8_keep_13 : decode cX8_keep 13 = .ok (.iload_n 1, 1) := by decide +kernel
theorem dX8_keep_14 : decode cX8_keep 14 = .ok (.aload_n 0, 1) := by decide +kernel
theorem dX8_keep_15 : decode cX8_keep 15 = .ok (.getfield 7, 3) := by decide +kernel
theorem dX8_keep_18 : decode cX8_keep 18 = .ok (.iload_n 1, 1) := by decide +kernel
theorem dX8_keep_19 : decode cX8_keep 19 = .ok (.iaload, 1) := by decide +kernel
theorem dX8_keep_20 : decode cX8_keep 20 = .ok (.iastore, 1) := by decide +kernel
theorem dX8_keep_21 : decode cX8_keep 21 = .ok (.iinc 1 1, 3) := by decide +kernel
theorem dX8_keep_24 : decode cX8_keep 24 = .ok (.goto (-22), 3) := by decide +kernel
theorem dX8_keep_27 : decode cX8_keep 27 = .ok (.aload_n 0, 1) := by decide +kernel
theorem dX8_keep_28 : decode cX8_keep 28 = .ok (.iconst 1, 1) := by decide +kernel
theorem dX8_keep_29 : decode cX8_keep 29 = .ok (.putfield 194, 3) := by decide +kernel
theorem dX8_keep_32 : decode cX8_keep 32 = .ok (.aload_n 0, 1) := by decide +kernel
theorem dX8_keep_33 : decode cX8_keep 33 = .ok (.getfield 7, 3) := by decide +kernel
theorem dX8_keep_36 : decode cX8_keep 36 = .ok (.iconst 0, 1) := by decide +kernel
theorem dX8_keep_37 : decode cX8_keep 37 = .ok (.iaload, 1) := by decide +kernel
theorem dX8_keep_38 : decode cX8_keep 38 = .ok (.ireturn, 1) := by decide +kernel
set_option maxRecDepth 20000 in
theorem wf_X8_194 : Cond.fieldLink RX8 194 RX8 "isFilled" "Z" ∈ zB := List.mem_filter.mpr ⟨List.mem_of_getElem? (i := 810) (by decide +kernel), by decide +kernel⟩
theorem p_X8_194 : zPut RX8 194 8 11 false .boolean := ⟨RX8, TX8, 12, tyX8, rfl, by decide, iX8, wf_X8_194, rfl, tyX8_ok, nmX8, rfl, by decide +kernel, fun _ => rfl⟩
theorem q_X8_13 : zFld RX8 13 8 1 := ⟨RX8, TX8, 12, rfl, by decide, iX8, wf_X8_13, rfl⟩
def rm_X8_keep : Room := { frames := 0, cells := 0, slots := 0, locals := 0 }
set_option maxHeartbeats 4000000 in
set_option maxRecDepth 20000 in
theorem t_X8_keep_2_body {p : Program} {l : Launch} {e : Env} {s : State} {m : MethodId} {args : Array Value} {below : List Frame} {meth : Method} {c : Code} {G : zG} (Z : zF p s m args c meth cX8_keep 2 RX8 G) (hr : meth.sig.returnType = (some .int)) {out : Int32 × zHp} {r2 : Nat → Int32 → zHp → Option (Int32 × zHp)} (k2 : ∀ {a0 : Nat} {a1 : Int32} {h : zHp} {H : Heap} {locs : List Loc} {ls : Array Slot}, r2 a0 a1 h = some out → zE G s h H locs → lv_has ls 2 [(0, .ref a0), (1, .int a1)] → W p l e rm_X8_keep s m args below meth c H locs 0 0 (MQ below (zQi G out.1 out.2) args s 0 0 (zA G)) (F0 m 2 ls [])) {a0 : Nat} {a1 : Int32} {h : zHp} {H : Heap} {locs : List Loc} {ls : Array Slot} (hf : f_X8_keep_2_body r2 a0 a1 h = some out) (E : zE G s h H locs) (hl : lv_has ls 2 [(0, .ref a0), (1, .int a1)]) : W p l e rm_X8_keep s m args below meth c H locs 0 0 (MQ below (zQi G out.1 out.2) args s 0 0 (zA G)) (F0 m 2 ls []) := by
  unfold f_X8_keep_2_body at hf
  refine lv_iload_n Z.x Z.b dX8_keep_2 rfl (lv_at hl 1 rfl) ?_
  refine lv_sipush (v := 1093) Z.x Z.b dX8_keep_3 (by decide) ?_
  refine lv_icmp_ge (tgt := 27) Z.x Z.b dX8_keep_6 (by decide) (fun c => ?_) (fun c => ?_)
  · have hf := zit hf c
    refine lv_aload_n Z.x Z.b dX8_keep_27 rfl (lv_at hl 0 rfl) ?_
    refine lv_iconst (v := 1) Z.x Z.b dX8_keep_28 (by decide) ?_
    refine z_put Z E p_X8_194 rfl rfl dX8_keep_29 hf (fun h1 H locs hf E => ?_)
    refine lv_aload_n Z.x Z.b dX8_keep_32 rfl (lv_at hl 0 rfl) ?_
    refine z_getR Z E q_X8_7 dX8_keep_33 hf (fun v2 hf => ?_)
    refine lv_iconst (v := 0) Z.x Z.b dX8_keep_36 (by decide) ?_
    refine z_iald Z E dX8_keep_37 hf (fun v3 hf => ?_)
    exact z_iret Z E hr dX8_keep_38 hf
  · have hf := zif_ hf c
    refine lv_aload_n Z.x Z.b dX8_keep_9 rfl (lv_at hl 0 rfl) ?_
    refine z_getR Z E q_X8_13 dX8_keep_10 hf (fun v4 hf => ?_)
    refine lv_iload_n Z.x Z.b dX8_keep_13 rfl (lv_at hl 1 rfl) ?_
    refine lv_aload_n Z.x Z.b dX8_keep_14 rfl (lv_at hl 0 rfl) ?_
    refine z_getR Z E q_X8_7 dX8_keep_15 hf (fun v5 hf => ?_)
    refine lv_iload_n Z.x Z.b dX8_keep_18 rfl (lv_at hl 1 rfl) ?_
    refine z_iald Z E dX8_keep_19 hf (fun v6 hf => ?_)
    refine z_iast Z E dX8_keep_20 hf (fun h7 H locs hf E => ?_)
    refine lv_iinc (v := (a1 + 1)) (lv' := [(1, .int (a1 + 1)), (0, .ref a0)]) Z.x Z.b dX8_keep_21 hl (k := 1) rfl rfl (by decide) rfl (fun ls hl => ?_)
    refine lv_goto (tgt := 2) Z.x Z.b dX8_keep_24 (by decide) ?_
    exact k2 hf E (lv_sub hl [1, 0] rfl)
theorem t_X8_keep_2 {p : Program} {l : Launch} {e : Env} {s : State} {m : MethodId} {args : Array Value} {below : List Frame} {meth : Method} {c : Code} {G : zG} (Z : zF p s m args c meth cX8_keep 2 RX8 G) (hr : meth.sig.returnType = (some .int)) {out : Int32 × zHp} : ∀ (n : Nat), ∀ {a0 : Nat} {a1 : Int32} {h : zHp} {H : Heap} {locs : List Loc} {ls : Array Slot}, f_X8_keep_2 n a0 a1 h = some out → zE G s h H locs → lv_has ls 2 [(0, .ref a0), (1, .int a1)] → W p l e rm_X8_keep s m args below meth c H locs 0 0 (MQ below (zQi G out.1 out.2) args s 0 0 (zA G)) (F0 m 2 ls [])
  | 0 => fun hf => by cases hf
  | n + 1 => fun hf E hl => t_X8_keep_2_body Z hr (r2 := f_X8_keep_2 n) (t_X8_keep_2 Z hr n) hf E hl
set_option maxHeartbeats 4000000 in
set_option maxRecDepth 20000 in
theorem t_X8_keep {p : Program} {l : Launch} {e : Env} {s : State} {m : MethodId} {args : Array Value} {below : List Frame} {meth : Method} {c : Code} {G : zG} (Z : zF p s m args c meth cX8_keep 2 RX8 G) (hr : meth.sig.returnType = (some .int)) {out : Int32 × zHp} {a0 : Nat} {h : zHp} {H : Heap} {locs : List Loc} {ls : Array Slot} (hf : f_X8_keep a0 h = some out) (E : zE G s h H locs) (hl : lv_has ls 2 [(0, .ref a0)]) : W p l e rm_X8_keep s m args below meth c H locs 0 0 (MQ below (zQi G out.1 out.2) args s 0 0 (zA G)) (F0 m 0 ls []) := by
  unfold f_X8_keep at hf
  refine lv_iconst (v := 0) Z.x Z.b dX8_keep_0 (by decide) ?_
  refine lv_istore_n (lv' := [(1, .int 0), (0, .ref a0)]) Z.x Z.b dX8_keep_1 rfl hl (by decide) rfl (fun ls hl => ?_)
  exact t_X8_keep_2 Z hr zN hf E (lv_sub hl [1, 0] rfl)
set_option maxHeartbeats 4000000 in
set_option maxRecDepth 20000 in
theorem c_X8_keep (l : Launch) (G : zG) (h : zHp) (h' : zHp) (a0 : Nat) (r : Int32) (hf : f_X8_keep a0 h = some (r, h')) : zM0 l yX8_keep cX8_keep 2 (some .int) rm_X8_keep G [.ref a0] h (zQi G r h') := by
  refine Met.ofW (cc := cX8_keep) (maxL := 2) (ret := (some .int)) (by decide) rfl ?_
  intro p e s m args below meth c s₁ B hml hv
  obtain ⟨rfl, hW⟩ := hv
  obtain ⟨Z, E, hr⟩ := zEnter (own := RX8) B hml rfl hW
  have hl := lv_entry ([.ref a0]) (n := 2) (Nat.le_of_ble_eq_true rfl)
  rw [lg_entry_eq]
  generalize (lg_sl ([.ref a0]) ++ List.replicate (2 - (lg_sl ([.ref a0])).length) Slot.unset).toArray = ls at hl ⊢
  have hl : lv_has ls 2 [(0, .ref a0)] := hl
  exact t_X8_keep (out := (r, h')) Z hr hf E hl
/-! FerryCrewsModel.restore()I -/
theorem dX8_restore_0 : decode cX8_restore 0 = .ok (.aload_n 0, 1) := by decide +kernel
theorem dX8_restore_1 : decode cX8_restore 1 = .ok (.getfield 194, 3) := by decide +kernel
theorem dX8_restore_4 : decode cX8_restore 4 = .ok (.ifCond .ne 6, 3) := by decide +kernel
theorem dX8_restore_7 : decode cX8_restore 7 = .ok (.bipush (-5), 2) := by decide +kernel
theorem dX8_restore_9 : decode cX8_restore 9 = .ok (.ireturn, 1) := by decide +kernel
theorem dX8_restore_10 : decode cX8_restore 10 = .ok (.aload_n 0, 1) := by decide +kernel
theorem dX8_restore_11 : decode cX8_restore 11 = .ok (.invokevirtual 132, 3) := by decide +kernel
theorem dX8_restore_14 : decode cX8_restore 14 = .ok (.iconst 0, 1) := by decide +kernel
theorem dX8_restore_15 : decode cX8_restore 15 = .ok (.istore_n 1, 1) := by decide +kernel
theorem dX8_restore_16 : decode cX8_restore 16 = .ok (.iload_n 1, 1) := by decide +kernel
theorem dX8_restore_17 : decode cX8_restore 17 = .ok (.sipush 1093, 3) := by decide +kernel
theorem dX8_restore_20 : decode cX8_restore 20 = .ok (.if_icmp .ge 21, 3) := by decide +kernel
theorem dX8_restore_23 : decode cX8_restore 23 = .ok (.aload_n 0, 1) := by decide +kernel
theorem dX8_restore_24 : decode cX8_restore 24 = .ok (.getfield 7, 3) := by decide +kernel
theorem dX8_restore_27 : decode cX8_restore 27 = .ok (.iload_n 1, 1) := by decide +kernel
theorem dX8_restore_28 : decode cX8_restore 28 = .ok (.aload_n 0, 1) := by decide +kernel
theorem dX8_restore_29 : decode cX8_restore 29 = .ok (.getfield 13, 3) := by decide +kernel
theorem dX8_restore_32 : decode cX8_restore 32 = .ok (.iload_n 1, 1) := by decide +kernel
theorem dX8_restore_33 : decode cX8_restore 33 = .ok (.iaload, 1) := by decide +kernel
theorem dX8_restore_34 : decode cX8_restore 34 = .ok (.iastore, 1) := by decide +kernel
theorem dX8_restore_35 : decode cX8_restore 35 = .ok (.iinc 1 1, 3) := by decide +kernel
theorem dX8_restore_38 : decode cX8_restore 38 = .ok (.goto (-22), 3) := by decide +kernel
theorem dX8_restore_41 : decode cX8_restore 41 = .ok (.aload_n 0, 1) := by decide +kernel
theorem dX8_restore_42 : decode cX8_restore 42 = .ok (.getfield 7, 3) := by decide +kernel
theorem dX8_restore_45 : decode cX8_restore 45 = .ok (.iconst 0, 1) := by decide +kernel
theorem dX8_restore_46 : decode cX8_restore 46 = .ok (.iaload, 1) := by decide +kernel
theorem dX8_restore_47 : decode cX8_restore 47 = .ok (.ireturn, 1) := by decide +kernel
theorem q_X8_194 : zFld RX8 194 8 11 := ⟨RX8, TX8, 12, rfl, by decide, iX8, wf_X8_194, rfl⟩
def rm_X8_restore : Room := { frames := 1, cells := 0, slots := 0, locals := 21 }
set_option maxHeartbeats 4000000 in
set_option maxRecDepth 20000 in
theorem t_X8_restore_16_body {p : Program} {l : Launch} {e : Env} {s : State} {m : MethodId} {args : Array Value} {below : List Frame} {meth : Method} {c : Code} {G : zG} (Z : zF p s m args c meth cX8_restore 2 RX8 G) (hr : meth.sig.returnType = (some .int)) {out : Int32 × zHp} {r16 : Nat → Int32 → zHp → Option (Int32 × zHp)} (k16 : ∀ {a0 : Nat} {a1 : Int32} {h : zHp} {H : Heap} {locs : List Loc} {ls : Array Slot}, r16 a0 a1 h = some out → zE G s h H locs → lv_has ls 2 [(0, .ref a0), (1, .int a1)] → W p l e rm_X8_restore s m args below meth c H locs 0 0 (MQ below (zQi G out.1 out.2) args s 0 0 (zA G)) (F0 m 16 ls [])) {a0 : Nat} {a1 : Int32} {h : zHp} {H : Heap} {locs : List Loc} {ls : Array Slot} (hf : f_X8_restore_16_body r16 a0 a1 h = some out) (E : zE G s h H locs) (hl : lv_has ls 2 [(0, .ref a0), (1, .int a1)]) : W p l e rm_X8_restore s m args below meth c H locs 0 0 (MQ below (zQi G out.1 out.2) args s 0 0 (zA G)) (F0 m 16 ls []) := by
  unfold f_X8_restore_16_body at hf
  refine lv_iload_n Z.x Z.b dX8_restore_16 rfl (lv_at hl 1 rfl) ?_
  refine lv_sipush (v := 1093) Z.x Z.b dX8_restore_17 (by decide) ?_
  refine lv_icmp_ge (tgt := 41) Z.x Z.b dX8_restore_20 (by decide) (fun c => ?_) (fun c => ?_)
  · have hf := zit hf c
    refine lv_aload_n Z.x Z.b dX8_restore_41 rfl (lv_at hl 0 rfl) ?_
    refine z_getR Z E q_X8_7 dX8_restore_42 hf (fun v1 hf => ?_)
    refine lv_iconst (v := 0) Z.x Z.b dX8_restore_45 (by decide) ?_
    refine z_iald Z E dX8_restore_46 hf (fun v2 hf => ?_)
    exact z_iret Z E hr dX8_restore_47 hf
  · have hf := zif_ hf c
    refine lv_aload_n Z.x Z.b dX8_restore_23 rfl (lv_at hl 0 rfl) ?_
    refine z_getR Z E q_X8_7 dX8_restore_24 hf (fun v3 hf => ?_)
    refine lv_iload_n Z.x Z.b dX8_restore_27 rfl (lv_at hl 1 rfl) ?_
    refine lv_aload_n Z.x Z.b dX8_restore_28 rfl (lv_at hl 0 rfl) ?_
    refine z_getR Z E q_X8_13 dX8_restore_29 hf (fun v4 hf => ?_)
    refine lv_iload_n Z.x Z.b dX8_restore_32 rfl (lv_at hl 1 rfl) ?_
    refine z_iald Z E dX8_restore_33 hf (fun v5 hf => ?_)
    refine z_iast Z E dX8_restore_34 hf (fun h6 H locs hf E => ?_)
    refine lv_iinc (v := (a1 + 1)) (lv' := [(1, .int (a1 + 1)), (0, .ref a0)]) Z.x Z.b dX8_restore_35 hl (k := 1) rfl rfl (by decide) rfl (fun ls hl => ?_)
    refine lv_goto (tgt := 16) Z.x Z.b dX8_restore_38 (by decide) ?_
    exact k16 hf E (lv_sub hl [1, 0] rfl)
theorem t_X8_restore_16 {p : Program} {l : Launch} {e : Env} {s : State} {m : MethodId} {args : Array Value} {below : List Frame} {meth : Method} {c : Code} {G : zG} (Z : zF p s m args c meth cX8_restore 2 RX8 G) (hr : meth.sig.returnType = (some .int)) {out : Int32 × zHp} : ∀ (n : Nat), ∀ {a0 : Nat} {a1 : Int32} {h : zHp} {H : Heap} {locs : List Loc} {ls : Array Slot}, f_X8_restore_16 n a0 a1 h = some out → zE G s h H locs → lv_has ls 2 [(0, .ref a0), (1, .int a1)] → W p l e rm_X8_restore s m args below meth c H locs 0 0 (MQ below (zQi G out.1 out.2) args s 0 0 (zA G)) (F0 m 16 ls [])
  | 0 => fun hf => by cases hf
  | n + 1 => fun hf E hl => t_X8_restore_16_body Z hr (r16 := f_X8_restore_16 n) (t_X8_restore_16 Z hr n) hf E hl
set_option maxHeartbeats 4000000 in
set_option maxRecDepth 20000 in
theorem t_X8_restore {p : Program} {l : Launch} {e : Env} {s : State} {m : MethodId} {args : Array Value} {below : List Frame} {meth : Method} {c : Code} {G : zG} (Z : zF p s m args c meth cX8_restore 2 RX8 G) (hr : meth.sig.returnType = (some .int)) {out : Int32 × zHp} {a0 : Nat} {h : zHp} {H : Heap} {locs : List Loc} {ls : Array Slot} (hf : f_X8_restore a0 h = some out) (E : zE G s h H locs) (hl : lv_has ls 2 [(0, .ref a0)]) : W p l e rm_X8_restore s m args below meth c H locs 0 0 (MQ below (zQi G out.1 out.2) args s 0 0 (zA G)) (F0 m 0 ls []) := by
  unfold f_X8_restore at hf
  refine lv_aload_n Z.x Z.b dX8_restore_0 rfl (lv_at hl 0 rfl) ?_
  refine z_getI Z E q_X8_194 dX8_restore_1 hf (fun v1 hf => ?_)
  refine lv_if_ne (tgt := 10) Z.x Z.b dX8_restore_4 (by decide) (fun c => ?_) (fun c => ?_)
  · have hf := zif_ hf c
    refine lv_aload_n Z.x Z.b dX8_restore_10 rfl (lv_at hl 0 rfl) ?_
    refine z_Vv (As := []) Z E hl.1 k_X8_132 v_X8_record hf (fun h' e => c_X8_record l G h h' a0 e) rfl rfl (Nat.le_of_ble_eq_true rfl) (zRm_of rfl (Nat.zero_le _) (Nat.zero_le _)) dX8_restore_11 (fun h2 H locs hf E => ?_)
    refine lv_iconst (v := 0) Z.x Z.b dX8_restore_14 (by decide) ?_
    refine lv_istore_n (lv' := [(1, .int 0), (0, .ref a0)]) Z.x Z.b dX8_restore_15 rfl hl (by decide) rfl (fun ls hl => ?_)
    exact t_X8_restore_16 Z hr zN hf E (lv_sub hl [1, 0] rfl)
  · have hf := zit hf c
    refine lv_bipush (v := (-5)) Z.x Z.b dX8_restore_7 (by decide) ?_
    exact z_iret Z E hr dX8_restore_9 hf
set_option maxHeartbeats 4000000 in
set_option maxRecDepth 20000 in
theorem c_X8_restore (l : Launch) (G : zG) (h : zHp) (h' : zHp) (a0 : Nat) (r : Int32) (hf : f_X8_restore a0 h = some (r, h')) : zM0 l yX8_restore cX8_restore 2 (some .int) rm_X8_restore G [.ref a0] h (zQi G r h') := by
  refine Met.ofW (cc := cX8_restore) (maxL := 2) (ret := (some .int)) (by decide) rfl ?_
  intro p e s m args below meth c s₁ B hml hv
  obtain ⟨rfl, hW⟩ := hv
  obtain ⟨Z, E, hr⟩ := zEnter (own := RX8) B hml rfl hW
  have hl := lv_entry ([.ref a0]) (n := 2) (Nat.le_of_ble_eq_true rfl)
  rw [lg_entry_eq]
  generalize (lg_sl ([.ref a0]) ++ List.replicate (2 - (lg_sl ([.ref a0])).length) Slot.unset).toArray = ls at hl ⊢
  have hl : lv_has ls 2 [(0, .ref a0)] := hl
  exact t_X8_restore (out := (r, h')) Z hr hf E hl
/-! FerryCrewsModel.sailingOf(II)I -/
theorem dX8_sailingOf_0 : decode cX8_sailingOf 0 = .ok (.aload_n 0, 1) := by decide +kernel
theorem dX8_sailingOf_1 : decode cX8_sailingOf 1 = .ok (.iload_n 1, 1) := by decide +kernel
theorem dX8_sailingOf_2 : decode cX8_sailingOf 2 = .ok (.invokevirtual 154, 3) := by decide +kernel
theorem dX8_sailingOf_5 : decode cX8_sailingOf 5 = .ok (.ifCond .ne 5, 3) := by decide +kernel
theorem dX8_sailingOf_8 : decode cX8_sailingOf 8 = .ok (.iconst (-1), 1) := by decide +kernel
theorem dX8_sailingOf_9 : decode cX8_sailingOf 9 = .ok (.ireturn, 1) := by decide +kernel
theorem dX8_sailingOf_10 : decode cX8_sailingOf 10 = .ok (.iload_n 2, 1) := by decide +kernel
theorem dX8_sailingOf_11 : decode cX8_sailingOf 11 = .ok (.tableswitch 120 0 6 #[41, 48, 55, 62, 68, 108, 114], 41) := by decide +kernel
theorem dX8_sailingOf_52 : decode cX8_sailingOf 52 = .ok (.aload_n 0, 1) := by decide +kernel
theorem dX8_sailingOf_53 : decode cX8_sailingOf 53 = .ok (.iload_n 1, 1) := by decide +kernel
theorem dX8_sailingOf_54 : decode cX8_sailingOf 54 = .ok (.iconst 0, 1) := by decide +kernel
theorem dX8_sailingOf_55 : decode cX8_sailingOf 55 = .ok (.invokevirtual 38, 3) := by decide +kernel
theorem dX8_sailingOf_58 : decode cX8_sailingOf 58 = .ok (.ireturn, 1) := by decide +kernel
theorem dX8_sailingOf_59 : decode cX8_sailingOf 59 = .ok (.aload_n 0, 1) := by decide +kernel
theorem dX8_sailingOf_60 : decode cX8_sailingOf 60 = .ok (.iload_n 1, 1) := by decide +kernel
theorem dX8_sailingOf_61 : decode cX8_sailingOf 61 = .ok (.iconst 1, 1) := by decide +kernel
theorem dX8_sailingOf_62 : decode cX8_sailingOf 62 = .ok (.invokevirtual 38, 3) := by decide +kernel
theorem dX8_sailingOf_65 : decode cX8_sailingOf 65 = .ok (.ireturn, 1) := by decide +kernel
theorem dX8_sailingOf_66 : decode cX8_sailingOf 66 = .ok (.aload_n 0, 1) := by decide +kernel
theorem dX8_sailingOf_67 : decode cX8_sailingOf 67 = .ok (.iload_n 1, 1) := by decide +kernel
theorem dX8_sailingOf_68 : decode cX8_sailingOf 68 = .ok (.iconst 2, 1) := by decide +kernel
theorem dX8_sailingOf_69 : decode cX8_sailingOf 69 = .ok (.invokevirtual 38, 3) := by decide +kernel
theorem dX8_sailingOf_72 : decode cX8_sailingOf 72 = .ok (.ireturn, 1) := by decide +kernel
theorem dX8_sailingOf_73 : decode cX8_sailingOf 73 = .ok (.aload_n 0, 1) := by decide +kernel
theorem dX8_sailingOf_74 : decode cX8_sailingOf 74 = .ok (.iload_n 1, 1) := by decide +kernel
theorem dX8_sailingOf_75 : decode cX8_sailingOf 75 = .ok (.invokevirtual 69, 3) := by decide +kernel
theorem dX8_sailingOf_78 : decode cX8_sailingOf 78 = .ok (.ireturn, 1) := by decide +kernel
theorem dX8_sailingOf_79 : decode cX8_sailingOf 79 = .ok (.sipush 1000, 3) := by decide +kernel
theorem dX8_sailingOf_82 : decode cX8_sailingOf 82 = .ok (.aload_n 0, 1) := by decide +kernel
theorem dX8_sailingOf_83 : decode cX8_sailingOf 83 = .ok (.iload_n 1, 1) := by decide +kernel
theorem dX8_sailingOf_84 : decode cX8_sailingOf 84 = .ok (.iconst 4, 1) := by decide +kernel
theorem dX8_sailingOf_85 : decode cX8_sailingOf 85 = .ok (.invokevirtual 38, 3) := by decide +kernel
theorem dX8_sailingOf_88 : decode cX8_sailingOf 88 = .ok (.imul, 1) := by decide +kernel
theorem dX8_sailingOf_89 : decode cX8_sailingOf 89 = .ok (.bipush 100, 2) := by decide +kernel
theorem dX8_sailingOf_91 : decode cX8_sailingOf 91 = .ok (.aload_n 0, 1) := by decide +kernel
theorem dX8_sailingOf_92 : decode cX8_sailingOf 92 = .ok (.iload_n 1, 1) := by decide +kernel
theorem dX8_sailingOf_93 : decode cX8_sailingOf 93 = .ok (.iconst 5, 1) := by decide +kernel
theorem dX8_sailingOf_94 : decode cX8_sailingOf 94 = .ok (.invokevirtual 38, 3) := by decide +kernel
theorem dX8_sailingOf_97 : decode cX8_sailingOf 97 = .ok (.imul, 1) := by decide +kernel
theorem dX8_sailingOf_98 : decode cX8_sailingOf 98 = .ok (.iadd, 1) := by decide +kernel
theorem dX8_sailingOf_99 : decode cX8_sailingOf 99 = .ok (.bipush 10, 2) := by decide +kernel
theorem dX8_sailingOf_101 : decode cX8_sailingOf 101 = .ok (.aload_n 0, 1) := by decide +kernel
theorem dX8_sailingOf_102 : decode cX8_sailingOf 102 = .ok (.iload_n 1, 1) := by decide +kernel
theorem dX8_sailingOf_103 : decode cX8_sailingOf 103 = .ok (.bipush 6, 2) := by decide +kernel
theorem dX8_sailingOf_105 : decode cX8_sailingOf 105 = .ok (.invokevirtual 38, 3) := by decide +kernel
theorem dX8_sailingOf_108 : decode cX8_sailingOf 108 = .ok (.imul, 1) := by decide +kernel
theorem dX8_sailingOf_109 : decode cX8_sailingOf 109 = .ok (.iadd, 1) := by decide +kernel
theorem dX8_sailingOf_110 : decode cX8_sailingOf 110 = .ok (.aload_n 0, 1) := by decide +kernel
theorem dX8_sailingOf_111 : decode cX8_sailingOf 111 = .ok (.iload_n 1, 1) := by decide +kernel
theorem dX8_sailingOf_112 : decode cX8_sailingOf 112 = .ok (.bipush 7, 2) := by decide +kernel
theorem dX8_sailingOf_114 : decode cX8_sailingOf 114 = .ok (.invokevirtual 38, 3) := by decide +kernel
theorem dX8_sailingOf_117 : decode cX8_sailingOf 117 = .ok (.iadd, 1) := by decide +kernel
theorem dX8_sailingOf_118 : decode cX8_sailingOf 118 = .ok (.ireturn, 1) := by decide +kernel
theorem dX8_sailingOf_119 : decode cX8_sailingOf 119 = .ok (.aload_n 0, 1) := by decide +kernel
theorem dX8_sailingOf_120 : decode cX8_sailingOf 120 = .ok (.iload_n 1, 1) := by decide +kernel
theorem dX8_sailingOf_121 : decode cX8_sailingOf 121 = .ok (.invokevirtual 52, 3) := by decide +kernel
theorem dX8_sailingOf_124 : decode cX8_sailingOf 124 = .ok (.ireturn, 1) := by decide +kernel
theorem dX8_sailingOf_125 : decode cX8_sailingOf 125 = .ok (.aload_n 0, 1) := by decide +kernel
theorem dX8_sailingOf_126 : decode cX8_sailingOf 126 = .ok (.iload_n 1, 1) := by decide +kernel
theorem dX8_sailingOf_127 : decode cX8_sailingOf 127 = .ok (.invokevirtual 116, 3) := by decide +kernel
theorem dX8_sailingOf_130 : decode cX8_sailingOf 130 = .ok (.ireturn, 1) := by decide +kernel
theorem dX8_sailingOf_131 : decode cX8_sailingOf 131 = .ok (.bipush (-2), 2) := by decide +kernel
theorem dX8_sailingOf_133 : decode cX8_sailingOf 133 = .ok (.ireturn, 1) := by decide +kernel
def rm_X8_sailingOf : Room := { frames := 4, cells := 0, slots := 0, locals := 88 }
set_option maxHeartbeats 4000000 in
set_option maxRecDepth 20000 in
theorem t_X8_sailingOf {p : Program} {l : Launch} {e : Env} {s : State} {m : MethodId} {args : Array Value} {below : List Frame} {meth : Method} {c : Code} {G : zG} (Z : zF p s m args c meth cX8_sailingOf 3 RX8 G) (hr : meth.sig.returnType = (some .int)) {out : Int32 × zHp} {a0 : Nat} {a1 : Int32} {a2 : Int32} {h : zHp} {H : Heap} {locs : List Loc} {ls : Array Slot} (hf : f_X8_sailingOf a0 a1 a2 h = some out) (E : zE G s h H locs) (hl : lv_has ls 3 [(0, .ref a0), (1, .int a1), (2, .int a2)]) : W p l e rm_X8_sailingOf s m args below meth c H locs 0 0 (MQ below (zQi G out.1 out.2) args s 0 0 (zA G)) (F0 m 0 ls []) := by
  unfold f_X8_sailingOf at hf
  refine lv_aload_n Z.x Z.b dX8_sailingOf_0 rfl (lv_at hl 0 rfl) ?_
  refine lv_iload_n Z.x Z.b dX8_sailingOf_1 rfl (lv_at hl 1 rfl) ?_
  refine z_Vi (As := [.int a1]) Z E hl.1 k_X8_154 v_X8_isSailing hf (fun r h' e => c_X8_isSailing l G h h' a0 a1 r e) rfl rfl (Nat.le_of_ble_eq_true rfl) (zRm_of rfl (Nat.zero_le _) (Nat.zero_le _)) dX8_sailingOf_2 (fun v1 h2 H locs hf E => ?_)
  refine lv_if_ne (tgt := 10) Z.x Z.b dX8_sailingOf_5 (by decide) (fun c => ?_) (fun c => ?_)
  · have hf := zif_ hf c
    refine lv_iload_n Z.x Z.b dX8_sailingOf_10 rfl (lv_at hl 2 rfl) ?_
    by_cases c0 : a2 = 0
    · have hf := zit hf c0
      refine lv_tableIn (tgt := 52) Z.x Z.b dX8_sailingOf_11 (by rw [c0]; decide) (by rw [c0]; decide) (by rw [c0]; rfl) (by decide) ?_
      refine lv_aload_n Z.x Z.b dX8_sailingOf_52 rfl (lv_at hl 0 rfl) ?_
      refine lv_iload_n Z.x Z.b dX8_sailingOf_53 rfl (lv_at hl 1 rfl) ?_
      refine lv_iconst (v := 0) Z.x Z.b dX8_sailingOf_54 (by decide) ?_
      refine z_Vi (As := [.int a1, .int 0]) Z E hl.1 k_X8_38 v_X8_of hf (fun r h' e => c_X8_of l G h2 h' a0 a1 0 r e) rfl rfl (Nat.le_of_ble_eq_true rfl) (zRm_of rfl (Nat.zero_le _) (Nat.zero_le _)) dX8_sailingOf_55 (fun v3 h4 H locs hf E => ?_)
      exact z_iret Z E hr dX8_sailingOf_58 hf
    · have hf := zif_ hf c0
      by_cases c1 : a2 = 1
      · have hf := zit hf c1
        refine lv_tableIn (tgt := 59) Z.x Z.b dX8_sailingOf_11 (by rw [c1]; decide) (by rw [c1]; decide) (by rw [c1]; rfl) (by decide) ?_
        refine lv_aload_n Z.x Z.b dX8_sailingOf_59 rfl (lv_at hl 0 rfl) ?_
        refine lv_iload_n Z.x Z.b dX8_sailingOf_60 rfl (lv_at hl 1 rfl) ?_
        refine lv_iconst (v := 1) Z.x Z.b dX8_sailingOf_61 (by decide) ?_
        refine z_Vi (As := [.int a1, .int 1]) Z E hl.1 k_X8_38 v_X8_of hf (fun r h' e => c_X8_of l G h2 h' a0 a1 1 r e) rfl rfl (Nat.le_of_ble_eq_true rfl) (zRm_of rfl (Nat.zero_le _) (Nat.zero_le _)) dX8_sailingOf_62 (fun v5 h6 H locs hf E => ?_)
        exact z_iret Z E hr dX8_sailingOf_65 hf
      · have hf := zif_ hf c1
        by_cases c2 : a2 = 2
        · have hf := zit hf c2
          refine lv_tableIn (tgt := 66) Z.x Z.b dX8_sailingOf_11 (by rw [c2]; decide) (by rw [c2]; decide) (by rw [c2]; rfl) (by decide) ?_
          refine lv_aload_n Z.x Z.b dX8_sailingOf_66 rfl (lv_at hl 0 rfl) ?_
          refine lv_iload_n Z.x Z.b dX8_sailingOf_67 rfl (lv_at hl 1 rfl) ?_
          refine lv_iconst (v := 2) Z.x Z.b dX8_sailingOf_68 (by decide) ?_
          refine z_Vi (As := [.int a1, .int 2]) Z E hl.1 k_X8_38 v_X8_of hf (fun r h' e => c_X8_of l G h2 h' a0 a1 2 r e) rfl rfl (Nat.le_of_ble_eq_true rfl) (zRm_of rfl (Nat.zero_le _) (Nat.zero_le _)) dX8_sailingOf_69 (fun v7 h8 H locs hf E => ?_)
          exact z_iret Z E hr dX8_sailingOf_72 hf
        · have hf := zif_ hf c2
          by_cases c3 : a2 = 3
          · have hf := zit hf c3
            refine lv_tableIn (tgt := 73) Z.x Z.b dX8_sailingOf_11 (by rw [c3]; decide) (by rw [c3]; decide) (by rw [c3]; rfl) (by decide) ?_
            refine lv_aload_n Z.x Z.b dX8_sailingOf_73 rfl (lv_at hl 0 rfl) ?_
            refine lv_iload_n Z.x Z.b dX8_sailingOf_74 rfl (lv_at hl 1 rfl) ?_
            refine z_Vi (As := [.int a1]) Z E hl.1 k_X8_69 v_X8_end hf (fun r h' e => c_X8_end l G h2 h' a0 a1 r e) rfl rfl (Nat.le_of_ble_eq_true rfl) (zRm_of rfl (Nat.zero_le _) (Nat.zero_le _)) dX8_sailingOf_75 (fun v9 h10 H locs hf E => ?_)
            exact z_iret Z E hr dX8_sailingOf_78 hf
          · have hf := zif_ hf c3
            by_cases c4 : a2 = 4
            · have hf := zit hf c4
              refine lv_tableIn (tgt := 79) Z.x Z.b dX8_sailingOf_11 (by rw [c4]; decide) (by rw [c4]; decide) (by rw [c4]; rfl) (by decide) ?_
              refine lv_sipush (v := 1000) Z.x Z.b dX8_sailingOf_79 (by decide) ?_
              refine lv_aload_n Z.x Z.b dX8_sailingOf_82 rfl (lv_at hl 0 rfl) ?_
              refine lv_iload_n Z.x Z.b dX8_sailingOf_83 rfl (lv_at hl 1 rfl) ?_
              refine lv_iconst (v := 4) Z.x Z.b dX8_sailingOf_84 (by decide) ?_
              refine z_Vi (As := [.int a1, .int 4]) Z E hl.1 k_X8_38 v_X8_of hf (fun r h' e => c_X8_of l G h2 h' a0 a1 4 r e) rfl rfl (Nat.le_of_ble_eq_true rfl) (zRm_of rfl (Nat.zero_le _) (Nat.zero_le _)) dX8_sailingOf_85 (fun v11 h12 H locs hf E => ?_)
              refine lv_imul Z.x Z.b dX8_sailingOf_88 ?_
              refine lv_bipush (v := 100) Z.x Z.b dX8_sailingOf_89 (by decide) ?_
              refine lv_aload_n Z.x Z.b dX8_sailingOf_91 rfl (lv_at hl 0 rfl) ?_
              refine lv_iload_n Z.x Z.b dX8_sailingOf_92 rfl (lv_at hl 1 rfl) ?_
              refine lv_iconst (v := 5) Z.x Z.b dX8_sailingOf_93 (by decide) ?_
              refine z_Vi (As := [.int a1, .int 5]) Z E hl.1 k_X8_38 v_X8_of hf (fun r h' e => c_X8_of l G h12 h' a0 a1 5 r e) rfl rfl (Nat.le_of_ble_eq_true rfl) (zRm_of rfl (Nat.zero_le _) (Nat.zero_le _)) dX8_sailingOf_94 (fun v13 h14 H locs hf E => ?_)
              refine lv_imul Z.x Z.b dX8_sailingOf_97 ?_
              refine lv_iadd Z.x Z.b dX8_sailingOf_98 ?_
              refine lv_bipush (v := 10) Z.x Z.b dX8_sailingOf_99 (by decide) ?_
              refine lv_aload_n Z.x Z.b dX8_sailingOf_101 rfl (lv_at hl 0 rfl) ?_
              refine lv_iload_n Z.x Z.b dX8_sailingOf_102 rfl (lv_at hl 1 rfl) ?_
              refine lv_bipush (v := 6) Z.x Z.b dX8_sailingOf_103 (by decide) ?_
              refine z_Vi (As := [.int a1, .int 6]) Z E hl.1 k_X8_38 v_X8_of hf (fun r h' e => c_X8_of l G h14 h' a0 a1 6 r e) rfl rfl (Nat.le_of_ble_eq_true rfl) (zRm_of rfl (Nat.zero_le _) (Nat.zero_le _)) dX8_sailingOf_105 (fun v15 h16 H locs hf E => ?_)
              refine lv_imul Z.x Z.b dX8_sailingOf_108 ?_
              refine lv_iadd Z.x Z.b dX8_sailingOf_109 ?_
              refine lv_aload_n Z.x Z.b dX8_sailingOf_110 rfl (lv_at hl 0 rfl) ?_
              refine lv_iload_n Z.x Z.b dX8_sailingOf_111 rfl (lv_at hl 1 rfl) ?_
              refine lv_bipush (v := 7) Z.x Z.b dX8_sailingOf_112 (by decide) ?_
              refine z_Vi (As := [.int a1, .int 7]) Z E hl.1 k_X8_38 v_X8_of hf (fun r h' e => c_X8_of l G h16 h' a0 a1 7 r e) rfl rfl (Nat.le_of_ble_eq_true rfl) (zRm_of rfl (Nat.zero_le _) (Nat.zero_le _)) dX8_sailingOf_114 (fun v17 h18 H locs hf E => ?_)
              refine lv_iadd Z.x Z.b dX8_sailingOf_117 ?_
              exact z_iret Z E hr dX8_sailingOf_118 hf
            · have hf := zif_ hf c4
              by_cases c5 : a2 = 5
              · have hf := zit hf c5
                refine lv_tableIn (tgt := 119) Z.x Z.b dX8_sailingOf_11 (by rw [c5]; decide) (by rw [c5]; decide) (by rw [c5]; rfl) (by decide) ?_
                refine lv_aload_n Z.x Z.b dX8_sailingOf_119 rfl (lv_at hl 0 rfl) ?_
                refine lv_iload_n Z.x Z.b dX8_sailingOf_120 rfl (lv_at hl 1 rfl) ?_
                refine z_Vi (As := [.int a1]) Z E hl.1 k_X8_52 v_X8_needed hf (fun r h' e => c_X8_needed l G h2 h' a0 a1 r e) rfl rfl (Nat.le_of_ble_eq_true rfl) (zRm_of rfl (Nat.zero_le _) (Nat.zero_le _)) dX8_sailingOf_121 (fun v19 h20 H locs hf E => ?_)
                exact z_iret Z E hr dX8_sailingOf_124 hf
              · have hf := zif_ hf c5
                by_cases c6 : a2 = 6
                · have hf := zit hf c6
                  refine lv_tableIn (tgt := 125) Z.x Z.b dX8_sailingOf_11 (by rw [c6]; decide) (by rw [c6]; decide) (by rw [c6]; rfl) (by decide) ?_
                  refine lv_aload_n Z.x Z.b dX8_sailingOf_125 rfl (lv_at hl 0 rfl) ?_
                  refine lv_iload_n Z.x Z.b dX8_sailingOf_126 rfl (lv_at hl 1 rfl) ?_
                  refine z_Vi (As := [.int a1]) Z E hl.1 k_X8_116 v_X8_freeOf hf (fun r h' e => c_X8_freeOf l G h2 h' a0 a1 r e) rfl rfl (Nat.le_of_ble_eq_true rfl) (zRm_of rfl (Nat.zero_le _) (Nat.zero_le _)) dX8_sailingOf_127 (fun v21 h22 H locs hf E => ?_)
                  exact z_iret Z E hr dX8_sailingOf_130 hf
                · have hf := zif_ hf c6
                  have n0 := zsw (k := 0) c0 (by decide)
                  have n1 := zsw (k := 1) c1 (by decide)
                  have n2 := zsw (k := 2) c2 (by decide)
                  have n3 := zsw (k := 3) c3 (by decide)
                  have n4 := zsw (k := 4) c4 (by decide)
                  have n5 := zsw (k := 5) c5 (by decide)
                  have n6 := zsw (k := 6) c6 (by decide)
                  refine lv_tableOut (tgt := 131) Z.x Z.b dX8_sailingOf_11 (by omega) (by decide) ?_
                  refine lv_bipush (v := (-2)) Z.x Z.b dX8_sailingOf_131 (by decide) ?_
                  exact z_iret Z E hr dX8_sailingOf_133 hf
  · have hf := zit hf c
    refine lv_iconst (v := (-1)) Z.x Z.b dX8_sailingOf_8 (by decide) ?_
    exact z_iret Z E hr dX8_sailingOf_9 hf
set_option maxHeartbeats 4000000 in
set_option maxRecDepth 20000 in
theorem c_X8_sailingOf (l : Launch) (G : zG) (h : zHp) (h' : zHp) (a0 : Nat) (a1 : Int32) (a2 : Int32) (r : Int32) (hf : f_X8_sailingOf a0 a1 a2 h = some (r, h')) : zM0 l yX8_sailingOf cX8_sailingOf 3 (some .int) rm_X8_sailingOf G [.ref a0, .int a1, .int a2] h (zQi G r h') := by
  refine Met.ofW (cc := cX8_sailingOf) (maxL := 3) (ret := (some .int)) (by decide) rfl ?_
  intro p e s m args below meth c s₁ B hml hv
  obtain ⟨rfl, hW⟩ := hv
  obtain ⟨Z, E, hr⟩ := zEnter (own := RX8) B hml rfl hW
  have hl := lv_entry ([.ref a0, .int a1, .int a2]) (n := 3) (Nat.le_of_ble_eq_true rfl)
  rw [lg_entry_eq]
  generalize (lg_sl ([.ref a0, .int a1, .int a2]) ++ List.replicate (3 - (lg_sl ([.ref a0, .int a1, .int a2])).length) Slot.unset).toArray = ls at hl ⊢
  have hl : lv_has ls 3 [(0, .ref a0), (1, .int a1), (2, .int a2)] := hl
  exact t_X8_sailingOf (out := (r, h')) Z hr hf E hl
/-! FerryCrewsModel.crew(III)I -/
theorem dX8_crew_0 : decode cX8_crew 0 = .ok (.aload_n 0, 1) := by decide +kernel
theorem dX8_crew_1 : decode cX8_crew 1 = .ok (.iload_n 1, 1) := by decide +kernel
theorem dX8_crew_2 : decode cX8_crew 2 = .ok (.invokevirtual 154, 3) := by decide +kernel
theorem dX8_crew_5 : decode cX8_crew 5 = .ok (.ifCond .ne 5, 3) := by decide +kernel
theorem dX8_crew_8 : decode cX8_crew 8 = .ok (.iconst (-1), 1) := by decide +kernel
theorem dX8_crew_9 : decode cX8_crew 9 = .ok (.ireturn, 1) := by decide +kernel
theorem dX8_crew_10 : decode cX8_crew 10 = .ok (.iload_n 2, 1) := by decide +kernel
theorem dX8_crew_11 : decode cX8_crew 11 = .ok (.ifCond .lt 12, 3) := by decide +kernel
theorem dX8_crew_14 : decode cX8_crew 14 = .ok (.iload_n 3, 1) := by decide +kernel
theorem dX8_crew_15 : decode cX8_crew 15 = .ok (.iconst 0, 1) := by decide +kernel
theorem dX8_crew_16 : decode cX8_crew 16 = .ok (.iconst 2, 1) := by decide +kernel
theorem dX8_crew_17 : decode cX8_crew 17 = .ok (.invokestatic 42, 3) := by decide +kernel
theorem dX8_crew_20 : decode cX8_crew 20 = .ok (.ifCond .ne 6, 3) := by decide +kernel
theorem dX8_crew_23 : decode cX8_crew 23 = .ok (.bipush (-2), 2) := by decide +kernel
theorem dX8_crew_25 : decode cX8_crew 25 = .ok (.ireturn, 1) := by decide +kernel
theorem dX8_crew_26 : decode cX8_crew 26 = .ok (.iload_n 2, 1) := by decide +kernel
theorem dX8_crew_27 : decode cX8_crew 27 = .ok (.istore 4, 2) := by decide +kernel
theorem dX8_crew_29 : decode cX8_crew 29 = .ok (.iconst 0, 1) := by decide +kernel
theorem dX8_crew_30 : decode cX8_crew 30 = .ok (.istore 5, 2) := by decide +kernel
theorem dX8_crew_32 : decode cX8_crew 32 = .ok (.iload 5, 2) := by decide +kernel
theorem dX8_crew_34 : decode cX8_crew 34 = .ok (.bipush 48, 2) := by decide +kernel
theorem dX8_crew_36 : decode cX8_crew 36 = .ok (.if_icmp .ge 71, 3) := by decide +kernel
theorem dX8_crew_39 : decode cX8_crew 39 = .ok (.iload 5, 2) := by decide +kernel
theorem dX8_crew_41 : decode cX8_crew 41 = .ok (.bipush 12, 2) := by decide +kernel
theorem dX8_crew_43 : decode cX8_crew 43 = .ok (.irem, 1) := by decide +kernel
theorem dX8_crew_44 : decode cX8_crew 44 = .ok (.istore 6, 2) := by decide +kernel
theorem dX8_crew_46 : decode cX8_crew 46 = .ok (.aload_n 0, 1) := by decide +kernel
theorem dX8_crew_47 : decode cX8_crew 47 = .ok (.iload_n 1, 1) := by decide +kernel
theorem dX8_crew_48 : decode cX8_crew 48 = .ok (.iload 6, 2) := by decide +kernel
theorem dX8_crew_50 : decode cX8_crew 50 = .ok (.invokevirtual 46, 3) := by decide +kernel
theorem dX8_crew_53 : decode cX8_crew 53 = .ok (.iload 5, 2) := by decide +kernel
theorem dX8_crew_55 : decode cX8_crew 55 = .ok (.bipush 12, 2) := by decide +kernel
theorem dX8_crew_57 : decode cX8_crew 57 = .ok (.idiv, 1) := by decide +kernel
theorem dX8_crew_58 : decode cX8_crew 58 = .ok (.iconst 1, 1) := by decide +kernel
theorem dX8_crew_59 : decode cX8_crew 59 = .ok (.iadd, 1) := by decide +kernel
theorem dX8_crew_60 : decode cX8_crew 60 = .ok (.if_icmp .ne 41, 3) := by decide +kernel
theorem dX8_crew_63 : decode cX8_crew 63 = .ok (.iload 4, 2) := by decide +kernel
theorem dX8_crew_65 : decode cX8_crew 65 = .ok (.ifCond .ne 33, 3) := by decide +kernel
theorem dX8_crew_68 : decode cX8_crew 68 = .ok (.iload_n 3, 1) := by decide +kernel
theorem dX8_crew_69 : decode cX8_crew 69 = .ok (.ifCond .ne 8, 3) := by decide +kernel
theorem dX8_crew_72 : decode cX8_crew 72 = .ok (.iload 6, 2) := by decide +kernel
theorem dX8_crew_74 : decode cX8_crew 74 = .ok (.goto 23, 3) := by decide +kernel
theorem dX8_crew_77 : decode cX8_crew 77 = .ok (.iload_n 3, 1) := by decide +kernel
theorem dX8_crew_78 : decode cX8_crew 78 = .ok (.iconst 1, 1) := by decide +kernel
theorem dX8_crew_79 : decode cX8_crew 79 = .ok (.if_icmp .ne 11, 3) := by decide +kernel
theorem dX8_crew_82 : decode cX8_crew 82 = .ok (.iload 5, 2) := by decide +kernel
theorem dX8_crew_84 : decode cX8_crew 84 = .ok (.bipush 12, 2) := by decide +kernel
theorem dX8_crew_86 : decode cX8_crew 86 = .ok (.idiv, 1) := by decide +kernel
theorem dX8_crew_87 : decode cX8_crew 87 = .ok (.goto 10, 3) := by decide +kernel
theorem dX8_crew_90 : decode cX8_crew 90 = .ok (.aload_n 0, 1) := by decide +kernel
theorem dX8_crew_91 : decode cX8_crew 91 = .ok (.iload_n 1, 1) := by decide +kernel
theorem dX8_crew_92 : decode cX8_crew 92 = .ok (.iload 6, 2) := by decide +kernel
theorem dX8_crew_94 : decode cX8_crew 94 = .ok (.invokevirtual 72, 3) := by decide +kernel
theorem dX8_crew_97 : decode cX8_crew 97 = .ok (.ireturn, 1) := by decide +kernel
theorem dX8_crew_98 : decode cX8_crew 98 = .ok (.iinc 4 (-1), 3) := by decide +kernel
theorem dX8_crew_101 : decode cX8_crew 101 = .ok (.iinc 5 1, 3) := by decide +kernel
theorem dX8_crew_104 : decode cX8_crew 104 = .ok (.goto (-72), 3) := by decide +kernel
theorem dX8_crew_107 : decode cX8_crew 107 = .ok (.bipush (-5), 2) := by decide +kernel
theorem dX8_crew_109 : decode cX8_crew 109 = .ok (.ireturn, 1) := by decide +kernel
def rm_X8_crew : Room := { frames := 4, cells := 0, slots := 0, locals := 90 }
set_option maxHeartbeats 4000000 in
set_option maxRecDepth 20000 in
theorem t_X8_crew_101 {p : Program} {l : Launch} {e : Env} {s : State} {m : MethodId} {args : Array Value} {below : List Frame} {meth : Method} {c : Code} {G : zG} (Z : zF p s m args c meth cX8_crew 7 RX8 G) (hr : meth.sig.returnType = (some .int)) {out : Int32 × zHp} {r32 : Nat → Int32 → Int32 → Int32 → Int32 → zHp → Option (Int32 × zHp)} (k32 : ∀ {a0 : Nat} {a1 : Int32} {a3 : Int32} {a4 : Int32} {a5 : Int32} {h : zHp} {H : Heap} {locs : List Loc} {ls : Array Slot}, r32 a0 a1 a3 a4 a5 h = some out → zE G s h H locs → lv_has ls 7 [(0, .ref a0), (1, .int a1), (3, .int a3), (4, .int a4), (5, .int a5)] → W p l e rm_X8_crew s m args below meth c H locs 0 0 (MQ below (zQi G out.1 out.2) args s 0 0 (zA G)) (F0 m 32 ls [])) {a0 : Nat} {a1 : Int32} {a3 : Int32} {a4 : Int32} {a5 : Int32} {h : zHp} {H : Heap} {locs : List Loc} {ls : Array Slot} (hf : f_X8_crew_101 r32 a0 a1 a3 a4 a5 h = some out) (E : zE G s h H locs) (hl : lv_has ls 7 [(0, .ref a0), (1, .int a1), (3, .int a3), (4, .int a4), (5, .int a5)]) : W p l e rm_X8_crew s m args below meth c H locs 0 0 (MQ below (zQi G out.1 out.2) args s 0 0 (zA G)) (F0 m 101 ls []) := by
  unfold f_X8_crew_101 at hf
  refine lv_iinc (v := (a5 + 1)) (lv' := [(5, .int (a5 + 1)), (0, .ref a0), (1, .int a1), (3, .int a3), (4, .int a4)]) Z.x Z.b dX8_crew_101 hl (k := 4) rfl rfl (by decide) rfl (fun ls hl => ?_)
  refine lv_goto (tgt := 32) Z.x Z.b dX8_crew_104 (by decide) ?_
  exact k32 hf E (lv_sub hl [1, 2, 3, 4, 0] rfl)
set_option maxHeartbeats 4000000 in
set_option maxRecDepth 20000 in
theorem t_X8_crew_32_body {p : Program} {l : Launch} {e : Env} {s : State} {m : MethodId} {args : Array Value} {below : List Frame} {meth : Method} {c : Code} {G : zG} (Z : zF p s m args c meth cX8_crew 7 RX8 G) (hr : meth.sig.returnType = (some .int)) {out : Int32 × zHp} {r32 : Nat → Int32 → Int32 → Int32 → Int32 → zHp → Option (Int32 × zHp)} (k32 : ∀ {a0 : Nat} {a1 : Int32} {a3 : Int32} {a4 : Int32} {a5 : Int32} {h : zHp} {H : Heap} {locs : List Loc} {ls : Array Slot}, r32 a0 a1 a3 a4 a5 h = some out → zE G s h H locs → lv_has ls 7 [(0, .ref a0), (1, .int a1), (3, .int a3), (4, .int a4), (5, .int a5)] → W p l e rm_X8_crew s m args below meth c H locs 0 0 (MQ below (zQi G out.1 out.2) args s 0 0 (zA G)) (F0 m 32 ls [])) {a0 : Nat} {a1 : Int32} {a3 : Int32} {a4 : Int32} {a5 : Int32} {h : zHp} {H : Heap} {locs : List Loc} {ls : Array Slot} (hf : f_X8_crew_32_body r32 a0 a1 a3 a4 a5 h = some out) (E : zE G s h H locs) (hl : lv_has ls 7 [(0, .ref a0), (1, .int a1), (3, .int a3), (4, .int a4), (5, .int a5)]) : W p l e rm_X8_crew s m args below meth c H locs 0 0 (MQ below (zQi G out.1 out.2) args s 0 0 (zA G)) (F0 m 32 ls []) := by
  unfold f_X8_crew_32_body at hf
  refine lv_iload Z.x Z.b dX8_crew_32 (lv_at hl 4 rfl) ?_
  refine lv_bipush (v := 48) Z.x Z.b dX8_crew_34 (by decide) ?_
  refine lv_icmp_ge (tgt := 107) Z.x Z.b dX8_crew_36 (by decide) (fun c => ?_) (fun c => ?_)
  · have hf := zit hf c
    refine lv_bipush (v := (-5)) Z.x Z.b dX8_crew_107 (by decide) ?_
    exact z_iret Z E hr dX8_crew_109 hf
  · have hf := zif_ hf c
    refine lv_iload Z.x Z.b dX8_crew_39 (lv_at hl 4 rfl) ?_
    refine lv_bipush (v := 12) Z.x Z.b dX8_crew_41 (by decide) ?_
    refine z_irem Z dX8_crew_43 hf (fun v1 hf => ?_)
    refine lv_istore (lv' := [(6, .int v1), (0, .ref a0), (1, .int a1), (3, .int a3), (4, .int a4), (5, .int a5)]) Z.x Z.b dX8_crew_44 hl (by decide) rfl (fun ls hl => ?_)
    refine lv_aload_n Z.x Z.b dX8_crew_46 rfl (lv_at hl 1 rfl) ?_
    refine lv_iload_n Z.x Z.b dX8_crew_47 rfl (lv_at hl 2 rfl) ?_
    refine lv_iload Z.x Z.b dX8_crew_48 (lv_at hl 0 rfl) ?_
    refine z_Vi (As := [.int a1, .int v1]) Z E hl.1 k_X8_46 v_X8_placeOf hf (fun r h' e => c_X8_placeOf l G h h' a0 a1 v1 r e) rfl rfl (Nat.le_of_ble_eq_true rfl) (zRm_of rfl (Nat.zero_le _) (Nat.zero_le _)) dX8_crew_50 (fun v2 h3 H locs hf E => ?_)
    refine lv_iload Z.x Z.b dX8_crew_53 (lv_at hl 5 rfl) ?_
    refine lv_bipush (v := 12) Z.x Z.b dX8_crew_55 (by decide) ?_
    refine z_idiv Z dX8_crew_57 hf (fun v4 hf => ?_)
    refine lv_iconst (v := 1) Z.x Z.b dX8_crew_58 (by decide) ?_
    refine lv_iadd Z.x Z.b dX8_crew_59 ?_
    refine lv_icmp_ne (tgt := 101) Z.x Z.b dX8_crew_60 (by decide) (fun c => ?_) (fun c => ?_)
    · have hf := zif_ hf c
      exact t_X8_crew_101 Z hr k32 hf E (lv_sub hl [1, 2, 3, 4, 5] rfl)
    · have hf := zit hf c
      refine lv_iload Z.x Z.b dX8_crew_63 (lv_at hl 4 rfl) ?_
      refine lv_if_ne (tgt := 98) Z.x Z.b dX8_crew_65 (by decide) (fun c => ?_) (fun c => ?_)
      · have hf := zif_ hf c
        refine lv_iinc (v := (a4 + (-1))) (lv' := [(4, .int (a4 + (-1))), (6, .int v1), (0, .ref a0), (1, .int a1), (3, .int a3), (5, .int a5)]) Z.x Z.b dX8_crew_98 hl (k := 4) rfl rfl (by decide) rfl (fun ls hl => ?_)
        exact t_X8_crew_101 Z hr k32 hf E (lv_sub hl [2, 3, 4, 0, 5] rfl)
      · have hf := zit hf c
        refine lv_iload_n Z.x Z.b dX8_crew_68 rfl (lv_at hl 3 rfl) ?_
        refine lv_if_ne (tgt := 77) Z.x Z.b dX8_crew_69 (by decide) (fun c => ?_) (fun c => ?_)
        · have hf := zif_ hf c
          refine lv_iload_n Z.x Z.b dX8_crew_77 rfl (lv_at hl 3 rfl) ?_
          refine lv_iconst (v := 1) Z.x Z.b dX8_crew_78 (by decide) ?_
          refine lv_icmp_ne (tgt := 90) Z.x Z.b dX8_crew_79 (by decide) (fun c => ?_) (fun c => ?_)
          · have hf := zif_ hf c
            refine lv_aload_n Z.x Z.b dX8_crew_90 rfl (lv_at hl 1 rfl) ?_
            refine lv_iload_n Z.x Z.b dX8_crew_91 rfl (lv_at hl 2 rfl) ?_
            refine lv_iload Z.x Z.b dX8_crew_92 (lv_at hl 0 rfl) ?_
            refine z_Vi (As := [.int a1, .int v1]) Z E hl.1 k_X8_72 v_X8_begins hf (fun r h' e => c_X8_begins l G h3 h' a0 a1 v1 r e) rfl rfl (Nat.le_of_ble_eq_true rfl) (zRm_of rfl (Nat.zero_le _) (Nat.zero_le _)) dX8_crew_94 (fun v5 h6 H locs hf E => ?_)
            exact z_iret Z E hr dX8_crew_97 hf
          · have hf := zit hf c
            refine lv_iload Z.x Z.b dX8_crew_82 (lv_at hl 5 rfl) ?_
            refine lv_bipush (v := 12) Z.x Z.b dX8_crew_84 (by decide) ?_
            refine z_idiv Z dX8_crew_86 hf (fun v7 hf => ?_)
            refine lv_goto (tgt := 97) Z.x Z.b dX8_crew_87 (by decide) ?_
            exact z_iret Z E hr dX8_crew_97 hf
        · have hf := zit hf c
          refine lv_iload Z.x Z.b dX8_crew_72 (lv_at hl 0 rfl) ?_
          refine lv_goto (tgt := 97) Z.x Z.b dX8_crew_74 (by decide) ?_
          exact z_iret Z E hr dX8_crew_97 hf
theorem t_X8_crew_32 {p : Program} {l : Launch} {e : Env} {s : State} {m : MethodId} {args : Array Value} {below : List Frame} {meth : Method} {c : Code} {G : zG} (Z : zF p s m args c meth cX8_crew 7 RX8 G) (hr : meth.sig.returnType = (some .int)) {out : Int32 × zHp} : ∀ (n : Nat), ∀ {a0 : Nat} {a1 : Int32} {a3 : Int32} {a4 : Int32} {a5 : Int32} {h : zHp} {H : Heap} {locs : List Loc} {ls : Array Slot}, f_X8_crew_32 n a0 a1 a3 a4 a5 h = some out → zE G s h H locs → lv_has ls 7 [(0, .ref a0), (1, .int a1), (3, .int a3), (4, .int a4), (5, .int a5)] → W p l e rm_X8_crew s m args below meth c H locs 0 0 (MQ below (zQi G out.1 out.2) args s 0 0 (zA G)) (F0 m 32 ls [])
  | 0 => fun hf => by cases hf
  | n + 1 => fun hf E hl => t_X8_crew_32_body Z hr (r32 := f_X8_crew_32 n) (t_X8_crew_32 Z hr n) hf E hl
set_option maxHeartbeats 4000000 in
set_option maxRecDepth 20000 in
theorem t_X8_crew {p : Program} {l : Launch} {e : Env} {s : State} {m : MethodId} {args : Array Value} {below : List Frame} {meth : Method} {c : Code} {G : zG} (Z : zF p s m args c meth cX8_crew 7 RX8 G) (hr : meth.sig.returnType = (some .int)) {out : Int32 × zHp} {a0 : Nat} {a1 : Int32} {a2 : Int32} {a3 : Int32} {h : zHp} {H : Heap} {locs : List Loc} {ls : Array Slot} (hf : f_X8_crew a0 a1 a2 a3 h = some out) (E : zE G s h H locs) (hl : lv_has ls 7 [(0, .ref a0), (1, .int a1), (2, .int a2), (3, .int a3)]) : W p l e rm_X8_crew s m args below meth c H locs 0 0 (MQ below (zQi G out.1 out.2) args s 0 0 (zA G)) (F0 m 0 ls []) := by
  unfold f_X8_crew at hf
  refine lv_aload_n Z.x Z.b dX8_crew_0 rfl (lv_at hl 0 rfl) ?_
  refine lv_iload_n Z.x Z.b dX8_crew_1 rfl (lv_at hl 1 rfl) ?_
  refine z_Vi (As := [.int a1]) Z E hl.1 k_X8_154 v_X8_isSailing hf (fun r h' e => c_X8_isSailing l G h h' a0 a1 r e) rfl rfl (Nat.le_of_ble_eq_true rfl) (zRm_of rfl (Nat.zero_le _) (Nat.zero_le _)) dX8_crew_2 (fun v1 h2 H locs hf E => ?_)
  refine lv_if_ne (tgt := 10) Z.x Z.b dX8_crew_5 (by decide) (fun c => ?_) (fun c => ?_)
  · have hf := zif_ hf c
    refine lv_iload_n Z.x Z.b dX8_crew_10 rfl (lv_at hl 2 rfl) ?_
    refine lv_if_lt (tgt := 23) Z.x Z.b dX8_crew_11 (by decide) (fun c => ?_) (fun c => ?_)
    · have hf := zit hf c
      refine lv_bipush (v := (-2)) Z.x Z.b dX8_crew_23 (by decide) ?_
      exact z_iret Z E hr dX8_crew_25 hf
    · have hf := zif_ hf c
      refine lv_iload_n Z.x Z.b dX8_crew_14 rfl (lv_at hl 3 rfl) ?_
      refine lv_iconst (v := 0) Z.x Z.b dX8_crew_15 (by decide) ?_
      refine lv_iconst (v := 2) Z.x Z.b dX8_crew_16 (by decide) ?_
      refine z_Si (As := [.int a3, .int 0, .int 2]) Z E hl.1 k_X8_42 wt_X8_in hf (fun r h' e => c_X8_in l G h2 h' a3 0 2 r e) rfl rfl (Nat.le_of_ble_eq_true rfl) (zRm_of rfl (Nat.zero_le _) (Nat.zero_le _)) dX8_crew_17 (fun v3 h4 H locs hf E => ?_)
      refine lv_if_ne (tgt := 26) Z.x Z.b dX8_crew_20 (by decide) (fun c => ?_) (fun c => ?_)
      · have hf := zif_ hf c
        refine lv_iload_n Z.x Z.b dX8_crew_26 rfl (lv_at hl 2 rfl) ?_
        refine lv_istore (lv' := [(4, .int a2), (0, .ref a0), (1, .int a1), (2, .int a2), (3, .int a3)]) Z.x Z.b dX8_crew_27 hl (by decide) rfl (fun ls hl => ?_)
        refine lv_iconst (v := 0) Z.x Z.b dX8_crew_29 (by decide) ?_
        refine lv_istore (lv' := [(5, .int 0), (4, .int a2), (0, .ref a0), (1, .int a1), (2, .int a2), (3, .int a3)]) Z.x Z.b dX8_crew_30 hl (by decide) rfl (fun ls hl => ?_)
        exact t_X8_crew_32 Z hr zN hf E (lv_sub hl [2, 3, 5, 1, 0] rfl)
      · have hf := zit hf c
        refine lv_bipush (v := (-2)) Z.x Z.b dX8_crew_23 (by decide) ?_
        exact z_iret Z E hr dX8_crew_25 hf
  · have hf := zit hf c
    refine lv_iconst (v := (-1)) Z.x Z.b dX8_crew_8 (by decide) ?_
    exact z_iret Z E hr dX8_crew_9 hf
set_option maxHeartbeats 4000000 in
set_option maxRecDepth 20000 in
theorem c_X8_crew (l : Launch) (G : zG) (h : zHp) (h' : zHp) (a0 : Nat) (a1 : Int32) (a2 : Int32) (a3 : Int32) (r : Int32) (hf : f_X8_crew a0 a1 a2 a3 h = some (r, h')) : zM0 l yX8_crew cX8_crew 7 (some .int) rm_X8_crew G [.ref a0, .int a1, .int a2, .int a3] h (zQi G r h') := by
  refine Met.ofW (cc := cX8_crew) (maxL := 7) (ret := (some .int)) (by decide) rfl ?_
  intro p e s m args below meth c s₁ B hml hv
  obtain ⟨rfl, hW⟩ := hv
  obtain ⟨Z, E, hr⟩ := zEnter (own := RX8) B hml rfl hW
  have hl := lv_entry ([.ref a0, .int a1, .int a2, .int a3]) (n := 7) (Nat.le_of_ble_eq_true rfl)
  rw [lg_entry_eq]
  generalize (lg_sl ([.ref a0, .int a1, .int a2, .int a3]) ++ List.replicate (7 - (lg_sl ([.ref a0, .int a1, .int a2, .int a3])).length) Slot.unset).toArray = ls at hl ⊢
  have hl : lv_has ls 7 [(0, .ref a0), (1, .int a1), (2, .int a2), (3, .int a3)] := hl
  exact t_X8_crew (out := (r, h')) Z hr hf E hl
/-! FerryCrewsModel.placesThat(II)I -/
theorem dX8_placesThat_0 : decode cX8_placesThat 0 = .ok (.iconst 0, 1) := by decide +kernel
theorem dX8_placesThat_1 : decode cX8_placesThat 1 = .ok (.istore_n 3, 1) := by decide +kernel
theorem dX8_placesThat_2 : decode cX8_placesThat 2 = .ok (.iconst 0, 1) := by decide +kernel
theorem dX8_placesThat_3 : decode cX8_placesThat 3 = .ok (.istore 4, 2) := by decide +kernel
theorem dX8_placesThat_5 : decode cX8_placesThat 5 = .ok (.iload 4, 2) := by decide +kernel
theorem dX8_placesThat_7 : decode cX8_placesThat 7 = .ok (.aload_n 0, 1) := by decide +kernel
theorem dX8_placesThat_8 : decode cX8_placesThat 8 = .ok (.getfield 7, 3) := by decide +kernel
theorem dX8_placesThat_11 : decode cX8_placesThat 11 = .ok (.iconst 1, 1) := by decide +kernel
theorem dX8_placesThat_12 : decode cX8_placesThat 12 = .ok (.iaload, 1) := by decide +kernel
theorem dX8_placesThat_13 : decode cX8_placesThat 13 = .ok (.if_icmp .ge 37, 3) := by decide +kernel
theorem dX8_placesThat_16 : decode cX8_placesThat 16 = .ok (.iload_n 3, 1) := by decide +kernel
theorem dX8_placesThat_17 : decode cX8_placesThat 17 = .ok (.aload_n 0, 1) := by decide +kernel
theorem dX8_placesThat_18 : decode cX8_placesThat 18 = .ok (.iload 4, 2) := by decide +kernel
theorem dX8_placesThat_20 : decode cX8_placesThat 20 = .ok (.iload_n 1, 1) := by decide +kernel
theorem dX8_placesThat_21 : decode cX8_placesThat 21 = .ok (.invokevirtual 46, 3) := by decide +kernel
theorem dX8_placesThat_24 : decode cX8_placesThat 24 = .ok (.ifCond .le 17, 3) := by decide +kernel
theorem dX8_placesThat_27 : decode cX8_placesThat 27 = .ok (.aload_n 0, 1) := by decide +kernel
theorem dX8_placesThat_28 : decode cX8_placesThat 28 = .ok (.iload 4, 2) := by decide +kernel
theorem dX8_placesThat_30 : decode cX8_placesThat 30 = .ok (.iload_n 2, 1) := by decide +kernel
theorem dX8_placesThat_31 : decode cX8_placesThat 31 = .ok (.invokevirtual 62, 3) := by decide +kernel
theorem dX8_placesThat_34 : decode cX8_placesThat 34 = .ok (.ifCond .eq 7, 3) := by decide +kernel
theorem dX8_placesThat_37 : decode cX8_placesThat 37 = .ok (.iconst 1, 1) := by decide +kernel
theorem dX8_placesThat_38 : decode cX8_placesThat 38 = .ok (.goto 4, 3) := by decide +kernel
theorem dX8_placesThat_41 : decode cX8_placesThat 41 = .ok (.iconst 0, 1) := by decide +kernel
theorem dX8_placesThat_42 : decode cX8_placesThat 42 = .ok (.iadd, 1) := by decide +kernel
theorem dX8_placesThat_43 : decode cX8_placesThat 43 = .ok (.istore_n 3, 1) := by decide +kernel
theorem dX8_placesThat_44 : decode cX8_placesThat 44 = .ok (.iinc 4 1, 3) := by decide +kernel
theorem dX8_placesThat_47 : decode cX8_placesThat 47 = .ok (.goto (-42), 3) := by decide +kernel
theorem dX8_placesThat_50 : decode cX8_placesThat 50 = .ok (.iload_n 3, 1) := by decide +kernel
theorem dX8_placesThat_51 : decode cX8_placesThat 51 = .ok (.ireturn, 1) := by decide +kernel
def rm_X8_placesThat : Room := { frames := 2, cells := 0, slots := 0, locals := 44 }
set_option maxHeartbeats 4000000 in
set_option maxRecDepth 20000 in
theorem t_X8_placesThat_42 {p : Program} {l : Launch} {e : Env} {s : State} {m : MethodId} {args : Array Value} {below : List Frame} {meth : Method} {c : Code} {G : zG} (Z : zF p s m args c meth cX8_placesThat 5 RX8 G) (hr : meth.sig.returnType = (some .int)) {out : Int32 × zHp} {r5 : Nat → Int32 → Int32 → Int32 → Int32 → zHp → Option (Int32 × zHp)} (k5 : ∀ {a0 : Nat} {a1 : Int32} {a2 : Int32} {a3 : Int32} {a4 : Int32} {h : zHp} {H : Heap} {locs : List Loc} {ls : Array Slot}, r5 a0 a1 a2 a3 a4 h = some out → zE G s h H locs → lv_has ls 5 [(0, .ref a0), (1, .int a1), (2, .int a2), (3, .int a3), (4, .int a4)] → W p l e rm_X8_placesThat s m args below meth c H locs 0 0 (MQ below (zQi G out.1 out.2) args s 0 0 (zA G)) (F0 m 5 ls [])) {a0 : Nat} {a1 : Int32} {a2 : Int32} {a4 : Int32} {s0 : Int32} {s1 : Int32} {h : zHp} {H : Heap} {locs : List Loc} {ls : Array Slot} (hf : f_X8_placesThat_42 r5 a0 a1 a2 a4 s0 s1 h = some out) (E : zE G s h H locs) (hl : lv_has ls 5 [(0, .ref a0), (1, .int a1), (2, .int a2), (4, .int a4)]) : W p l e rm_X8_placesThat s m args below meth c H locs 0 0 (MQ below (zQi G out.1 out.2) args s 0 0 (zA G)) (F0 m 42 ls [.int s0, .int s1]) := by
  unfold f_X8_placesThat_42 at hf
  refine lv_iadd Z.x Z.b dX8_placesThat_42 ?_
  refine lv_istore_n (lv' := [(3, .int (s1 + s0)), (0, .ref a0), (1, .int a1), (2, .int a2), (4, .int a4)]) Z.x Z.b dX8_placesThat_43 rfl hl (by decide) rfl (fun ls hl => ?_)
  refine lv_iinc (v := (a4 + 1)) (lv' := [(4, .int (a4 + 1)), (3, .int (s1 + s0)), (0, .ref a0), (1, .int a1), (2, .int a2)]) Z.x Z.b dX8_placesThat_44 hl (k := 4) rfl rfl (by decide) rfl (fun ls hl => ?_)
  refine lv_goto (tgt := 5) Z.x Z.b dX8_placesThat_47 (by decide) ?_
  exact k5 hf E (lv_sub hl [2, 3, 4, 1, 0] rfl)
set_option maxHeartbeats 4000000 in
set_option maxRecDepth 20000 in
theorem t_X8_placesThat_41 {p : Program} {l : Launch} {e : Env} {s : State} {m : MethodId} {args : Array Value} {below : List Frame} {meth : Method} {c : Code} {G : zG} (Z : zF p s m args c meth cX8_placesThat 5 RX8 G) (hr : meth.sig.returnType = (some .int)) {out : Int32 × zHp} {r5 : Nat → Int32 → Int32 → Int32 → Int32 → zHp → Option (Int32 × zHp)} (k5 : ∀ {a0 : Nat} {a1 : Int32} {a2 : Int32} {a3 : Int32} {a4 : Int32} {h : zHp} {H : Heap} {locs : List Loc} {ls : Array Slot}, r5 a0 a1 a2 a3 a4 h = some out → zE G s h H locs → lv_has ls 5 [(0, .ref a0), (1, .int a1), (2, .int a2), (3, .int a3), (4, .int a4)] → W p l e rm_X8_placesThat s m args below meth c H locs 0 0 (MQ below (zQi G out.1 out.2) args s 0 0 (zA G)) (F0 m 5 ls [])) {a0 : Nat} {a1 : Int32} {a2 : Int32} {a4 : Int32} {s0 : Int32} {h : zHp} {H : Heap} {locs : List Loc} {ls : Array Slot} (hf : f_X8_placesThat_41 r5 a0 a1 a2 a4 s0 h = some out) (E : zE G s h H locs) (hl : lv_has ls 5 [(0, .ref a0), (1, .int a1), (2, .int a2), (4, .int a4)]) : W p l e rm_X8_placesThat s m args below meth c H locs 0 0 (MQ below (zQi G out.1 out.2) args s 0 0 (zA G)) (F0 m 41 ls [.int s0]) := by
  unfold f_X8_placesThat_41 at hf
  refine lv_iconst (v := 0) Z.x Z.b dX8_placesThat_41 (by decide) ?_
  exact t_X8_placesThat_42 Z hr k5 hf E (lv_sub hl [0, 1, 2, 3] rfl)
set_option maxHeartbeats 4000000 in
set_option maxRecDepth 20000 in
theorem t_X8_placesThat_5_body {p : Program} {l : Launch} {e : Env} {s : State} {m : MethodId} {args : Array Value} {below : List Frame} {meth : Method} {c : Code} {G : zG} (Z : zF p s m args c meth cX8_placesThat 5 RX8 G) (hr : meth.sig.returnType = (some .int)) {out : Int32 × zHp} {r5 : Nat → Int32 → Int32 → Int32 → Int32 → zHp → Option (Int32 × zHp)} (k5 : ∀ {a0 : Nat} {a1 : Int32} {a2 : Int32} {a3 : Int32} {a4 : Int32} {h : zHp} {H : Heap} {locs : List Loc} {ls : Array Slot}, r5 a0 a1 a2 a3 a4 h = some out → zE G s h H locs → lv_has ls 5 [(0, .ref a0), (1, .int a1), (2, .int a2), (3, .int a3), (4, .int a4)] → W p l e rm_X8_placesThat s m args below meth c H locs 0 0 (MQ below (zQi G out.1 out.2) args s 0 0 (zA G)) (F0 m 5 ls [])) {a0 : Nat} {a1 : Int32} {a2 : Int32} {a3 : Int32} {a4 : Int32} {h : zHp} {H : Heap} {locs : List Loc} {ls : Array Slot} (hf : f_X8_placesThat_5_body r5 a0 a1 a2 a3 a4 h = some out) (E : zE G s h H locs) (hl : lv_has ls 5 [(0, .ref a0), (1, .int a1), (2, .int a2), (3, .int a3), (4, .int a4)]) : W p l e rm_X8_placesThat s m args below meth c H locs 0 0 (MQ below (zQi G out.1 out.2) args s 0 0 (zA G)) (F0 m 5 ls []) := by
  unfold f_X8_placesThat_5_body at hf
  refine lv_iload Z.x Z.b dX8_placesThat_5 (lv_at hl 4 rfl) ?_
  refine lv_aload_n Z.x Z.b dX8_placesThat_7 rfl (lv_at hl 0 rfl) ?_
  refine z_getR Z E q_X8_7 dX8_placesThat_8 hf (fun v1 hf => ?_)
  refine lv_iconst (v := 1) Z.x Z.b dX8_placesThat_11 (by decide) ?_
  refine z_iald Z E dX8_placesThat_12 hf (fun v2 hf => ?_)
  refine lv_icmp_ge (tgt := 50) Z.x Z.b dX8_placesThat_13 (by decide) (fun c => ?_) (fun c => ?_)
  · have hf := zit hf c
    refine lv_iload_n Z.x Z.b dX8_placesThat_50 rfl (lv_at hl 3 rfl) ?_
    exact z_iret Z E hr dX8_placesThat_51 hf
  · have hf := zif_ hf c
    refine lv_iload_n Z.x Z.b dX8_placesThat_16 rfl (lv_at hl 3 rfl) ?_
    refine lv_aload_n Z.x Z.b dX8_placesThat_17 rfl (lv_at hl 0 rfl) ?_
    refine lv_iload Z.x Z.b dX8_placesThat_18 (lv_at hl 4 rfl) ?_
    refine lv_iload_n Z.x Z.b dX8_placesThat_20 rfl (lv_at hl 1 rfl) ?_
    refine z_Vi (As := [.int a4, .int a1]) Z E hl.1 k_X8_46 v_X8_placeOf hf (fun r h' e => c_X8_placeOf l G h h' a0 a4 a1 r e) rfl rfl (Nat.le_of_ble_eq_true rfl) (zRm_of rfl (Nat.zero_le _) (Nat.zero_le _)) dX8_placesThat_21 (fun v3 h4 H locs hf E => ?_)
    refine lv_if_le (tgt := 41) Z.x Z.b dX8_placesThat_24 (by decide) (fun c => ?_) (fun c => ?_)
    · have hf := zit hf c
      exact t_X8_placesThat_41 Z hr k5 hf E (lv_sub hl [0, 1, 2, 4] rfl)
    · have hf := zif_ hf c
      refine lv_aload_n Z.x Z.b dX8_placesThat_27 rfl (lv_at hl 0 rfl) ?_
      refine lv_iload Z.x Z.b dX8_placesThat_28 (lv_at hl 4 rfl) ?_
      refine lv_iload_n Z.x Z.b dX8_placesThat_30 rfl (lv_at hl 2 rfl) ?_
      refine z_Vi (As := [.int a4, .int a2]) Z E hl.1 k_X8_62 v_X8_is hf (fun r h' e => c_X8_is l G h4 h' a0 a4 a2 r e) rfl rfl (Nat.le_of_ble_eq_true rfl) (zRm_of rfl (Nat.zero_le _) (Nat.zero_le _)) dX8_placesThat_31 (fun v5 h6 H locs hf E => ?_)
      refine lv_if_eq (tgt := 41) Z.x Z.b dX8_placesThat_34 (by decide) (fun c => ?_) (fun c => ?_)
      · have hf := zit hf c
        exact t_X8_placesThat_41 Z hr k5 hf E (lv_sub hl [0, 1, 2, 4] rfl)
      · have hf := zif_ hf c
        refine lv_iconst (v := 1) Z.x Z.b dX8_placesThat_37 (by decide) ?_
        refine lv_goto (tgt := 42) Z.x Z.b dX8_placesThat_38 (by decide) ?_
        exact t_X8_placesThat_42 Z hr k5 hf E (lv_sub hl [0, 1, 2, 4] rfl)
theorem t_X8_placesThat_5 {p : Program} {l : Launch} {e : Env} {s : State} {m : MethodId} {args : Array Value} {below : List Frame} {meth : Method} {c : Code} {G : zG} (Z : zF p s m args c meth cX8_placesThat 5 RX8 G) (hr : meth.sig.returnType = (some .int)) {out : Int32 × zHp} : ∀ (n : Nat), ∀ {a0 : Nat} {a1 : Int32} {a2 : Int32} {a3 : Int32} {a4 : Int32} {h : zHp} {H : Heap} {locs : List Loc} {ls : Array Slot}, f_X8_placesThat_5 n a0 a1 a2 a3 a4 h = some out → zE G s h H locs → lv_has ls 5 [(0, .ref a0), (1, .int a1), (2, .int a2), (3, .int a3), (4, .int a4)] → W p l e rm_X8_placesThat s m args below meth c H locs 0 0 (MQ below (zQi G out.1 out.2) args s 0 0 (zA G)) (F0 m 5 ls [])
  | 0 => fun hf => by cases hf
  | n + 1 => fun hf E hl => t_X8_placesThat_5_body Z hr (r5 := f_X8_placesThat_5 n) (t_X8_placesThat_5 Z hr n) hf E hl
set_option maxHeartbeats 4000000 in
set_option maxRecDepth 20000 in
theorem t_X8_placesThat {p : Program} {l : Launch} {e : Env} {s : State} {m : MethodId} {args : Array Value} {below : List Frame} {meth : Method} {c : Code} {G : zG} (Z : zF p s m args c meth cX8_placesThat 5 RX8 G) (hr : meth.sig.returnType = (some .int)) {out : Int32 × zHp} {a0 : Nat} {a1 : Int32} {a2 : Int32} {h : zHp} {H : Heap} {locs : List Loc} {ls : Array Slot} (hf : f_X8_placesThat a0 a1 a2 h = some out) (E : zE G s h H locs) (hl : lv_has ls 5 [(0, .ref a0), (1, .int a1), (2, .int a2)]) : W p l e rm_X8_placesThat s m args below meth c H locs 0 0 (MQ below (zQi G out.1 out.2) args s 0 0 (zA G)) (F0 m 0 ls []) := by
  unfold f_X8_placesThat at hf
  refine lv_iconst (v := 0) Z.x Z.b dX8_placesThat_0 (by decide) ?_
  refine lv_istore_n (lv' := [(3, .int 0), (0, .ref a0), (1, .int a1), (2, .int a2)]) Z.x Z.b dX8_placesThat_1 rfl hl (by decide) rfl (fun ls hl => ?_)
  refine lv_iconst (v := 0) Z.x Z.b dX8_placesThat_2 (by decide) ?_
  refine lv_istore (lv' := [(4, .int 0), (3, .int 0), (0, .ref a0), (1, .int a1), (2, .int a2)]) Z.x Z.b dX8_placesThat_3 hl (by decide) rfl (fun ls hl => ?_)
  exact t_X8_placesThat_5 Z hr zN hf E (lv_sub hl [2, 3, 4, 1, 0] rfl)
set_option maxHeartbeats 4000000 in
set_option maxRecDepth 20000 in
theorem c_X8_placesThat (l : Launch) (G : zG) (h : zHp) (h' : zHp) (a0 : Nat) (a1 : Int32) (a2 : Int32) (r : Int32) (hf : f_X8_placesThat a0 a1 a2 h = some (r, h')) : zM0 l yX8_placesThat cX8_placesThat 5 (some .int) rm_X8_placesThat G [.ref a0, .int a1, .int a2] h (zQi G r h') := by
  refine Met.ofW (cc := cX8_placesThat) (maxL := 5) (ret := (some .int)) (by decide) rfl ?_
  intro p e s m args below meth c s₁ B hml hv
  obtain ⟨rfl, hW⟩ := hv
  obtain ⟨Z, E, hr⟩ := zEnter (own := RX8) B hml rfl hW
  have hl := lv_entry ([.ref a0, .int a1, .int a2]) (n := 5) (Nat.le_of_ble_eq_true rfl)
  rw [lg_entry_eq]
  generalize (lg_sl ([.ref a0, .int a1, .int a2]) ++ List.replicate (5 - (lg_sl ([.ref a0, .int a1, .int a2])).length) Slot.unset).toArray = ls at hl ⊢
  have hl : lv_has ls 5 [(0, .ref a0), (1, .int a1), (2, .int a2)] := hl
  exact t_X8_placesThat (out := (r, h')) Z hr hf E hl
/-! FerryCrewsModel.nextOf(I)I -/
theorem dX8_nextOf_0 : decode cX8_nextOf 0 = .ok (.bipush (-5), 2) := by decide +kernel
theorem dX8_nextOf_2 : decode cX8_nextOf 2 = .ok (.istore_n 2, 1) := by decide +kernel
theorem dX8_nextOf_3 : decode cX8_nextOf 3 = .ok (.iconst 0, 1) := by decide +kernel
theorem dX8_nextOf_4 : decode cX8_nextOf 4 = .ok (.istore_n 3, 1) := by decide +kernel
theorem dX8_nextOf_5 : decode cX8_nextOf 5 = .ok (.iload_n 3, 1) := by decide +kernel
theorem dX8_nextOf_6 : decode cX8_nextOf 6 = .ok (.aload_n 0, 1) := by decide +kernel
theorem dX8_nextOf_7 : decode cX8_nextOf 7 = .ok (.getfield 7, 3) := by decide +kernel
theorem dX8_nextOf_10 : decode cX8_nextOf 10 = .ok (.iconst 1, 1) := by decide +kernel
theorem dX8_nextOf_11 : decode cX8_nextOf 11 = .ok (.iaload, 1) := by decide +kernel
theorem dX8_nextOf_12 : decode cX8_nextOf 12 = .ok (.if_icmp .ge 50, 3) := by decide +kernel
theorem dX8_nextOf_15 : decode cX8_nextOf 15 = .ok (.aload_n 0, 1) := by decide +kernel
theorem dX8_nextOf_16 : decode cX8_nextOf 16 = .ok (.iload_n 3, 1) := by decide +kernel
theorem dX8_nextOf_17 : decode cX8_nextOf 17 = .ok (.iload_n 1, 1) := by decide +kernel
theorem dX8_nextOf_18 : decode cX8_nextOf 18 = .ok (.invokevirtual 46, 3) := by decide +kernel
theorem dX8_nextOf_21 : decode cX8_nextOf 21 = .ok (.ifCond .le 35, 3) := by decide +kernel
theorem dX8_nextOf_24 : decode cX8_nextOf 24 = .ok (.aload_n 0, 1) := by decide +kernel
theorem dX8_nextOf_25 : decode cX8_nextOf 25 = .ok (.iload_n 3, 1) := by decide +kernel
theorem dX8_nextOf_26 : decode cX8_nextOf 26 = .ok (.iconst 0, 1) := by decide +kernel
theorem dX8_nextOf_27 : decode cX8_nextOf 27 = .ok (.invokevirtual 62, 3) := by decide +kernel
theorem dX8_nextOf_30 : decode cX8_nextOf 30 = .ok (.ifCond .eq 26, 3) := by decide +kernel
theorem dX8_nextOf_33 : decode cX8_nextOf 33 = .ok (.iload_n 2, 1) := by decide +kernel
theorem dX8_nextOf_34 : decode cX8_nextOf 34 = .ok (.bipush (-5), 2) := by decide +kernel
theorem dX8_nextOf_36 : decode cX8_nextOf 36 = .ok (.if_icmp .eq 18, 3) := by decide +kernel
theorem dX8_nextOf_39 : decode cX8_nextOf 39 = .ok (.aload_n 0, 1) := by decide +kernel
theorem dX8_nextOf_40 : decode cX8_nextOf 40 = .ok (.iload_n 3, 1) := by decide +kernel
theorem dX8_nextOf_41 : decode cX8_nextOf 41 = .ok (.iconst 2, 1) := by decide +kernel
theorem dX8_nextOf_42 : decode cX8_nextOf 42 = .ok (.invokevirtual 38, 3) := by decide +kernel
theorem dX8_nextOf_45 : decode cX8_nextOf 45 = .ok (.aload_n 0, 1) := by decide +kernel
theorem dX8_nextOf_46 : decode cX8_nextOf 46 = .ok (.iload_n 2, 1) := by decide +kernel
theorem dX8_nextOf_47 : decode cX8_nextOf 47 = .ok (.iconst 2, 1) := by decide +kernel
theorem dX8_nextOf_48 : decode cX8_nextOf 48 = .ok (.invokevirtual 38, 3) := by decide +kernel
theorem dX8_nextOf_51 : decode cX8_nextOf 51 = .ok (.if_icmp .ge 5, 3) := by decide +kernel
theorem dX8_nextOf_54 : decode cX8_nextOf 54 = .ok (.iload_n 3, 1) := by decide +kernel
theorem dX8_nextOf_55 : decode cX8_nextOf 55 = .ok (.istore_n 2, 1) := by decide +kernel
theorem dX8_nextOf_56 : decode cX8_nextOf 56 = .ok (.iinc 3 1, 3) := by decide +kernel
theorem dX8_nextOf_59 : decode cX8_nextOf 59 = .ok (.goto (-54), 3) := by decide +kernel
theorem dX8_nextOf_62 : decode cX8_nextOf 62 = .ok (.iload_n 2, 1) := by decide +kernel
theorem dX8_nextOf_63 : decode cX8_nextOf 63 = .ok (.ireturn, 1) := by decide +kernel
def rm_X8_nextOf : Room := { frames := 2, cells := 0, slots := 0, locals := 44 }
set_option maxHeartbeats 4000000 in
set_option maxRecDepth 20000 in
theorem t_X8_nextOf_56 {p : Program} {l : Launch} {e : Env} {s : State} {m : MethodId} {args : Array Value} {below : List Frame} {meth : Method} {c : Code} {G : zG} (Z : zF p s m args c meth cX8_nextOf 4 RX8 G) (hr : meth.sig.returnType = (some .int)) {out : Int32 × zHp} {r5 : Nat → Int32 → Int32 → Int32 → zHp → Option (Int32 × zHp)} (k5 : ∀ {a0 : Nat} {a1 : Int32} {a2 : Int32} {a3 : Int32} {h : zHp} {H : Heap} {locs : List Loc} {ls : Array Slot}, r5 a0 a1 a2 a3 h = some out → zE G s h H locs → lv_has ls 4 [(0, .ref a0), (1, .int a1), (2, .int a2), (3, .int a3)] → W p l e rm_X8_nextOf s m args below meth c H locs 0 0 (MQ below (zQi G out.1 out.2) args s 0 0 (zA G)) (F0 m 5 ls [])) {a0 : Nat} {a1 : Int32} {a2 : Int32} {a3 : Int32} {h : zHp} {H : Heap} {locs : List Loc} {ls : Array Slot} (hf : f_X8_nextOf_56 r5 a0 a1 a2 a3 h = some out) (E : zE G s h H locs) (hl : lv_has ls 4 [(0, .ref a0), (1, .int a1), (2, .int a2), (3, .int a3)]) : W p l e rm_X8_nextOf s m args below meth c H locs 0 0 (MQ below (zQi G out.1 out.2) args s 0 0 (zA G)) (F0 m 56 ls []) := by
  unfold f_X8_nextOf_56 at hf
  refine lv_iinc (v := (a3 + 1)) (lv' := [(3, .int (a3 + 1)), (0, .ref a0), (1, .int a1), (2, .int a2)]) Z.x Z.b dX8_nextOf_56 hl (k := 3) rfl rfl (by decide) rfl (fun ls hl => ?_)
  refine lv_goto (tgt := 5) Z.x Z.b dX8_nextOf_59 (by decide) ?_
  exact k5 hf E (lv_sub hl [1, 2, 3, 0] rfl)
set_option maxHeartbeats 4000000 in
set_option maxRecDepth 20000 in
theorem t_X8_nextOf_54 {p : Program} {l : Launch} {e : Env} {s : State} {m : MethodId} {args : Array Value} {below : List Frame} {meth : Method} {c : Code} {G : zG} (Z : zF p s m args c meth cX8_nextOf 4 RX8 G) (hr : meth.sig.returnType = (some .int)) {out : Int32 × zHp} {r5 : Nat → Int32 → Int32 → Int32 → zHp → Option (Int32 × zHp)} (k5 : ∀ {a0 : Nat} {a1 : Int32} {a2 : Int32} {a3 : Int32} {h : zHp} {H : Heap} {locs : List Loc} {ls : Array Slot}, r5 a0 a1 a2 a3 h = some out → zE G s h H locs → lv_has ls 4 [(0, .ref a0), (1, .int a1), (2, .int a2), (3, .int a3)] → W p l e rm_X8_nextOf s m args below meth c H locs 0 0 (MQ below (zQi G out.1 out.2) args s 0 0 (zA G)) (F0 m 5 ls [])) {a0 : Nat} {a1 : Int32} {a3 : Int32} {h : zHp} {H : Heap} {locs : List Loc} {ls : Array Slot} (hf : f_X8_nextOf_54 r5 a0 a1 a3 h = some out) (E : zE G s h H locs) (hl : lv_has ls 4 [(0, .ref a0), (1, .int a1), (3, .int a3)]) : W p l e rm_X8_nextOf s m args below meth c H locs 0 0 (MQ below (zQi G out.1 out.2) args s 0 0 (zA G)) (F0 m 54 ls []) := by
  unfold f_X8_nextOf_54 at hf
  refine lv_iload_n Z.x Z.b dX8_nextOf_54 rfl (lv_at hl 2 rfl) ?_
  refine lv_istore_n (lv' := [(2, .int a3), (0, .ref a0), (1, .int a1), (3, .int a3)]) Z.x Z.b dX8_nextOf_55 rfl hl (by decide) rfl (fun ls hl => ?_)
  exact t_X8_nextOf_56 Z hr k5 hf E (lv_sub hl [1, 2, 0, 3] rfl)
set_option maxHeartbeats 4000000 in
set_option maxRecDepth 20000 in
theorem t_X8_nextOf_5_body {p : Program} {l : Launch} {e : Env} {s : State} {m : MethodId} {args : Array Value} {below : List Frame} {meth : Method} {c : Code} {G : zG} (Z : zF p s m args c meth cX8_nextOf 4 RX8 G) (hr : meth.sig.returnType = (some .int)) {out : Int32 × zHp} {r5 : Nat → Int32 → Int32 → Int32 → zHp → Option (Int32 × zHp)} (k5 : ∀ {a0 : Nat} {a1 : Int32} {a2 : Int32} {a3 : Int32} {h : zHp} {H : Heap} {locs : List Loc} {ls : Array Slot}, r5 a0 a1 a2 a3 h = some out → zE G s h H locs → lv_has ls 4 [(0, .ref a0), (1, .int a1), (2, .int a2), (3, .int a3)] → W p l e rm_X8_nextOf s m args below meth c H locs 0 0 (MQ below (zQi G out.1 out.2) args s 0 0 (zA G)) (F0 m 5 ls [])) {a0 : Nat} {a1 : Int32} {a2 : Int32} {a3 : Int32} {h : zHp} {H : Heap} {locs : List Loc} {ls : Array Slot} (hf : f_X8_nextOf_5_body r5 a0 a1 a2 a3 h = some out) (E : zE G s h H locs) (hl : lv_has ls 4 [(0, .ref a0), (1, .int a1), (2, .int a2), (3, .int a3)]) : W p l e rm_X8_nextOf s m args below meth c H locs 0 0 (MQ below (zQi G out.1 out.2) args s 0 0 (zA G)) (F0 m 5 ls []) := by
  unfold f_X8_nextOf_5_body at hf
  refine lv_iload_n Z.x Z.b dX8_nextOf_5 rfl (lv_at hl 3 rfl) ?_
  refine lv_aload_n Z.x Z.b dX8_nextOf_6 rfl (lv_at hl 0 rfl) ?_
  refine z_getR Z E q_X8_7 dX8_nextOf_7 hf (fun v1 hf => ?_)
  refine lv_iconst (v := 1) Z.x Z.b dX8_nextOf_10 (by decide) ?_
  refine z_iald Z E dX8_nextOf_11 hf (fun v2 hf => ?_)
  refine lv_icmp_ge (tgt := 62) Z.x Z.b dX8_nextOf_12 (by decide) (fun c => ?_) (fun c => ?_)
  · have hf := zit hf c
    refine lv_iload_n Z.x Z.b dX8_nextOf_62 rfl (lv_at hl 2 rfl) ?_
    exact z_iret Z E hr dX8_nextOf_63 hf
  · have hf := zif_ hf c
    refine lv_aload_n Z.x Z.b dX8_nextOf_15 rfl (lv_at hl 0 rfl) ?_
    refine lv_iload_n Z.x Z.b dX8_nextOf_16 rfl (lv_at hl 3 rfl) ?_
    refine lv_iload_n Z.x Z.b dX8_nextOf_17 rfl (lv_at hl 1 rfl) ?_
    refine z_Vi (As := [.int a3, .int a1]) Z E hl.1 k_X8_46 v_X8_placeOf hf (fun r h' e => c_X8_placeOf l G h h' a0 a3 a1 r e) rfl rfl (Nat.le_of_ble_eq_true rfl) (zRm_of rfl (Nat.zero_le _) (Nat.zero_le _)) dX8_nextOf_18 (fun v3 h4 H locs hf E => ?_)
    refine lv_if_le (tgt := 56) Z.x Z.b dX8_nextOf_21 (by decide) (fun c => ?_) (fun c => ?_)
    · have hf := zit hf c
      exact t_X8_nextOf_56 Z hr k5 hf E (lv_sub hl [0, 1, 2, 3] rfl)
    · have hf := zif_ hf c
      refine lv_aload_n Z.x Z.b dX8_nextOf_24 rfl (lv_at hl 0 rfl) ?_
      refine lv_iload_n Z.x Z.b dX8_nextOf_25 rfl (lv_at hl 3 rfl) ?_
      refine lv_iconst (v := 0) Z.x Z.b dX8_nextOf_26 (by decide) ?_
      refine z_Vi (As := [.int a3, .int 0]) Z E hl.1 k_X8_62 v_X8_is hf (fun r h' e => c_X8_is l G h4 h' a0 a3 0 r e) rfl rfl (Nat.le_of_ble_eq_true rfl) (zRm_of rfl (Nat.zero_le _) (Nat.zero_le _)) dX8_nextOf_27 (fun v5 h6 H locs hf E => ?_)
      refine lv_if_eq (tgt := 56) Z.x Z.b dX8_nextOf_30 (by decide) (fun c => ?_) (fun c => ?_)
      · have hf := zit hf c
        exact t_X8_nextOf_56 Z hr k5 hf E (lv_sub hl [0, 1, 2, 3] rfl)
      · have hf := zif_ hf c
        refine lv_iload_n Z.x Z.b dX8_nextOf_33 rfl (lv_at hl 2 rfl) ?_
        refine lv_bipush (v := (-5)) Z.x Z.b dX8_nextOf_34 (by decide) ?_
        refine lv_icmp_eq (tgt := 54) Z.x Z.b dX8_nextOf_36 (by decide) (fun c => ?_) (fun c => ?_)
        · have hf := zit hf c
          exact t_X8_nextOf_54 Z hr k5 hf E (lv_sub hl [0, 1, 3] rfl)
        · have hf := zif_ hf c
          refine lv_aload_n Z.x Z.b dX8_nextOf_39 rfl (lv_at hl 0 rfl) ?_
          refine lv_iload_n Z.x Z.b dX8_nextOf_40 rfl (lv_at hl 3 rfl) ?_
          refine lv_iconst (v := 2) Z.x Z.b dX8_nextOf_41 (by decide) ?_
          refine z_Vi (As := [.int a3, .int 2]) Z E hl.1 k_X8_38 v_X8_of hf (fun r h' e => c_X8_of l G h6 h' a0 a3 2 r e) rfl rfl (Nat.le_of_ble_eq_true rfl) (zRm_of rfl (Nat.zero_le _) (Nat.zero_le _)) dX8_nextOf_42 (fun v7 h8 H locs hf E => ?_)
          refine lv_aload_n Z.x Z.b dX8_nextOf_45 rfl (lv_at hl 0 rfl) ?_
          refine lv_iload_n Z.x Z.b dX8_nextOf_46 rfl (lv_at hl 2 rfl) ?_
          refine lv_iconst (v := 2) Z.x Z.b dX8_nextOf_47 (by decide) ?_
          refine z_Vi (As := [.int a2, .int 2]) Z E hl.1 k_X8_38 v_X8_of hf (fun r h' e => c_X8_of l G h8 h' a0 a2 2 r e) rfl rfl (Nat.le_of_ble_eq_true rfl) (zRm_of rfl (Nat.zero_le _) (Nat.zero_le _)) dX8_nextOf_48 (fun v9 h10 H locs hf E => ?_)
          refine lv_icmp_ge (tgt := 56) Z.x Z.b dX8_nextOf_51 (by decide) (fun c => ?_) (fun c => ?_)
          · have hf := zit hf c
            exact t_X8_nextOf_56 Z hr k5 hf E (lv_sub hl [0, 1, 2, 3] rfl)
          · have hf := zif_ hf c
            exact t_X8_nextOf_54 Z hr k5 hf E (lv_sub hl [0, 1, 3] rfl)
theorem t_X8_nextOf_5 {p : Program} {l : Launch} {e : Env} {s : State} {m : MethodId} {args : Array Value} {below : List Frame} {meth : Method} {c : Code} {G : zG} (Z : zF p s m args c meth cX8_nextOf 4 RX8 G) (hr : meth.sig.returnType = (some .int)) {out : Int32 × zHp} : ∀ (n : Nat), ∀ {a0 : Nat} {a1 : Int32} {a2 : Int32} {a3 : Int32} {h : zHp} {H : Heap} {locs : List Loc} {ls : Array Slot}, f_X8_nextOf_5 n a0 a1 a2 a3 h = some out → zE G s h H locs → lv_has ls 4 [(0, .ref a0), (1, .int a1), (2, .int a2), (3, .int a3)] → W p l e rm_X8_nextOf s m args below meth c H locs 0 0 (MQ below (zQi G out.1 out.2) args s 0 0 (zA G)) (F0 m 5 ls [])
  | 0 => fun hf => by cases hf
  | n + 1 => fun hf E hl => t_X8_nextOf_5_body Z hr (r5 := f_X8_nextOf_5 n) (t_X8_nextOf_5 Z hr n) hf E hl
set_option maxHeartbeats 4000000 in
set_option maxRecDepth 20000 in
theorem t_X8_nextOf {p : Program} {l : Launch} {e : Env} {s : State} {m : MethodId} {args : Array Value} {below : List Frame} {meth : Method} {c : Code} {G : zG} (Z : zF p s m args c meth cX8_nextOf 4 RX8 G) (hr : meth.sig.returnType = (some .int)) {out : Int32 × zHp} {a0 : Nat} {a1 : Int32} {h : zHp} {H : Heap} {locs : List Loc} {ls : Array Slot} (hf : f_X8_nextOf a0 a1 h = some out) (E : zE G s h H locs) (hl : lv_has ls 4 [(0, .ref a0), (1, .int a1)]) : W p l e rm_X8_nextOf s m args below meth c H locs 0 0 (MQ below (zQi G out.1 out.2) args s 0 0 (zA G)) (F0 m 0 ls []) := by
  unfold f_X8_nextOf at hf
  refine lv_bipush (v := (-5)) Z.x Z.b dX8_nextOf_0 (by decide) ?_
  refine lv_istore_n (lv' := [(2, .int (-5)), (0, .ref a0), (1, .int a1)]) Z.x Z.b dX8_nextOf_2 rfl hl (by decide) rfl (fun ls hl => ?_)
  refine lv_iconst (v := 0) Z.x Z.b dX8_nextOf_3 (by decide) ?_
  refine lv_istore_n (lv' := [(3, .int 0), (2, .int (-5)), (0, .ref a0), (1, .int a1)]) Z.x Z.b dX8_nextOf_4 rfl hl (by decide) rfl (fun ls hl => ?_)
  exact t_X8_nextOf_5 Z hr zN hf E (lv_sub hl [2, 3, 1, 0] rfl)
set_option maxHeartbeats 4000000 in
set_option maxRecDepth 20000 in
theorem c_X8_nextOf (l : Launch) (G : zG) (h : zHp) (h' : zHp) (a0 : Nat) (a1 : Int32) (r : Int32) (hf : f_X8_nextOf a0 a1 h = some (r, h')) : zM0 l yX8_nextOf cX8_nextOf 4 (some .int) rm_X8_nextOf G [.ref a0, .int a1] h (zQi G r h') := by
  refine Met.ofW (cc := cX8_nextOf) (maxL := 4) (ret := (some .int)) (by decide) rfl ?_
  intro p e s m args below meth c s₁ B hml hv
  obtain ⟨rfl, hW⟩ := hv
  obtain ⟨Z, E, hr⟩ := zEnter (own := RX8) B hml rfl hW
  have hl := lv_entry ([.ref a0, .int a1]) (n := 4) (Nat.le_of_ble_eq_true rfl)
  rw [lg_entry_eq]
  generalize (lg_sl ([.ref a0, .int a1]) ++ List.replicate (4 - (lg_sl ([.ref a0, .int a1])).length) Slot.unset).toArray = ls at hl ⊢
  have hl : lv_has ls 4 [(0, .ref a0), (1, .int a1)] := hl
  exact t_X8_nextOf (out := (r, h')) Z hr hf E hl
/-! FerryCrewsModel.memberOf(II)I -/
theorem dX8_memberOf_0 : decode cX8_memberOf 0 = .ok (.aload_n 0, 1) := by decide +kernel
theorem dX8_memberOf_1 : decode cX8_memberOf 1 = .ok (.iload_n 1, 1) := by decide +kernel
theorem dX8_memberOf_2 : decode cX8_memberOf 2 = .ok (.invokevirtual 160, 3) := by decide +kernel
theorem dX8_memberOf_5 : decode cX8_memberOf 5 = .ok (.ifCond .ne 5, 3) := by decide +kernel
theorem dX8_memberOf_8 : decode cX8_memberOf 8 = .ok (.iconst (-1), 1) := by decide +kernel
theorem dX8_memberOf_9 : decode cX8_memberOf 9 = .ok (.ireturn, 1) := by decide +kernel
theorem dX8_memberOf_10 : decode cX8_memberOf 10 = .ok (.iload_n 2, 1) := by decide +kernel
theorem dX8_memberOf_11 : decode cX8_memberOf 11 = .ok (.tableswitch 113 0 9 #[53, 53, 53, 53, 60, 80, 87, 94, 100, 107], 53) := by decide +kernel
theorem dX8_memberOf_64 : decode cX8_memberOf 64 = .ok (.aload_n 0, 1) := by decide +kernel
theorem dX8_memberOf_65 : decode cX8_memberOf 65 = .ok (.iload_n 1, 1) := by decide +kernel
theorem dX8_memberOf_66 : decode cX8_memberOf 66 = .ok (.iload_n 2, 1) := by decide +kernel
theorem dX8_memberOf_67 : decode cX8_memberOf 67 = .ok (.invokevirtual 59, 3) := by decide +kernel
theorem dX8_memberOf_70 : decode cX8_memberOf 70 = .ok (.ireturn, 1) := by decide +kernel
theorem dX8_memberOf_71 : decode cX8_memberOf 71 = .ok (.aload_n 0, 1) := by decide +kernel
theorem dX8_memberOf_72 : decode cX8_memberOf 72 = .ok (.iload_n 1, 1) := by decide +kernel
theorem dX8_memberOf_73 : decode cX8_memberOf 73 = .ok (.invokevirtual 89, 3) := by decide +kernel
theorem dX8_memberOf_76 : decode cX8_memberOf 76 = .ok (.ifCond .eq 12, 3) := by decide +kernel
theorem dX8_memberOf_79 : decode cX8_memberOf 79 = .ok (.aload_n 0, 1) := by decide +kernel
theorem dX8_memberOf_80 : decode cX8_memberOf 80 = .ok (.iload_n 1, 1) := by decide +kernel
theorem dX8_memberOf_81 : decode cX8_memberOf 81 = .ok (.iconst 4, 1) := by decide +kernel
theorem dX8_memberOf_82 : decode cX8_memberOf 82 = .ok (.invokevirtual 59, 3) := by decide +kernel
theorem dX8_memberOf_85 : decode cX8_memberOf 85 = .ok (.goto 5, 3) := by decide +kernel
theorem dX8_memberOf_88 : decode cX8_memberOf 88 = .ok (.bipush (-5), 2) := by decide +kernel
theorem dX8_memberOf_90 : decode cX8_memberOf 90 = .ok (.ireturn, 1) := by decide +kernel
theorem dX8_memberOf_91 : decode cX8_memberOf 91 = .ok (.aload_n 0, 1) := by decide +kernel
theorem dX8_memberOf_92 : decode cX8_memberOf 92 = .ok (.iload_n 1, 1) := by decide +kernel
theorem dX8_memberOf_93 : decode cX8_memberOf 93 = .ok (.iconst 0, 1) := by decide +kernel
theorem dX8_memberOf_94 : decode cX8_memberOf 94 = .ok (.invokevirtual 198, 3) := by decide +kernel
theorem dX8_memberOf_97 : decode cX8_memberOf 97 = .ok (.ireturn, 1) := by decide +kernel
theorem dX8_memberOf_98 : decode cX8_memberOf 98 = .ok (.aload_n 0, 1) := by decide +kernel
theorem dX8_memberOf_99 : decode cX8_memberOf 99 = .ok (.iload_n 1, 1) := by decide +kernel
theorem dX8_memberOf_100 : decode cX8_memberOf 100 = .ok (.iconst 1, 1) := by decide +kernel
theorem dX8_memberOf_101 : decode cX8_memberOf 101 = .ok (.invokevirtual 198, 3) := by decide +kernel
theorem dX8_memberOf_104 : decode cX8_memberOf 104 = .ok (.ireturn, 1) := by decide +kernel
theorem dX8_memberOf_105 : decode cX8_memberOf 105 = .ok (.aload_n 0, 1) := by decide +kernel
theorem dX8_memberOf_106 : decode cX8_memberOf 106 = .ok (.iload_n 1, 1) := by decide +kernel
theorem dX8_memberOf_107 : decode cX8_memberOf 107 = .ok (.invokevirtual 201, 3) := by decide +kernel
theorem dX8_memberOf_110 : decode cX8_memberOf 110 = .ok (.ireturn, 1) := by decide +kernel
theorem dX8_memberOf_111 : decode cX8_memberOf 111 = .ok (.aload_n 0, 1) := by decide +kernel
theorem dX8_memberOf_112 : decode cX8_memberOf 112 = .ok (.iload_n 1, 1) := by decide +kernel
theorem dX8_memberOf_113 : decode cX8_memberOf 113 = .ok (.iconst 5, 1) := by decide +kernel
theorem dX8_memberOf_114 : decode cX8_memberOf 114 = .ok (.invokevirtual 59, 3) := by decide +kernel
theorem dX8_memberOf_117 : decode cX8_memberOf 117 = .ok (.ireturn, 1) := by decide +kernel
theorem dX8_memberOf_118 : decode cX8_memberOf 118 = .ok (.aload_n 0, 1) := by decide +kernel
theorem dX8_memberOf_119 : decode cX8_memberOf 119 = .ok (.iload_n 1, 1) := by decide +kernel
theorem dX8_memberOf_120 : decode cX8_memberOf 120 = .ok (.invokevirtual 204, 3) := by decide +kernel
theorem dX8_memberOf_123 : decode cX8_memberOf 123 = .ok (.ireturn, 1) := by decide +kernel
theorem dX8_memberOf_124 : decode cX8_memberOf 124 = .ok (.bipush (-2), 2) := by decide +kernel
theorem dX8_memberOf_126 : decode cX8_memberOf 126 = .ok (.ireturn, 1) := by decide +kernel
set_option maxRecDepth 20000 in
theorem wc_X8_placesThat : Cond.code yX8_placesThat cX8_placesThat 5 (some .int) ∈ zB := List.mem_filter.mpr ⟨List.mem_of_getElem? (i := 1114) (by decide +kernel), by decide +kernel⟩
set_option maxRecDepth 20000 in
theorem wm_X8_198 : Cond.methodLink RX8 198 yX8_placesThat ∈ zB := List.mem_filter.mpr ⟨List.mem_of_getElem? (i := 1111) (by decide +kernel), by decide +kernel⟩
theorem k_X8_198 : zCal RX8 198 yX8_placesThat cX8_placesThat 5 (some .int) 2 := ⟨wm_X8_198, wi_X8, wc_X8_placesThat, by decide +kernel, by decide +kernel, by decide +kernel⟩
set_option maxRecDepth 20000 in
theorem wn_X8_placesThat : Cond.instanceMethod yX8_placesThat ∈ zB := List.mem_filter.mpr ⟨List.mem_of_getElem? (i := 1113) (by decide +kernel), by decide +kernel⟩
set_option maxRecDepth 20000 in
theorem ws_X8_placesThat : Cond.selects RX8 yX8_placesThat yX8_placesThat ∈ zB := List.mem_filter.mpr ⟨List.mem_of_getElem? (i := 53) (by decide +kernel), by decide +kernel⟩
theorem v_X8_placesThat : zVir yX8_placesThat 8 := ⟨wn_X8_placesThat, ws_X8_placesThat, TX8, 12, rfl⟩
set_option maxRecDepth 20000 in
theorem wc_X8_dutyHours : Cond.code yX8_dutyHours cX8_dutyHours 4 (some .int) ∈ zB := List.mem_filter.mpr ⟨List.mem_of_getElem? (i := 1118) (by decide +kernel), by decide +kernel⟩
set_option maxRecDepth 20000 in
theorem wm_X8_201 : Cond.methodLink RX8 201 yX8_dutyHours ∈ zB := List.mem_filter.mpr ⟨List.mem_of_getElem? (i := 1115) (by decide +kernel), by decide +kernel⟩
theorem k_X8_201 : zCal RX8 201 yX8_dutyHours cX8_dutyHours 4 (some .int) 1 := ⟨wm_X8_201, wi_X8, wc_X8_dutyHours, by decide +kernel, by decide +kernel, by decide +kernel⟩
set_option maxRecDepth 20000 in
theorem wn_X8_dutyHours : Cond.instanceMethod yX8_dutyHours ∈ zB := List.mem_filter.mpr ⟨List.mem_of_getElem? (i := 1117) (by decide +kernel), by decide +kernel⟩
set_option maxRecDepth 20000 in
theorem ws_X8_dutyHours : Cond.selects RX8 yX8_dutyHours yX8_dutyHours ∈ zB := List.mem_filter.mpr ⟨List.mem_of_getElem? (i := 54) (by decide +kernel), by decide +kernel⟩
theorem v_X8_dutyHours : zVir yX8_dutyHours 8 := ⟨wn_X8_dutyHours, ws_X8_dutyHours, TX8, 12, rfl⟩
set_option maxRecDepth 20000 in
theorem wc_X8_nextOf : Cond.code yX8_nextOf cX8_nextOf 4 (some .int) ∈ zB := List.mem_filter.mpr ⟨List.mem_of_getElem? (i := 1122) (by decide +kernel), by decide +kernel⟩
set_option maxRecDepth 20000 in
theorem wm_X8_204 : Cond.methodLink RX8 204 yX8_nextOf ∈ zB := List.mem_filter.mpr ⟨List.mem_of_getElem? (i := 1119) (by decide +kernel), by decide +kernel⟩
theorem k_X8_204 : zCal RX8 204 yX8_nextOf cX8_nextOf 4 (some .int) 1 := ⟨wm_X8_204, wi_X8, wc_X8_nextOf, by decide +kernel, by decide +kernel, by decide +kernel⟩
set_option maxRecDepth 20000 in
theorem wn_X8_nextOf : Cond.instanceMethod yX8_nextOf ∈ zB := List.mem_filter.mpr ⟨List.mem_of_getElem? (i := 1121) (by decide +kernel), by decide +kernel⟩
set_option maxRecDepth 20000 in
theorem ws_X8_nextOf : Cond.selects RX8 yX8_nextOf yX8_nextOf ∈ zB := List.mem_filter.mpr ⟨List.mem_of_getElem? (i := 55) (by decide +kernel), by decide +kernel⟩
theorem v_X8_nextOf : zVir yX8_nextOf 8 := ⟨wn_X8_nextOf, ws_X8_nextOf, TX8, 12, rfl⟩
def rm_X8_memberOf : Room := { frames := 6, cells := 0, slots := 0, locals := 137 }
set_option maxHeartbeats 4000000 in
set_option maxRecDepth 20000 in
theorem t_X8_memberOf {p : Program} {l : Launch} {e : Env} {s : State} {m : MethodId} {args : Array Value} {below : List Frame} {meth : Method} {c : Code} {G : zG} (Z : zF p s m args c meth cX8_memberOf 3 RX8 G) (hr : meth.sig.returnType = (some .int)) {out : Int32 × zHp} {a0 : Nat} {a1 : Int32} {a2 : Int32} {h : zHp} {H : Heap} {locs : List Loc} {ls : Array Slot} (hf : f_X8_memberOf a0 a1 a2 h = some out) (E : zE G s h H locs) (hl : lv_has ls 3 [(0, .ref a0), (1, .int a1), (2, .int a2)]) : W p l e rm_X8_memberOf s m args below meth c H locs 0 0 (MQ below (zQi G out.1 out.2) args s 0 0 (zA G)) (F0 m 0 ls []) := by
  unfold f_X8_memberOf at hf
  refine lv_aload_n Z.x Z.b dX8_memberOf_0 rfl (lv_at hl 0 rfl) ?_
  refine lv_iload_n Z.x Z.b dX8_memberOf_1 rfl (lv_at hl 1 rfl) ?_
  refine z_Vi (As := [.int a1]) Z E hl.1 k_X8_160 v_X8_isMember hf (fun r h' e => c_X8_isMember l G h h' a0 a1 r e) rfl rfl (Nat.le_of_ble_eq_true rfl) (zRm_of rfl (Nat.zero_le _) (Nat.zero_le _)) dX8_memberOf_2 (fun v1 h2 H locs hf E => ?_)
  refine lv_if_ne (tgt := 10) Z.x Z.b dX8_memberOf_5 (by decide) (fun c => ?_) (fun c => ?_)
  · have hf := zif_ hf c
    refine lv_iload_n Z.x Z.b dX8_memberOf_10 rfl (lv_at hl 2 rfl) ?_
    by_cases c0 : a2 = 0
    · have hf := zit hf c0
      refine lv_tableIn (tgt := 64) Z.x Z.b dX8_memberOf_11 (by rw [c0]; decide) (by rw [c0]; decide) (by rw [c0]; rfl) (by decide) ?_
      refine lv_aload_n Z.x Z.b dX8_memberOf_64 rfl (lv_at hl 0 rfl) ?_
      refine lv_iload_n Z.x Z.b dX8_memberOf_65 rfl (lv_at hl 1 rfl) ?_
      refine lv_iload_n Z.x Z.b dX8_memberOf_66 rfl (lv_at hl 2 rfl) ?_
      refine z_Vi (As := [.int a1, .int a2]) Z E hl.1 k_X8_59 v_X8_has hf (fun r h' e => c_X8_has l G h2 h' a0 a1 a2 r e) rfl rfl (Nat.le_of_ble_eq_true rfl) (zRm_of rfl (Nat.zero_le _) (Nat.zero_le _)) dX8_memberOf_67 (fun v3 h4 H locs hf E => ?_)
      exact z_iret Z E hr dX8_memberOf_70 hf
    · have hf := zif_ hf c0
      by_cases c1 : a2 = 1
      · have hf := zit hf c1
        refine lv_tableIn (tgt := 64) Z.x Z.b dX8_memberOf_11 (by rw [c1]; decide) (by rw [c1]; decide) (by rw [c1]; rfl) (by decide) ?_
        refine lv_aload_n Z.x Z.b dX8_memberOf_64 rfl (lv_at hl 0 rfl) ?_
        refine lv_iload_n Z.x Z.b dX8_memberOf_65 rfl (lv_at hl 1 rfl) ?_
        refine lv_iload_n Z.x Z.b dX8_memberOf_66 rfl (lv_at hl 2 rfl) ?_
        refine z_Vi (As := [.int a1, .int a2]) Z E hl.1 k_X8_59 v_X8_has hf (fun r h' e => c_X8_has l G h2 h' a0 a1 a2 r e) rfl rfl (Nat.le_of_ble_eq_true rfl) (zRm_of rfl (Nat.zero_le _) (Nat.zero_le _)) dX8_memberOf_67 (fun v5 h6 H locs hf E => ?_)
        exact z_iret Z E hr dX8_memberOf_70 hf
      · have hf := zif_ hf c1
        by_cases c2 : a2 = 2
        · have hf := zit hf c2
          refine lv_tableIn (tgt := 64) Z.x Z.b dX8_memberOf_11 (by rw [c2]; decide) (by rw [c2]; decide) (by rw [c2]; rfl) (by decide) ?_
          refine lv_aload_n Z.x Z.b dX8_memberOf_64 rfl (lv_at hl 0 rfl) ?_
          refine lv_iload_n Z.x Z.b dX8_memberOf_65 rfl (lv_at hl 1 rfl) ?_
          refine lv_iload_n Z.x Z.b dX8_memberOf_66 rfl (lv_at hl 2 rfl) ?_
          refine z_Vi (As := [.int a1, .int a2]) Z E hl.1 k_X8_59 v_X8_has hf (fun r h' e => c_X8_has l G h2 h' a0 a1 a2 r e) rfl rfl (Nat.le_of_ble_eq_true rfl) (zRm_of rfl (Nat.zero_le _) (Nat.zero_le _)) dX8_memberOf_67 (fun v7 h8 H locs hf E => ?_)
          exact z_iret Z E hr dX8_memberOf_70 hf
        · have hf := zif_ hf c2
          by_cases c3 : a2 = 3
          · have hf := zit hf c3
            refine lv_tableIn (tgt := 64) Z.x Z.b dX8_memberOf_11 (by rw [c3]; decide) (by rw [c3]; decide) (by rw [c3]; rfl) (by decide) ?_
            refine lv_aload_n Z.x Z.b dX8_memberOf_64 rfl (lv_at hl 0 rfl) ?_
            refine lv_iload_n Z.x Z.b dX8_memberOf_65 rfl (lv_at hl 1 rfl) ?_
            refine lv_iload_n Z.x Z.b dX8_memberOf_66 rfl (lv_at hl 2 rfl) ?_
            refine z_Vi (As := [.int a1, .int a2]) Z E hl.1 k_X8_59 v_X8_has hf (fun r h' e => c_X8_has l G h2 h' a0 a1 a2 r e) rfl rfl (Nat.le_of_ble_eq_true rfl) (zRm_of rfl (Nat.zero_le _) (Nat.zero_le _)) dX8_memberOf_67 (fun v9 h10 H locs hf E => ?_)
            exact z_iret Z E hr dX8_memberOf_70 hf
          · have hf := zif_ hf c3
            by_cases c4 : a2 = 4
            · have hf := zit hf c4
              refine lv_tableIn (tgt := 71) Z.x Z.b dX8_memberOf_11 (by rw [c4]; decide) (by rw [c4]; decide) (by rw [c4]; rfl) (by decide) ?_
              refine lv_aload_n Z.x Z.b dX8_memberOf_71 rfl (lv_at hl 0 rfl) ?_
              refine lv_iload_n Z.x Z.b dX8_memberOf_72 rfl (lv_at hl 1 rfl) ?_
              refine z_Vi (As := [.int a1]) Z E hl.1 k_X8_89 v_X8_isSick hf (fun r h' e => c_X8_isSick l G h2 h' a0 a1 r e) rfl rfl (Nat.le_of_ble_eq_true rfl) (zRm_of rfl (Nat.zero_le _) (Nat.zero_le _)) dX8_memberOf_73 (fun v11 h12 H locs hf E => ?_)
              refine lv_if_eq (tgt := 88) Z.x Z.b dX8_memberOf_76 (by decide) (fun c => ?_) (fun c => ?_)
              · have hf := zit hf c
                refine lv_bipush (v := (-5)) Z.x Z.b dX8_memberOf_88 (by decide) ?_
                exact z_iret Z E hr dX8_memberOf_90 hf
              · have hf := zif_ hf c
                refine lv_aload_n Z.x Z.b dX8_memberOf_79 rfl (lv_at hl 0 rfl) ?_
                refine lv_iload_n Z.x Z.b dX8_memberOf_80 rfl (lv_at hl 1 rfl) ?_
                refine lv_iconst (v := 4) Z.x Z.b dX8_memberOf_81 (by decide) ?_
                refine z_Vi (As := [.int a1, .int 4]) Z E hl.1 k_X8_59 v_X8_has hf (fun r h' e => c_X8_has l G h12 h' a0 a1 4 r e) rfl rfl (Nat.le_of_ble_eq_true rfl) (zRm_of rfl (Nat.zero_le _) (Nat.zero_le _)) dX8_memberOf_82 (fun v13 h14 H locs hf E => ?_)
                refine lv_goto (tgt := 90) Z.x Z.b dX8_memberOf_85 (by decide) ?_
                exact z_iret Z E hr dX8_memberOf_90 hf
            · have hf := zif_ hf c4
              by_cases c5 : a2 = 5
              · have hf := zit hf c5
                refine lv_tableIn (tgt := 91) Z.x Z.b dX8_memberOf_11 (by rw [c5]; decide) (by rw [c5]; decide) (by rw [c5]; rfl) (by decide) ?_
                refine lv_aload_n Z.x Z.b dX8_memberOf_91 rfl (lv_at hl 0 rfl) ?_
                refine lv_iload_n Z.x Z.b dX8_memberOf_92 rfl (lv_at hl 1 rfl) ?_
                refine lv_iconst (v := 0) Z.x Z.b dX8_memberOf_93 (by decide) ?_
                refine z_Vi (As := [.int a1, .int 0]) Z E hl.1 k_X8_198 v_X8_placesThat hf (fun r h' e => c_X8_placesThat l G h2 h' a0 a1 0 r e) rfl rfl (Nat.le_of_ble_eq_true rfl) (zRm_of rfl (Nat.zero_le _) (Nat.zero_le _)) dX8_memberOf_94 (fun v15 h16 H locs hf E => ?_)
                exact z_iret Z E hr dX8_memberOf_97 hf
              · have hf := zif_ hf c5
                by_cases c6 : a2 = 6
                · have hf := zit hf c6
                  refine lv_tableIn (tgt := 98) Z.x Z.b dX8_memberOf_11 (by rw [c6]; decide) (by rw [c6]; decide) (by rw [c6]; rfl) (by decide) ?_
                  refine lv_aload_n Z.x Z.b dX8_memberOf_98 rfl (lv_at hl 0 rfl) ?_
                  refine lv_iload_n Z.x Z.b dX8_memberOf_99 rfl (lv_at hl 1 rfl) ?_
                  refine lv_iconst (v := 1) Z.x Z.b dX8_memberOf_100 (by decide) ?_
                  refine z_Vi (As := [.int a1, .int 1]) Z E hl.1 k_X8_198 v_X8_placesThat hf (fun r h' e => c_X8_placesThat l G h2 h' a0 a1 1 r e) rfl rfl (Nat.le_of_ble_eq_true rfl) (zRm_of rfl (Nat.zero_le _) (Nat.zero_le _)) dX8_memberOf_101 (fun v17 h18 H locs hf E => ?_)
                  exact z_iret Z E hr dX8_memberOf_104 hf
                · have hf := zif_ hf c6
                  by_cases c7 : a2 = 7
                  · have hf := zit hf c7
                    refine lv_tableIn (tgt := 105) Z.x Z.b dX8_memberOf_11 (by rw [c7]; decide) (by rw [c7]; decide) (by rw [c7]; rfl) (by decide) ?_
                    refine lv_aload_n Z.x Z.b dX8_memberOf_105 rfl (lv_at hl 0 rfl) ?_
                    refine lv_iload_n Z.x Z.b dX8_memberOf_106 rfl (lv_at hl 1 rfl) ?_
                    refine z_Vi (As := [.int a1]) Z E hl.1 k_X8_201 v_X8_dutyHours hf (fun r h' e => c_X8_dutyHours l G h2 h' a0 a1 r e) rfl rfl (Nat.le_of_ble_eq_true rfl) (zRm_of rfl (Nat.zero_le _) (Nat.zero_le _)) dX8_memberOf_107 (fun v19 h20 H locs hf E => ?_)
                    exact z_iret Z E hr dX8_memberOf_110 hf
                  · have hf := zif_ hf c7
                    by_cases c8 : a2 = 8
                    · have hf := zit hf c8
                      refine lv_tableIn (tgt := 111) Z.x Z.b dX8_memberOf_11 (by rw [c8]; decide) (by rw [c8]; decide) (by rw [c8]; rfl) (by decide) ?_
                      refine lv_aload_n Z.x Z.b dX8_memberOf_111 rfl (lv_at hl 0 rfl) ?_
                      refine lv_iload_n Z.x Z.b dX8_memberOf_112 rfl (lv_at hl 1 rfl) ?_
                      refine lv_iconst (v := 5) Z.x Z.b dX8_memberOf_113 (by decide) ?_
                      refine z_Vi (As := [.int a1, .int 5]) Z E hl.1 k_X8_59 v_X8_has hf (fun r h' e => c_X8_has l G h2 h' a0 a1 5 r e) rfl rfl (Nat.le_of_ble_eq_true rfl) (zRm_of rfl (Nat.zero_le _) (Nat.zero_le _)) dX8_memberOf_114 (fun v21 h22 H locs hf E => ?_)
                      exact z_iret Z E hr dX8_memberOf_117 hf
                    · have hf := zif_ hf c8
                      by_cases c9 : a2 = 9
                      · have hf := zit hf c9
                        refine lv_tableIn (tgt := 118) Z.x Z.b dX8_memberOf_11 (by rw [c9]; decide) (by rw [c9]; decide) (by rw [c9]; rfl) (by decide) ?_
                        refine lv_aload_n Z.x Z.b dX8_memberOf_118 rfl (lv_at hl 0 rfl) ?_
                        refine lv_iload_n Z.x Z.b dX8_memberOf_119 rfl (lv_at hl 1 rfl) ?_
                        refine z_Vi (As := [.int a1]) Z E hl.1 k_X8_204 v_X8_nextOf hf (fun r h' e => c_X8_nextOf l G h2 h' a0 a1 r e) rfl rfl (Nat.le_of_ble_eq_true rfl) (zRm_of rfl (Nat.zero_le _) (Nat.zero_le _)) dX8_memberOf_120 (fun v23 h24 H locs hf E => ?_)
                        exact z_iret Z E hr dX8_memberOf_123 hf
                      · have hf := zif_ hf c9
                        have n0 := zsw (k := 0) c0 (by decide)
                        have n1 := zsw (k := 1) c1 (by decide)
                        have n2 := zsw (k := 2) c2 (by decide)
                        have n3 := zsw (k := 3) c3 (by decide)
                        have n4 := zsw (k := 4) c4 (by decide)
                        have n5 := zsw (k := 5) c5 (by decide)
                        have n6 := zsw (k := 6) c6 (by decide)
                        have n7 := zsw (k := 7) c7 (by decide)
                        have n8 := zsw (k := 8) c8 (by decide)
                        have n9 := zsw (k := 9) c9 (by decide)
                        refine lv_tableOut (tgt := 124) Z.x Z.b dX8_memberOf_11 (by omega) (by decide) ?_
                        refine lv_bipush (v := (-2)) Z.x Z.b dX8_memberOf_124 (by decide) ?_
                        exact z_iret Z E hr dX8_memberOf_126 hf
  · have hf := zit hf c
    refine lv_iconst (v := (-1)) Z.x Z.b dX8_memberOf_8 (by decide) ?_
    exact z_iret Z E hr dX8_memberOf_9 hf
set_option maxHeartbeats 4000000 in
set_option maxRecDepth 20000 in
theorem c_X8_memberOf (l : Launch) (G : zG) (h : zHp) (h' : zHp) (a0 : Nat) (a1 : Int32) (a2 : Int32) (r : Int32) (hf : f_X8_memberOf a0 a1 a2 h = some (r, h')) : zM0 l yX8_memberOf cX8_memberOf 3 (some .int) rm_X8_memberOf G [.ref a0, .int a1, .int a2] h (zQi G r h') := by
  refine Met.ofW (cc := cX8_memberOf) (maxL := 3) (ret := (some .int)) (by decide) rfl ?_
  intro p e s m args below meth c s₁ B hml hv
  obtain ⟨rfl, hW⟩ := hv
  obtain ⟨Z, E, hr⟩ := zEnter (own := RX8) B hml rfl hW
  have hl := lv_entry ([.ref a0, .int a1, .int a2]) (n := 3) (Nat.le_of_ble_eq_true rfl)
  rw [lg_entry_eq]
  generalize (lg_sl ([.ref a0, .int a1, .int a2]) ++ List.replicate (3 - (lg_sl ([.ref a0, .int a1, .int a2])).length) Slot.unset).toArray = ls at hl ⊢
  have hl : lv_has ls 3 [(0, .ref a0), (1, .int a1), (2, .int a2)] := hl
  exact t_X8_memberOf (out := (r, h')) Z hr hf E hl
/-! FerryCrewsModel.ladder(II)I -/
theorem dX8_ladder_0 : decode cX8_ladder 0 = .ok (.iload_n 1, 1) := by decide +kernel
theorem dX8_ladder_1 : decode cX8_ladder 1 = .ok (.invokestatic 157, 3) := by decide +kernel
theorem dX8_ladder_4 : decode cX8_ladder 4 = .ok (.ifCond .ne 5, 3) := by decide +kernel
theorem dX8_ladder_7 : decode cX8_ladder 7 = .ok (.iconst (-1), 1) := by decide +kernel
theorem dX8_ladder_8 : decode cX8_ladder 8 = .ok (.ireturn, 1) := by decide +kernel
theorem dX8_ladder_9 : decode cX8_ladder 9 = .ok (.iload_n 2, 1) := by decide +kernel
theorem dX8_ladder_10 : decode cX8_ladder 10 = .ok (.ifCond .ge 6, 3) := by decide +kernel
theorem dX8_ladder_13 : decode cX8_ladder 13 = .ok (.bipush (-2), 2) := by decide +kernel
theorem dX8_ladder_15 : decode cX8_ladder 15 = .ok (.ireturn, 1) := by decide +kernel
theorem dX8_ladder_16 : decode cX8_ladder 16 = .ok (.iload_n 2, 1) := by decide +kernel
theorem dX8_ladder_17 : decode cX8_ladder 17 = .ok (.aload_n 0, 1) := by decide +kernel
theorem dX8_ladder_18 : decode cX8_ladder 18 = .ok (.getfield 7, 3) := by decide +kernel
theorem dX8_ladder_21 : decode cX8_ladder 21 = .ok (.sipush 1041, 3) := by decide +kernel
theorem dX8_ladder_24 : decode cX8_ladder 24 = .ok (.iload_n 1, 1) := by decide +kernel
theorem dX8_ladder_25 : decode cX8_ladder 25 = .ok (.iadd, 1) := by decide +kernel
theorem dX8_ladder_26 : decode cX8_ladder 26 = .ok (.iaload, 1) := by decide +kernel
theorem dX8_ladder_27 : decode cX8_ladder 27 = .ok (.if_icmp .ge 21, 3) := by decide +kernel
theorem dX8_ladder_30 : decode cX8_ladder 30 = .ok (.aload_n 0, 1) := by decide +kernel
theorem dX8_ladder_31 : decode cX8_ladder 31 = .ok (.getfield 7, 3) := by decide +kernel
theorem dX8_ladder_34 : decode cX8_ladder 34 = .ok (.sipush 1045, 3) := by decide +kernel
theorem dX8_ladder_37 : decode cX8_ladder 37 = .ok (.bipush 12, 2) := by decide +kernel
theorem dX8_ladder_39 : decode cX8_ladder 39 = .ok (.iload_n 1, 1) := by decide +kernel
theorem dX8_ladder_40 : decode cX8_ladder 40 = .ok (.imul, 1) := by decide +kernel
theorem dX8_ladder_41 : decode cX8_ladder 41 = .ok (.iadd, 1) := by decide +kernel
theorem dX8_ladder_42 : decode cX8_ladder 42 = .ok (.iload_n 2, 1) := by decide +kernel
theorem dX8_ladder_43 : decode cX8_ladder 43 = .ok (.iadd, 1) := by decide +kernel
theorem dX8_ladder_44 : decode cX8_ladder 44 = .ok (.iaload, 1) := by decide +kernel
theorem dX8_ladder_45 : decode cX8_ladder 45 = .ok (.goto 5, 3) := by decide +kernel
theorem dX8_ladder_48 : decode cX8_ladder 48 = .ok (.bipush (-5), 2) := by decide +kernel
theorem dX8_ladder_50 : decode cX8_ladder 50 = .ok (.ireturn, 1) := by decide +kernel
def rm_X8_ladder : Room := { frames := 2, cells := 0, slots := 0, locals := 42 }
set_option maxHeartbeats 4000000 in
set_option maxRecDepth 20000 in
theorem t_X8_ladder {p : Program} {l : Launch} {e : Env} {s : State} {m : MethodId} {args : Array Value} {below : List Frame} {meth : Method} {c : Code} {G : zG} (Z : zF p s m args c meth cX8_ladder 3 RX8 G) (hr : meth.sig.returnType = (some .int)) {out : Int32 × zHp} {a0 : Nat} {a1 : Int32} {a2 : Int32} {h : zHp} {H : Heap} {locs : List Loc} {ls : Array Slot} (hf : f_X8_ladder a0 a1 a2 h = some out) (E : zE G s h H locs) (hl : lv_has ls 3 [(0, .ref a0), (1, .int a1), (2, .int a2)]) : W p l e rm_X8_ladder s m args below meth c H locs 0 0 (MQ below (zQi G out.1 out.2) args s 0 0 (zA G)) (F0 m 0 ls []) := by
  unfold f_X8_ladder at hf
  refine lv_iload_n Z.x Z.b dX8_ladder_0 rfl (lv_at hl 1 rfl) ?_
  refine z_Si (As := [.int a1]) Z E hl.1 k_X8_157 wt_X8_isRole hf (fun r h' e => c_X8_isRole l G h h' a1 r e) rfl rfl (Nat.le_of_ble_eq_true rfl) (zRm_of rfl (Nat.zero_le _) (Nat.zero_le _)) dX8_ladder_1 (fun v1 h2 H locs hf E => ?_)
  refine lv_if_ne (tgt := 9) Z.x Z.b dX8_ladder_4 (by decide) (fun c => ?_) (fun c => ?_)
  · have hf := zif_ hf c
    refine lv_iload_n Z.x Z.b dX8_ladder_9 rfl (lv_at hl 2 rfl) ?_
    refine lv_if_ge (tgt := 16) Z.x Z.b dX8_ladder_10 (by decide) (fun c => ?_) (fun c => ?_)
    · have hf := zit hf c
      refine lv_iload_n Z.x Z.b dX8_ladder_16 rfl (lv_at hl 2 rfl) ?_
      refine lv_aload_n Z.x Z.b dX8_ladder_17 rfl (lv_at hl 0 rfl) ?_
      refine z_getR Z E q_X8_7 dX8_ladder_18 hf (fun v3 hf => ?_)
      refine lv_sipush (v := 1041) Z.x Z.b dX8_ladder_21 (by decide) ?_
      refine lv_iload_n Z.x Z.b dX8_ladder_24 rfl (lv_at hl 1 rfl) ?_
      refine lv_iadd Z.x Z.b dX8_ladder_25 ?_
      refine z_iald Z E dX8_ladder_26 hf (fun v4 hf => ?_)
      refine lv_icmp_ge (tgt := 48) Z.x Z.b dX8_ladder_27 (by decide) (fun c => ?_) (fun c => ?_)
      · have hf := zit hf c
        refine lv_bipush (v := (-5)) Z.x Z.b dX8_ladder_48 (by decide) ?_
        exact z_iret Z E hr dX8_ladder_50 hf
      · have hf := zif_ hf c
        refine lv_aload_n Z.x Z.b dX8_ladder_30 rfl (lv_at hl 0 rfl) ?_
        refine z_getR Z E q_X8_7 dX8_ladder_31 hf (fun v5 hf => ?_)
        refine lv_sipush (v := 1045) Z.x Z.b dX8_ladder_34 (by decide) ?_
        refine lv_bipush (v := 12) Z.x Z.b dX8_ladder_37 (by decide) ?_
        refine lv_iload_n Z.x Z.b dX8_ladder_39 rfl (lv_at hl 1 rfl) ?_
        refine lv_imul Z.x Z.b dX8_ladder_40 ?_
        refine lv_iadd Z.x Z.b dX8_ladder_41 ?_
        refine lv_iload_n Z.x Z.b dX8_ladder_42 rfl (lv_at hl 2 rfl) ?_
        refine lv_iadd Z.x Z.b dX8_ladder_43 ?_
        refine z_iald Z E dX8_ladder_44 hf (fun v6 hf => ?_)
        refine lv_goto (tgt := 50) Z.x Z.b dX8_ladder_45 (by decide) ?_
        exact z_iret Z E hr dX8_ladder_50 hf
    · have hf := zif_ hf c
      refine lv_bipush (v := (-2)) Z.x Z.b dX8_ladder_13 (by decide) ?_
      exact z_iret Z E hr dX8_ladder_15 hf
  · have hf := zit hf c
    refine lv_iconst (v := (-1)) Z.x Z.b dX8_ladder_7 (by decide) ?_
    exact z_iret Z E hr dX8_ladder_8 hf
set_option maxHeartbeats 4000000 in
set_option maxRecDepth 20000 in
theorem c_X8_ladder (l : Launch) (G : zG) (h : zHp) (h' : zHp) (a0 : Nat) (a1 : Int32) (a2 : Int32) (r : Int32) (hf : f_X8_ladder a0 a1 a2 h = some (r, h')) : zM0 l yX8_ladder cX8_ladder 3 (some .int) rm_X8_ladder G [.ref a0, .int a1, .int a2] h (zQi G r h') := by
  refine Met.ofW (cc := cX8_ladder) (maxL := 3) (ret := (some .int)) (by decide) rfl ?_
  intro p e s m args below meth c s₁ B hml hv
  obtain ⟨rfl, hW⟩ := hv
  obtain ⟨Z, E, hr⟩ := zEnter (own := RX8) B hml rfl hW
  have hl := lv_entry ([.ref a0, .int a1, .int a2]) (n := 3) (Nat.le_of_ble_eq_true rfl)
  rw [lg_entry_eq]
  generalize (lg_sl ([.ref a0, .int a1, .int a2]) ++ List.replicate (3 - (lg_sl ([.ref a0, .int a1, .int a2])).length) Slot.unset).toArray = ls at hl ⊢
  have hl : lv_has ls 3 [(0, .ref a0), (1, .int a1), (2, .int a2)] := hl
  exact t_X8_ladder (out := (r, h')) Z hr hf E hl
/-! FerryCrewsModel.rest(III)I -/
theorem dX8_rest_0 : decode cX8_rest 0 = .ok (.aload_n 0, 1) := by decide +kernel
theorem dX8_rest_1 : decode cX8_rest 1 = .ok (.iload_n 1, 1) := by decide +kernel
theorem dX8_rest_2 : decode cX8_rest 2 = .ok (.invokevirtual 160, 3) := by decide +kernel
theorem dX8_rest_5 : decode cX8_rest 5 = .ok (.ifCond .ne 5, 3) := by decide +kernel
theorem dX8_rest_8 : decode cX8_rest 8 = .ok (.iconst (-1), 1) := by decide +kernel
theorem dX8_rest_9 : decode cX8_rest 9 = .ok (.ireturn, 1) := by decide +kernel
theorem dX8_rest_10 : decode cX8_rest 10 = .ok (.iload_n 2, 1) := by decide +kernel
theorem dX8_rest_11 : decode cX8_rest 11 = .ok (.iconst 0, 1) := by decide +kernel
theorem dX8_rest_12 : decode cX8_rest 12 = .ok (.sipush 1000, 3) := by decide +kernel
theorem dX8_rest_15 : decode cX8_rest 15 = .ok (.invokestatic 42, 3) := by decide +kernel
theorem dX8_rest_18 : decode cX8_rest 18 = .ok (.ifCond .eq 14, 3) := by decide +kernel
theorem dX8_rest_21 : decode cX8_rest 21 = .ok (.iload_n 3, 1) := by decide +kernel
theorem dX8_rest_22 : decode cX8_rest 22 = .ok (.iconst 1, 1) := by decide +kernel
theorem dX8_rest_23 : decode cX8_rest 23 = .ok (.sipush 168, 3) := by decide +kernel
theorem dX8_rest_26 : decode cX8_rest 26 = .ok (.invokestatic 42, 3) := by decide +kernel
theorem dX8_rest_29 : decode cX8_rest 29 = .ok (.ifCond .ne 6, 3) := by decide +kernel
theorem dX8_rest_32 : decode cX8_rest 32 = .ok (.bipush (-2), 2) := by decide +kernel
theorem dX8_rest_34 : decode cX8_rest 34 = .ok (.ireturn, 1) := by decide +kernel
theorem dX8_rest_35 : decode cX8_rest 35 = .ok (.aload_n 0, 1) := by decide +kernel
theorem dX8_rest_36 : decode cX8_rest 36 = .ok (.iload_n 1, 1) := by decide +kernel
theorem dX8_rest_37 : decode cX8_rest 37 = .ok (.invokevirtual 78, 3) := by decide +kernel
theorem dX8_rest_40 : decode cX8_rest 40 = .ok (.aload_n 0, 1) := by decide +kernel
theorem dX8_rest_41 : decode cX8_rest 41 = .ok (.iload_n 2, 1) := by decide +kernel
theorem dX8_rest_42 : decode cX8_rest 42 = .ok (.iload_n 3, 1) := by decide +kernel
theorem dX8_rest_43 : decode cX8_rest 43 = .ok (.invokevirtual 75, 3) := by decide +kernel
theorem dX8_rest_46 : decode cX8_rest 46 = .ok (.ireturn, 1) := by decide +kernel
def rm_X8_rest : Room := { frames := 5, cells := 0, slots := 0, locals := 114 }
set_option maxHeartbeats 4000000 in
set_option maxRecDepth 20000 in
theorem t_X8_rest {p : Program} {l : Launch} {e : Env} {s : State} {m : MethodId} {args : Array Value} {below : List Frame} {meth : Method} {c : Code} {G : zG} (Z : zF p s m args c meth cX8_rest 4 RX8 G) (hr : meth.sig.returnType = (some .int)) {out : Int32 × zHp} {a0 : Nat} {a1 : Int32} {a2 : Int32} {a3 : Int32} {h : zHp} {H : Heap} {locs : List Loc} {ls : Array Slot} (hf : f_X8_rest a0 a1 a2 a3 h = some out) (E : zE G s h H locs) (hl : lv_has ls 4 [(0, .ref a0), (1, .int a1), (2, .int a2), (3, .int a3)]) : W p l e rm_X8_rest s m args below meth c H locs 0 0 (MQ below (zQi G out.1 out.2) args s 0 0 (zA G)) (F0 m 0 ls []) := by
  unfold f_X8_rest at hf
  refine lv_aload_n Z.x Z.b dX8_rest_0 rfl (lv_at hl 0 rfl) ?_
  refine lv_iload_n Z.x Z.b dX8_rest_1 rfl (lv_at hl 1 rfl) ?_
  refine z_Vi (As := [.int a1]) Z E hl.1 k_X8_160 v_X8_isMember hf (fun r h' e => c_X8_isMember l G h h' a0 a1 r e) rfl rfl (Nat.le_of_ble_eq_true rfl) (zRm_of rfl (Nat.zero_le _) (Nat.zero_le _)) dX8_rest_2 (fun v1 h2 H locs hf E => ?_)
  refine lv_if_ne (tgt := 10) Z.x Z.b dX8_rest_5 (by decide) (fun c => ?_) (fun c => ?_)
  · have hf := zif_ hf c
    refine lv_iload_n Z.x Z.b dX8_rest_10 rfl (lv_at hl 2 rfl) ?_
    refine lv_iconst (v := 0) Z.x Z.b dX8_rest_11 (by decide) ?_
    refine lv_sipush (v := 1000) Z.x Z.b dX8_rest_12 (by decide) ?_
    refine z_Si (As := [.int a2, .int 0, .int 1000]) Z E hl.1 k_X8_42 wt_X8_in hf (fun r h' e => c_X8_in l G h2 h' a2 0 1000 r e) rfl rfl (Nat.le_of_ble_eq_true rfl) (zRm_of rfl (Nat.zero_le _) (Nat.zero_le _)) dX8_rest_15 (fun v3 h4 H locs hf E => ?_)
    refine lv_if_eq (tgt := 32) Z.x Z.b dX8_rest_18 (by decide) (fun c => ?_) (fun c => ?_)
    · have hf := zit hf c
      refine lv_bipush (v := (-2)) Z.x Z.b dX8_rest_32 (by decide) ?_
      exact z_iret Z E hr dX8_rest_34 hf
    · have hf := zif_ hf c
      refine lv_iload_n Z.x Z.b dX8_rest_21 rfl (lv_at hl 3 rfl) ?_
      refine lv_iconst (v := 1) Z.x Z.b dX8_rest_22 (by decide) ?_
      refine lv_sipush (v := 168) Z.x Z.b dX8_rest_23 (by decide) ?_
      refine z_Si (As := [.int a3, .int 1, .int 168]) Z E hl.1 k_X8_42 wt_X8_in hf (fun r h' e => c_X8_in l G h4 h' a3 1 168 r e) rfl rfl (Nat.le_of_ble_eq_true rfl) (zRm_of rfl (Nat.zero_le _) (Nat.zero_le _)) dX8_rest_26 (fun v5 h6 H locs hf E => ?_)
      refine lv_if_ne (tgt := 35) Z.x Z.b dX8_rest_29 (by decide) (fun c => ?_) (fun c => ?_)
      · have hf := zif_ hf c
        refine lv_aload_n Z.x Z.b dX8_rest_35 rfl (lv_at hl 0 rfl) ?_
        refine lv_iload_n Z.x Z.b dX8_rest_36 rfl (lv_at hl 1 rfl) ?_
        refine z_Vv (As := [.int a1]) Z E hl.1 k_X8_78 v_X8_countDuties hf (fun h' e => c_X8_countDuties l G h6 h' a0 a1 e) rfl rfl (Nat.le_of_ble_eq_true rfl) (zRm_of rfl (Nat.zero_le _) (Nat.zero_le _)) dX8_rest_37 (fun h7 H locs hf E => ?_)
        refine lv_aload_n Z.x Z.b dX8_rest_40 rfl (lv_at hl 0 rfl) ?_
        refine lv_iload_n Z.x Z.b dX8_rest_41 rfl (lv_at hl 2 rfl) ?_
        refine lv_iload_n Z.x Z.b dX8_rest_42 rfl (lv_at hl 3 rfl) ?_
        refine z_Vi (As := [.int a2, .int a3]) Z E hl.1 k_X8_75 v_X8_without hf (fun r h' e => c_X8_without l G h7 h' a0 a2 a3 r e) rfl rfl (Nat.le_of_ble_eq_true rfl) (zRm_of rfl (Nat.zero_le _) (Nat.zero_le _)) dX8_rest_43 (fun v8 h9 H locs hf E => ?_)
        exact z_iret Z E hr dX8_rest_46 hf
      · have hf := zit hf c
        refine lv_bipush (v := (-2)) Z.x Z.b dX8_rest_32 (by decide) ?_
        exact z_iret Z E hr dX8_rest_34 hf
  · have hf := zit hf c
    refine lv_iconst (v := (-1)) Z.x Z.b dX8_rest_8 (by decide) ?_
    exact z_iret Z E hr dX8_rest_9 hf
set_option maxHeartbeats 4000000 in
set_option maxRecDepth 20000 in
theorem c_X8_rest (l : Launch) (G : zG) (h : zHp) (h' : zHp) (a0 : Nat) (a1 : Int32) (a2 : Int32) (a3 : Int32) (r : Int32) (hf : f_X8_rest a0 a1 a2 a3 h = some (r, h')) : zM0 l yX8_rest cX8_rest 4 (some .int) rm_X8_rest G [.ref a0, .int a1, .int a2, .int a3] h (zQi G r h') := by
  refine Met.ofW (cc := cX8_rest) (maxL := 4) (ret := (some .int)) (by decide) rfl ?_
  intro p e s m args below meth c s₁ B hml hv
  obtain ⟨rfl, hW⟩ := hv
  obtain ⟨Z, E, hr⟩ := zEnter (own := RX8) B hml rfl hW
  have hl := lv_entry ([.ref a0, .int a1, .int a2, .int a3]) (n := 4) (Nat.le_of_ble_eq_true rfl)
  rw [lg_entry_eq]
  generalize (lg_sl ([.ref a0, .int a1, .int a2, .int a3]) ++ List.replicate (4 - (lg_sl ([.ref a0, .int a1, .int a2, .int a3])).length) Slot.unset).toArray = ls at hl ⊢
  have hl : lv_has ls 4 [(0, .ref a0), (1, .int a1), (2, .int a2), (3, .int a3)] := hl
  exact t_X8_rest (out := (r, h')) Z hr hf E hl
