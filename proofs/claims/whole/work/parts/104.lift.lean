/-! FerryCrews.pass(I)I -/
theorem dX7_pass_0 : decode cX7_pass 0 = .ok (.iload_n 1, 1) := by decide +kernel
theorem dX7_pass_1 : decode cX7_pass 1 = .ok (.iconst 1, 1) := by decide +kernel
theorem dX7_pass_2 : decode cX7_pass 2 = .ok (.sipush 200, 3) := by decide +kernel
theorem dX7_pass_5 : decode cX7_pass 5 = .ok (.invokestatic 88, 3) := by decide +kernel
theorem dX7_pass_8 : decode cX7_pass 8 = .ok (.ifCond .ne 6, 3) := by decide +kernel
theorem dX7_pass_11 : decode cX7_pass 11 = .ok (.bipush (-2), 2) := by decide +kernel
theorem dX7_pass_13 : decode cX7_pass 13 = .ok (.ireturn, 1) := by decide +kernel
theorem dX7_pass_14 : decode cX7_pass 14 = .ok (.aload_n 0, 1) := by decide +kernel
theorem dX7_pass_15 : decode cX7_pass 15 = .ok (.getfield 17, 3) := by decide +kernel
theorem dX7_pass_18 : decode cX7_pass 18 = .ok (.getfield 133, 3) := by decide +kernel
theorem dX7_pass_21 : decode cX7_pass 21 = .ok (.iload_n 1, 1) := by decide +kernel
theorem dX7_pass_22 : decode cX7_pass 22 = .ok (.iadd, 1) := by decide +kernel
theorem dX7_pass_23 : decode cX7_pass 23 = .ok (.sipush 1000, 3) := by decide +kernel
theorem dX7_pass_26 : decode cX7_pass 26 = .ok (.if_icmp .le 6, 3) := by decide +kernel
theorem dX7_pass_29 : decode cX7_pass 29 = .ok (.bipush (-3), 2) := by decide +kernel
theorem dX7_pass_31 : decode cX7_pass 31 = .ok (.ireturn, 1) := by decide +kernel
theorem dX7_pass_32 : decode cX7_pass 32 = .ok (.aload_n 0, 1) := by decide +kernel
theorem dX7_pass_33 : decode cX7_pass 33 = .ok (.getfield 30, 3) := by decide +kernel
theorem dX7_pass_36 : decode cX7_pass 36 = .ok (.aload_n 0, 1) := by decide +kernel
theorem dX7_pass_37 : decode cX7_pass 37 = .ok (.getfield 17, 3) := by decide +kernel
theorem dX7_pass_40 : decode cX7_pass 40 = .ok (.invokevirtual 49, 3) := by decide +kernel
theorem dX7_pass_43 : decode cX7_pass 43 = .ok (.aload_n 0, 1) := by decide +kernel
theorem dX7_pass_44 : decode cX7_pass 44 = .ok (.getfield 17, 3) := by decide +kernel
theorem dX7_pass_47 : decode cX7_pass 47 = .ok (.iload_n 1, 1) := by decide +kernel
theorem dX7_pass_48 : decode cX7_pass 48 = .ok (.invokevirtual 157, 3) := by decide +kernel
theorem dX7_pass_51 : decode cX7_pass 51 = .ok (.ireturn, 1) := by decide +kernel
set_option maxRecDepth 20000 in
theorem wc_X5_goOn : Cond.code yX5_goOn cX5_goOn 6 (some .int) ∈ zB := List.mem_filter.mpr ⟨List.mem_of_getElem? (i := 614) (by decide +kernel), by decide +kernel⟩
set_option maxRecDepth 20000 in
theorem wm_X7_157 : Cond.methodLink RX7 157 yX5_goOn ∈ zB := List.mem_filter.mpr ⟨List.mem_of_getElem? (i := 611) (by decide +kernel), by decide +kernel⟩
theorem k_X7_157 : zCal RX7 157 yX5_goOn cX5_goOn 6 (some .int) 1 := ⟨wm_X7_157, wi_X5, wc_X5_goOn, by decide +kernel, by decide +kernel, by decide +kernel⟩
set_option maxRecDepth 20000 in
theorem wn_X5_goOn : Cond.instanceMethod yX5_goOn ∈ zB := List.mem_filter.mpr ⟨List.mem_of_getElem? (i := 612) (by decide +kernel), by decide +kernel⟩
set_option maxRecDepth 20000 in
theorem ws_X5_goOn : Cond.selects RX5 yX5_goOn yX5_goOn ∈ zB := List.mem_filter.mpr ⟨List.mem_of_getElem? (i := 613) (by decide +kernel), by decide +kernel⟩
theorem v_X5_goOn : zVir yX5_goOn 5 := ⟨wn_X5_goOn, ws_X5_goOn, TX5, 8, rfl⟩
def rm_X7_pass : Room := { frames := 4, cells := 0, slots := 0, locals := 104 }
set_option maxHeartbeats 4000000 in
set_option maxRecDepth 20000 in
theorem t_X7_pass {p : Program} {l : Launch} {e : Env} {s : State} {m : MethodId} {args : Array Value} {below : List Frame} {meth : Method} {c : Code} {G : zG} (Z : zF p s m args c meth cX7_pass 2 RX7 G) (hr : meth.sig.returnType = (some .int)) {out : Int32 × zHp} {a0 : Nat} {a1 : Int32} {h : zHp} {H : Heap} {locs : List Loc} {ls : Array Slot} (hf : f_X7_pass a0 a1 h = some out) (E : zE G s h H locs) (hl : lv_has ls 2 [(0, .ref a0), (1, .int a1)]) : W p l e rm_X7_pass s m args below meth c H locs 0 0 (MQ below (zQi G out.1 out.2) args s 0 0 (zA G)) (F0 m 0 ls []) := by
  unfold f_X7_pass at hf
  refine lv_iload_n Z.x Z.b dX7_pass_0 rfl (lv_at hl 1 rfl) ?_
  refine lv_iconst (v := 1) Z.x Z.b dX7_pass_1 (by decide) ?_
  refine lv_sipush (v := 200) Z.x Z.b dX7_pass_2 (by decide) ?_
  refine z_Si (As := [.int a1, .int 1, .int 200]) Z E hl.1 k_X7_88 wt_X7_isWithin hf (fun r h' e => c_X7_isWithin l G h h' a1 1 200 r e) rfl rfl (Nat.le_of_ble_eq_true rfl) (zRm_of rfl (Nat.zero_le _) (Nat.zero_le _)) dX7_pass_5 (fun v1 h2 H locs hf E => ?_)
  refine lv_if_ne (tgt := 14) Z.x Z.b dX7_pass_8 (by decide) (fun c => ?_) (fun c => ?_)
  · have hf := zif_ hf c
    refine lv_aload_n Z.x Z.b dX7_pass_14 rfl (lv_at hl 0 rfl) ?_
    refine z_getR Z E q_X7_17 dX7_pass_15 hf (fun v3 hf => ?_)
    refine z_getI Z E q_X7_133 dX7_pass_18 hf (fun v4 hf => ?_)
    refine lv_iload_n Z.x Z.b dX7_pass_21 rfl (lv_at hl 1 rfl) ?_
    refine lv_iadd Z.x Z.b dX7_pass_22 ?_
    refine lv_sipush (v := 1000) Z.x Z.b dX7_pass_23 (by decide) ?_
    refine lv_icmp_le (tgt := 32) Z.x Z.b dX7_pass_26 (by decide) (fun c => ?_) (fun c => ?_)
    · have hf := zit hf c
      refine lv_aload_n Z.x Z.b dX7_pass_32 rfl (lv_at hl 0 rfl) ?_
      refine z_getR Z E q_X7_30 dX7_pass_33 hf (fun v5 hf => ?_)
      refine lv_aload_n Z.x Z.b dX7_pass_36 rfl (lv_at hl 0 rfl) ?_
      refine z_getR Z E q_X7_17 dX7_pass_37 hf (fun v6 hf => ?_)
      refine z_Vv (As := [.ref v6]) Z E hl.1 k_X7_49 v_X1_record hf (fun h' e => c_X1_record l G h2 h' v5 v6 e) rfl rfl (Nat.le_of_ble_eq_true rfl) (zRm_of rfl (Nat.zero_le _) (Nat.zero_le _)) dX7_pass_40 (fun h7 H locs hf E => ?_)
      refine lv_aload_n Z.x Z.b dX7_pass_43 rfl (lv_at hl 0 rfl) ?_
      refine z_getR Z E q_X7_17 dX7_pass_44 hf (fun v8 hf => ?_)
      refine lv_iload_n Z.x Z.b dX7_pass_47 rfl (lv_at hl 1 rfl) ?_
      refine z_Vi (As := [.int a1]) Z E hl.1 k_X7_157 v_X5_goOn hf (fun r h' e => c_X5_goOn l G h7 h' v8 a1 r e) rfl rfl (Nat.le_of_ble_eq_true rfl) (zRm_of rfl (Nat.zero_le _) (Nat.zero_le _)) dX7_pass_48 (fun v9 h10 H locs hf E => ?_)
      exact z_iret Z E hr dX7_pass_51 hf
    · have hf := zif_ hf c
      refine lv_bipush (v := (-3)) Z.x Z.b dX7_pass_29 (by decide) ?_
      exact z_iret Z E hr dX7_pass_31 hf
  · have hf := zit hf c
    refine lv_bipush (v := (-2)) Z.x Z.b dX7_pass_11 (by decide) ?_
    exact z_iret Z E hr dX7_pass_13 hf
set_option maxHeartbeats 4000000 in
set_option maxRecDepth 20000 in
theorem c_X7_pass (l : Launch) (G : zG) (h : zHp) (h' : zHp) (a0 : Nat) (a1 : Int32) (r : Int32) (hf : f_X7_pass a0 a1 h = some (r, h')) : zM0 l yX7_pass cX7_pass 2 (some .int) rm_X7_pass G [.ref a0, .int a1] h (zQi G r h') := by
  refine Met.ofW (cc := cX7_pass) (maxL := 2) (ret := (some .int)) (by decide) rfl ?_
  intro p e s m args below meth c s₁ B hml hv
  obtain ⟨rfl, hW⟩ := hv
  obtain ⟨Z, E, hr⟩ := zEnter (own := RX7) B hml rfl hW
  have hl := lv_entry ([.ref a0, .int a1]) (n := 2) (Nat.le_of_ble_eq_true rfl)
  rw [lg_entry_eq]
  generalize (lg_sl ([.ref a0, .int a1]) ++ List.replicate (2 - (lg_sl ([.ref a0, .int a1])).length) Slot.unset).toArray = ls at hl ⊢
  have hl : lv_has ls 2 [(0, .ref a0), (1, .int a1)] := hl
  exact t_X7_pass (out := (r, h')) Z hr hf E hl
/-! FerryCrews.set(II)I -/
theorem dX7_set_0 : decode cX7_set 0 = .ok (.iload_n 1, 1) := by decide +kernel
theorem dX7_set_1 : decode cX7_set 1 = .ok (.iconst 0, 1) := by decide +kernel
theorem dX7_set_2 : decode cX7_set 2 = .ok (.iconst 4, 1) := by decide +kernel
theorem dX7_set_3 : decode cX7_set 3 = .ok (.invokestatic 88, 3) := by decide +kernel
theorem dX7_set_6 : decode cX7_set 6 = .ok (.ifCond .eq 16, 3) := by decide +kernel
theorem dX7_set_9 : decode cX7_set 9 = .ok (.iload_n 2, 1) := by decide +kernel
theorem dX7_set_10 : decode cX7_set 10 = .ok (.iconst 0, 1) := by decide +kernel
theorem dX7_set_11 : decode cX7_set 11 = .ok (.getstatic 160, 3) := by decide +kernel
theorem dX7_set_14 : decode cX7_set 14 = .ok (.iload_n 1, 1) := by decide +kernel
theorem dX7_set_15 : decode cX7_set 15 = .ok (.iaload, 1) := by decide +kernel
theorem dX7_set_16 : decode cX7_set 16 = .ok (.invokestatic 88, 3) := by decide +kernel
theorem dX7_set_19 : decode cX7_set 19 = .ok (.ifCond .ne 6, 3) := by decide +kernel
theorem dX7_set_22 : decode cX7_set 22 = .ok (.bipush (-2), 2) := by decide +kernel
theorem dX7_set_24 : decode cX7_set 24 = .ok (.ireturn, 1) := by decide +kernel
theorem dX7_set_25 : decode cX7_set 25 = .ok (.aload_n 0, 1) := by decide +kernel
theorem dX7_set_26 : decode cX7_set 26 = .ok (.getfield 17, 3) := by decide +kernel
theorem dX7_set_29 : decode cX7_set 29 = .ok (.getfield 164, 3) := by decide +kernel
theorem dX7_set_32 : decode cX7_set 32 = .ok (.iload_n 1, 1) := by decide +kernel
theorem dX7_set_33 : decode cX7_set 33 = .ok (.iaload, 1) := by decide +kernel
theorem dX7_set_34 : decode cX7_set 34 = .ok (.istore_n 3, 1) := by decide +kernel
theorem dX7_set_35 : decode cX7_set 35 = .ok (.iload_n 2, 1) := by decide +kernel
theorem dX7_set_36 : decode cX7_set 36 = .ok (.iload_n 3, 1) := by decide +kernel
theorem dX7_set_37 : decode cX7_set 37 = .ok (.if_icmp .ne 6, 3) := by decide +kernel
theorem dX7_set_40 : decode cX7_set 40 = .ok (.bipush (-5), 2) := by decide +kernel
theorem dX7_set_42 : decode cX7_set 42 = .ok (.ireturn, 1) := by decide +kernel
theorem dX7_set_43 : decode cX7_set 43 = .ok (.aload_n 0, 1) := by decide +kernel
theorem dX7_set_44 : decode cX7_set 44 = .ok (.getfield 24, 3) := by decide +kernel
theorem dX7_set_47 : decode cX7_set 47 = .ok (.aload_n 0, 1) := by decide +kernel
theorem dX7_set_48 : decode cX7_set 48 = .ok (.getfield 17, 3) := by decide +kernel
theorem dX7_set_51 : decode cX7_set 51 = .ok (.invokevirtual 60, 3) := by decide +kernel
theorem dX7_set_54 : decode cX7_set 54 = .ok (.aload_n 0, 1) := by decide +kernel
theorem dX7_set_55 : decode cX7_set 55 = .ok (.getfield 24, 3) := by decide +kernel
theorem dX7_set_58 : decode cX7_set 58 = .ok (.getfield 164, 3) := by decide +kernel
theorem dX7_set_61 : decode cX7_set 61 = .ok (.iload_n 1, 1) := by decide +kernel
theorem dX7_set_62 : decode cX7_set 62 = .ok (.iload_n 2, 1) := by decide +kernel
theorem dX7_set_63 : decode cX7_set 63 = .ok (.iastore, 1) := by decide +kernel
theorem dX7_set_64 : decode cX7_set 64 = .ok (.aload_n 0, 1) := by decide +kernel
theorem dX7_set_65 : decode cX7_set 65 = .ok (.getfield 24, 3) := by decide +kernel
theorem dX7_set_68 : decode cX7_set 68 = .ok (.invokevirtual 167, 3) := by decide +kernel
theorem dX7_set_71 : decode cX7_set 71 = .ok (.ifCond .ne 6, 3) := by decide +kernel
theorem dX7_set_74 : decode cX7_set 74 = .ok (.bipush (-4), 2) := by decide +kernel
theorem dX7_set_76 : decode cX7_set 76 = .ok (.ireturn, 1) := by decide +kernel
theorem dX7_set_77 : decode cX7_set 77 = .ok (.aload_n 0, 1) := by decide +kernel
theorem dX7_set_78 : decode cX7_set 78 = .ok (.getfield 30, 3) := by decide +kernel
theorem dX7_set_81 : decode cX7_set 81 = .ok (.aload_n 0, 1) := by decide +kernel
theorem dX7_set_82 : decode cX7_set 82 = .ok (.getfield 17, 3) := by decide +kernel
theorem dX7_set_85 : decode cX7_set 85 = .ok (.invokevirtual 49, 3) := by decide +kernel
theorem dX7_set_88 : decode cX7_set 88 = .ok (.aload_n 0, 1) := by decide +kernel
theorem dX7_set_89 : decode cX7_set 89 = .ok (.getfield 17, 3) := by decide +kernel
theorem dX7_set_92 : decode cX7_set 92 = .ok (.getfield 164, 3) := by decide +kernel
theorem dX7_set_95 : decode cX7_set 95 = .ok (.iload_n 1, 1) := by decide +kernel
theorem dX7_set_96 : decode cX7_set 96 = .ok (.iload_n 2, 1) := by decide +kernel
theorem dX7_set_97 : decode cX7_set 97 = .ok (.iastore, 1) := by decide +kernel
theorem dX7_set_98 : decode cX7_set 98 = .ok (.iload_n 3, 1) := by decide +kernel
theorem dX7_set_99 : decode cX7_set 99 = .ok (.ireturn, 1) := by decide +kernel
set_option maxRecDepth 20000 in
theorem wf_X7_160 : Cond.fieldLink RX7 160 RX7 "HIGHEST_SETTINGS" "[I" ∈ zB := List.mem_filter.mpr ⟨List.mem_of_getElem? (i := 625) (by decide +kernel), by decide +kernel⟩
set_option maxRecDepth 20000 in
theorem wf_X7_164 : Cond.fieldLink RX7 164 RX5 "settings" "[I" ∈ zB := List.mem_filter.mpr ⟨List.mem_of_getElem? (i := 201) (by decide +kernel), by decide +kernel⟩
theorem q_X7_164 : zFld RX7 164 5 1 := ⟨RX5, TX5, 8, rfl, by decide, iX5, wf_X7_164, rfl⟩
set_option maxRecDepth 20000 in
theorem wc_X5_allRestsHold : Cond.code yX5_allRestsHold cX5_allRestsHold 3 (some .boolean) ∈ zB := List.mem_filter.mpr ⟨List.mem_of_getElem? (i := 630) (by decide +kernel), by decide +kernel⟩
set_option maxRecDepth 20000 in
theorem wm_X7_167 : Cond.methodLink RX7 167 yX5_allRestsHold ∈ zB := List.mem_filter.mpr ⟨List.mem_of_getElem? (i := 627) (by decide +kernel), by decide +kernel⟩
theorem k_X7_167 : zCal RX7 167 yX5_allRestsHold cX5_allRestsHold 3 (some .boolean) 0 := ⟨wm_X7_167, wi_X5, wc_X5_allRestsHold, by decide +kernel, by decide +kernel, by decide +kernel⟩
set_option maxRecDepth 20000 in
theorem wn_X5_allRestsHold : Cond.instanceMethod yX5_allRestsHold ∈ zB := List.mem_filter.mpr ⟨List.mem_of_getElem? (i := 628) (by decide +kernel), by decide +kernel⟩
set_option maxRecDepth 20000 in
theorem ws_X5_allRestsHold : Cond.selects RX5 yX5_allRestsHold yX5_allRestsHold ∈ zB := List.mem_filter.mpr ⟨List.mem_of_getElem? (i := 629) (by decide +kernel), by decide +kernel⟩
theorem v_X5_allRestsHold : zVir yX5_allRestsHold 5 := ⟨wn_X5_allRestsHold, ws_X5_allRestsHold, TX5, 8, rfl⟩
def rm_X7_set : Room := { frames := 5, cells := 0, slots := 0, locals := 110 }
set_option maxHeartbeats 4000000 in
set_option maxRecDepth 20000 in
theorem t_X7_set {p : Program} {l : Launch} {e : Env} {s : State} {m : MethodId} {args : Array Value} {below : List Frame} {meth : Method} {c : Code} {G : zG} (Z : zF p s m args c meth cX7_set 4 RX7 G) (hr : meth.sig.returnType = (some .int)) {out : Int32 × zHp} {a0 : Nat} {a1 : Int32} {a2 : Int32} {h : zHp} {H : Heap} {locs : List Loc} {ls : Array Slot} (hf : f_X7_set a0 a1 a2 h = some out) (E : zE G s h H locs) (hl : lv_has ls 4 [(0, .ref a0), (1, .int a1), (2, .int a2)]) : W p l e rm_X7_set s m args below meth c H locs 0 0 (MQ below (zQi G out.1 out.2) args s 0 0 (zA G)) (F0 m 0 ls []) := by
  unfold f_X7_set at hf
  refine lv_iload_n Z.x Z.b dX7_set_0 rfl (lv_at hl 1 rfl) ?_
  refine lv_iconst (v := 0) Z.x Z.b dX7_set_1 (by decide) ?_
  refine lv_iconst (v := 4) Z.x Z.b dX7_set_2 (by decide) ?_
  refine z_Si (As := [.int a1, .int 0, .int 4]) Z E hl.1 k_X7_88 wt_X7_isWithin hf (fun r h' e => c_X7_isWithin l G h h' a1 0 4 r e) rfl rfl (Nat.le_of_ble_eq_true rfl) (zRm_of rfl (Nat.zero_le _) (Nat.zero_le _)) dX7_set_3 (fun v1 h2 H locs hf E => ?_)
  refine lv_if_eq (tgt := 22) Z.x Z.b dX7_set_6 (by decide) (fun c => ?_) (fun c => ?_)
  · have hf := zit hf c
    refine lv_bipush (v := (-2)) Z.x Z.b dX7_set_22 (by decide) ?_
    exact z_iret Z E hr dX7_set_24 hf
  · have hf := zif_ hf c
    refine lv_iload_n Z.x Z.b dX7_set_9 rfl (lv_at hl 2 rfl) ?_
    refine lv_iconst (v := 0) Z.x Z.b dX7_set_10 (by decide) ?_
    refine z_tab (pc2 := 15) Z E Z.St.2 wf_X7_160 dX7_set_11 dX7_set_15 hf (fun t k => ?_) (fun v3 hf => ?_)
    · refine lv_iload_n Z.x Z.b dX7_set_14 rfl (lv_at hl 1 rfl) ?_
      exact k
    refine z_Si (As := [.int a2, .int 0, .int v3]) Z E hl.1 k_X7_88 wt_X7_isWithin hf (fun r h' e => c_X7_isWithin l G h2 h' a2 0 v3 r e) rfl rfl (Nat.le_of_ble_eq_true rfl) (zRm_of rfl (Nat.zero_le _) (Nat.zero_le _)) dX7_set_16 (fun v4 h5 H locs hf E => ?_)
    refine lv_if_ne (tgt := 25) Z.x Z.b dX7_set_19 (by decide) (fun c => ?_) (fun c => ?_)
    · have hf := zif_ hf c
      refine lv_aload_n Z.x Z.b dX7_set_25 rfl (lv_at hl 0 rfl) ?_
      refine z_getR Z E q_X7_17 dX7_set_26 hf (fun v6 hf => ?_)
      refine z_getR Z E q_X7_164 dX7_set_29 hf (fun v7 hf => ?_)
      refine lv_iload_n Z.x Z.b dX7_set_32 rfl (lv_at hl 1 rfl) ?_
      refine z_iald Z E dX7_set_33 hf (fun v8 hf => ?_)
      refine lv_istore_n (lv' := [(3, .int v8), (0, .ref a0), (1, .int a1), (2, .int a2)]) Z.x Z.b dX7_set_34 rfl hl (by decide) rfl (fun ls hl => ?_)
      refine lv_iload_n Z.x Z.b dX7_set_35 rfl (lv_at hl 3 rfl) ?_
      refine lv_iload_n Z.x Z.b dX7_set_36 rfl (lv_at hl 0 rfl) ?_
      refine lv_icmp_ne (tgt := 43) Z.x Z.b dX7_set_37 (by decide) (fun c => ?_) (fun c => ?_)
      · have hf := zif_ hf c
        refine lv_aload_n Z.x Z.b dX7_set_43 rfl (lv_at hl 1 rfl) ?_
        refine z_getR Z E q_X7_24 dX7_set_44 hf (fun v9 hf => ?_)
        refine lv_aload_n Z.x Z.b dX7_set_47 rfl (lv_at hl 1 rfl) ?_
        refine z_getR Z E q_X7_17 dX7_set_48 hf (fun v10 hf => ?_)
        refine z_Vv (As := [.ref v10]) Z E hl.1 k_X7_60 v_X5_copyFrom hf (fun h' e => c_X5_copyFrom l G h5 h' v9 v10 e) rfl rfl (Nat.le_of_ble_eq_true rfl) (zRm_of rfl (Nat.zero_le _) (Nat.zero_le _)) dX7_set_51 (fun h11 H locs hf E => ?_)
        refine lv_aload_n Z.x Z.b dX7_set_54 rfl (lv_at hl 1 rfl) ?_
        refine z_getR Z E q_X7_24 dX7_set_55 hf (fun v12 hf => ?_)
        refine z_getR Z E q_X7_164 dX7_set_58 hf (fun v13 hf => ?_)
        refine lv_iload_n Z.x Z.b dX7_set_61 rfl (lv_at hl 2 rfl) ?_
        refine lv_iload_n Z.x Z.b dX7_set_62 rfl (lv_at hl 3 rfl) ?_
        refine z_iast Z E dX7_set_63 hf (fun h14 H locs hf E => ?_)
        refine lv_aload_n Z.x Z.b dX7_set_64 rfl (lv_at hl 1 rfl) ?_
        refine z_getR Z E q_X7_24 dX7_set_65 hf (fun v15 hf => ?_)
        refine z_Vi (As := []) Z E hl.1 k_X7_167 v_X5_allRestsHold hf (fun r h' e => c_X5_allRestsHold l G h14 h' v15 r e) rfl rfl (Nat.le_of_ble_eq_true rfl) (zRm_of rfl (Nat.zero_le _) (Nat.zero_le _)) dX7_set_68 (fun v16 h17 H locs hf E => ?_)
        refine lv_if_ne (tgt := 77) Z.x Z.b dX7_set_71 (by decide) (fun c => ?_) (fun c => ?_)
        · have hf := zif_ hf c
          refine lv_aload_n Z.x Z.b dX7_set_77 rfl (lv_at hl 1 rfl) ?_
          refine z_getR Z E q_X7_30 dX7_set_78 hf (fun v18 hf => ?_)
          refine lv_aload_n Z.x Z.b dX7_set_81 rfl (lv_at hl 1 rfl) ?_
          refine z_getR Z E q_X7_17 dX7_set_82 hf (fun v19 hf => ?_)
          refine z_Vv (As := [.ref v19]) Z E hl.1 k_X7_49 v_X1_record hf (fun h' e => c_X1_record l G h17 h' v18 v19 e) rfl rfl (Nat.le_of_ble_eq_true rfl) (zRm_of rfl (Nat.zero_le _) (Nat.zero_le _)) dX7_set_85 (fun h20 H locs hf E => ?_)
          refine lv_aload_n Z.x Z.b dX7_set_88 rfl (lv_at hl 1 rfl) ?_
          refine z_getR Z E q_X7_17 dX7_set_89 hf (fun v21 hf => ?_)
          refine z_getR Z E q_X7_164 dX7_set_92 hf (fun v22 hf => ?_)
          refine lv_iload_n Z.x Z.b dX7_set_95 rfl (lv_at hl 2 rfl) ?_
          refine lv_iload_n Z.x Z.b dX7_set_96 rfl (lv_at hl 3 rfl) ?_
          refine z_iast Z E dX7_set_97 hf (fun h23 H locs hf E => ?_)
          refine lv_iload_n Z.x Z.b dX7_set_98 rfl (lv_at hl 0 rfl) ?_
          exact z_iret Z E hr dX7_set_99 hf
        · have hf := zit hf c
          refine lv_bipush (v := (-4)) Z.x Z.b dX7_set_74 (by decide) ?_
          exact z_iret Z E hr dX7_set_76 hf
      · have hf := zit hf c
        refine lv_bipush (v := (-5)) Z.x Z.b dX7_set_40 (by decide) ?_
        exact z_iret Z E hr dX7_set_42 hf
    · have hf := zit hf c
      refine lv_bipush (v := (-2)) Z.x Z.b dX7_set_22 (by decide) ?_
      exact z_iret Z E hr dX7_set_24 hf
set_option maxHeartbeats 4000000 in
set_option maxRecDepth 20000 in
theorem c_X7_set (l : Launch) (G : zG) (h : zHp) (h' : zHp) (a0 : Nat) (a1 : Int32) (a2 : Int32) (r : Int32) (hf : f_X7_set a0 a1 a2 h = some (r, h')) : zM0 l yX7_set cX7_set 4 (some .int) rm_X7_set G [.ref a0, .int a1, .int a2] h (zQi G r h') := by
  refine Met.ofW (cc := cX7_set) (maxL := 4) (ret := (some .int)) (by decide) rfl ?_
  intro p e s m args below meth c s₁ B hml hv
  obtain ⟨rfl, hW⟩ := hv
  obtain ⟨Z, E, hr⟩ := zEnter (own := RX7) B hml rfl hW
  have hl := lv_entry ([.ref a0, .int a1, .int a2]) (n := 4) (Nat.le_of_ble_eq_true rfl)
  rw [lg_entry_eq]
  generalize (lg_sl ([.ref a0, .int a1, .int a2]) ++ List.replicate (4 - (lg_sl ([.ref a0, .int a1, .int a2])).length) Slot.unset).toArray = ls at hl ⊢
  have hl : lv_has ls 4 [(0, .ref a0), (1, .int a1), (2, .int a2)] := hl
  exact t_X7_set (out := (r, h')) Z hr hf E hl
/-! FerryCrews.type(C)I -/
theorem dX7_type_0 : decode cX7_type 0 = .ok (.aload_n 0, 1) := by decide +kernel
theorem dX7_type_1 : decode cX7_type 1 = .ok (.getfield 37, 3) := by decide +kernel
theorem dX7_type_4 : decode cX7_type 4 = .ok (.iload_n 1, 1) := by decide +kernel
theorem dX7_type_5 : decode cX7_type 5 = .ok (.invokevirtual 170, 3) := by decide +kernel
theorem dX7_type_8 : decode cX7_type 8 = .ok (.ireturn, 1) := by decide +kernel
set_option maxRecDepth 20000 in
theorem wc_X6_append : Cond.code yX6_append cX6_append 2 (some .int) ∈ zB := List.mem_filter.mpr ⟨List.mem_of_getElem? (i := 638) (by decide +kernel), by decide +kernel⟩
set_option maxRecDepth 20000 in
theorem wm_X7_170 : Cond.methodLink RX7 170 yX6_append ∈ zB := List.mem_filter.mpr ⟨List.mem_of_getElem? (i := 635) (by decide +kernel), by decide +kernel⟩
theorem k_X7_170 : zCal RX7 170 yX6_append cX6_append 2 (some .int) 1 := ⟨wm_X7_170, wi_X6, wc_X6_append, by decide +kernel, by decide +kernel, by decide +kernel⟩
set_option maxRecDepth 20000 in
theorem wn_X6_append : Cond.instanceMethod yX6_append ∈ zB := List.mem_filter.mpr ⟨List.mem_of_getElem? (i := 636) (by decide +kernel), by decide +kernel⟩
set_option maxRecDepth 20000 in
theorem ws_X6_append : Cond.selects RX6 yX6_append yX6_append ∈ zB := List.mem_filter.mpr ⟨List.mem_of_getElem? (i := 637) (by decide +kernel), by decide +kernel⟩
theorem v_X6_append : zVir yX6_append 6 := ⟨wn_X6_append, ws_X6_append, TX6, 8, rfl⟩
def rm_X7_type : Room := { frames := 2, cells := 0, slots := 0, locals := 43 }
set_option maxHeartbeats 4000000 in
set_option maxRecDepth 20000 in
theorem t_X7_type {p : Program} {l : Launch} {e : Env} {s : State} {m : MethodId} {args : Array Value} {below : List Frame} {meth : Method} {c : Code} {G : zG} (Z : zF p s m args c meth cX7_type 2 RX7 G) (hr : meth.sig.returnType = (some .int)) {out : Int32 × zHp} {a0 : Nat} {a1 : Int32} {h : zHp} {H : Heap} {locs : List Loc} {ls : Array Slot} (hf : f_X7_type a0 a1 h = some out) (E : zE G s h H locs) (hl : lv_has ls 2 [(0, .ref a0), (1, .int a1)]) : W p l e rm_X7_type s m args below meth c H locs 0 0 (MQ below (zQi G out.1 out.2) args s 0 0 (zA G)) (F0 m 0 ls []) := by
  unfold f_X7_type at hf
  refine lv_aload_n Z.x Z.b dX7_type_0 rfl (lv_at hl 0 rfl) ?_
  refine z_getR Z E q_X7_37 dX7_type_1 hf (fun v1 hf => ?_)
  refine lv_iload_n Z.x Z.b dX7_type_4 rfl (lv_at hl 1 rfl) ?_
  refine z_Vi (As := [.int a1]) Z E hl.1 k_X7_170 v_X6_append hf (fun r h' e => c_X6_append l G h h' v1 a1 r e) rfl rfl (Nat.le_of_ble_eq_true rfl) (zRm_of rfl (Nat.zero_le _) (Nat.zero_le _)) dX7_type_5 (fun v2 h3 H locs hf E => ?_)
  exact z_iret Z E hr dX7_type_8 hf
set_option maxHeartbeats 4000000 in
set_option maxRecDepth 20000 in
theorem c_X7_type (l : Launch) (G : zG) (h : zHp) (h' : zHp) (a0 : Nat) (a1 : Int32) (r : Int32) (hf : f_X7_type a0 a1 h = some (r, h')) : zM0 l yX7_type cX7_type 2 (some .int) rm_X7_type G [.ref a0, .int a1] h (zQi G r h') := by
  refine Met.ofW (cc := cX7_type) (maxL := 2) (ret := (some .int)) (by decide) rfl ?_
  intro p e s m args below meth c s₁ B hml hv
  obtain ⟨rfl, hW⟩ := hv
  obtain ⟨Z, E, hr⟩ := zEnter (own := RX7) B hml rfl hW
  have hl := lv_entry ([.ref a0, .int a1]) (n := 2) (Nat.le_of_ble_eq_true rfl)
  rw [lg_entry_eq]
  generalize (lg_sl ([.ref a0, .int a1]) ++ List.replicate (2 - (lg_sl ([.ref a0, .int a1])).length) Slot.unset).toArray = ls at hl ⊢
  have hl : lv_has ls 2 [(0, .ref a0), (1, .int a1)] := hl
  exact t_X7_type (out := (r, h')) Z hr hf E hl
/-! FerryCrews.clearText()I -/
theorem dX7_clearText_0 : decode cX7_clearText 0 = .ok (.aload_n 0, 1) := by decide +kernel
theorem dX7_clearText_1 : decode cX7_clearText 1 = .ok (.getfield 37, 3) := by decide +kernel
theorem dX7_clearText_4 : decode cX7_clearText 4 = .ok (.getfield 174, 3) := by decide +kernel
theorem dX7_clearText_7 : decode cX7_clearText 7 = .ok (.istore_n 1, 1) := by decide +kernel
theorem dX7_clearText_8 : decode cX7_clearText 8 = .ok (.aload_n 0, 1) := by decide +kernel
theorem dX7_clearText_9 : decode cX7_clearText 9 = .ok (.getfield 37, 3) := by decide +kernel
theorem dX7_clearText_12 : decode cX7_clearText 12 = .ok (.iconst 0, 1) := by decide +kernel
theorem dX7_clearText_13 : decode cX7_clearText 13 = .ok (.putfield 174, 3) := by decide +kernel
theorem dX7_clearText_16 : decode cX7_clearText 16 = .ok (.iload_n 1, 1) := by decide +kernel
theorem dX7_clearText_17 : decode cX7_clearText 17 = .ok (.ireturn, 1) := by decide +kernel
set_option maxRecDepth 20000 in
theorem wf_X7_174 : Cond.fieldLink RX7 174 RX6 "length" "I" ∈ zB := List.mem_filter.mpr ⟨List.mem_of_getElem? (i := 253) (by decide +kernel), by decide +kernel⟩
theorem q_X7_174 : zFld RX7 174 6 1 := ⟨RX6, TX6, 8, rfl, by decide, iX6, wf_X7_174, rfl⟩
theorem p_X7_174 : zPut RX7 174 6 1 false .int := ⟨RX6, TX6, 8, tyX6, rfl, by decide, iX6, wf_X7_174, rfl, tyX6_ok, nmX6, rfl, by decide +kernel, fun q => by cases q⟩
def rm_X7_clearText : Room := { frames := 0, cells := 0, slots := 0, locals := 0 }
set_option maxHeartbeats 4000000 in
set_option maxRecDepth 20000 in
theorem t_X7_clearText {p : Program} {l : Launch} {e : Env} {s : State} {m : MethodId} {args : Array Value} {below : List Frame} {meth : Method} {c : Code} {G : zG} (Z : zF p s m args c meth cX7_clearText 2 RX7 G) (hr : meth.sig.returnType = (some .int)) {out : Int32 × zHp} {a0 : Nat} {h : zHp} {H : Heap} {locs : List Loc} {ls : Array Slot} (hf : f_X7_clearText a0 h = some out) (E : zE G s h H locs) (hl : lv_has ls 2 [(0, .ref a0)]) : W p l e rm_X7_clearText s m args below meth c H locs 0 0 (MQ below (zQi G out.1 out.2) args s 0 0 (zA G)) (F0 m 0 ls []) := by
  unfold f_X7_clearText at hf
  refine lv_aload_n Z.x Z.b dX7_clearText_0 rfl (lv_at hl 0 rfl) ?_
  refine z_getR Z E q_X7_37 dX7_clearText_1 hf (fun v1 hf => ?_)
  refine z_getI Z E q_X7_174 dX7_clearText_4 hf (fun v2 hf => ?_)
  refine lv_istore_n (lv' := [(1, .int v2), (0, .ref a0)]) Z.x Z.b dX7_clearText_7 rfl hl (by decide) rfl (fun ls hl => ?_)
  refine lv_aload_n Z.x Z.b dX7_clearText_8 rfl (lv_at hl 1 rfl) ?_
  refine z_getR Z E q_X7_37 dX7_clearText_9 hf (fun v3 hf => ?_)
  refine lv_iconst (v := 0) Z.x Z.b dX7_clearText_12 (by decide) ?_
  refine z_put Z E p_X7_174 rfl rfl dX7_clearText_13 hf (fun h4 H locs hf E => ?_)
  refine lv_iload_n Z.x Z.b dX7_clearText_16 rfl (lv_at hl 0 rfl) ?_
  exact z_iret Z E hr dX7_clearText_17 hf
set_option maxHeartbeats 4000000 in
set_option maxRecDepth 20000 in
theorem c_X7_clearText (l : Launch) (G : zG) (h : zHp) (h' : zHp) (a0 : Nat) (r : Int32) (hf : f_X7_clearText a0 h = some (r, h')) : zM0 l yX7_clearText cX7_clearText 2 (some .int) rm_X7_clearText G [.ref a0] h (zQi G r h') := by
  refine Met.ofW (cc := cX7_clearText) (maxL := 2) (ret := (some .int)) (by decide) rfl ?_
  intro p e s m args below meth c s₁ B hml hv
  obtain ⟨rfl, hW⟩ := hv
  obtain ⟨Z, E, hr⟩ := zEnter (own := RX7) B hml rfl hW
  have hl := lv_entry ([.ref a0]) (n := 2) (Nat.le_of_ble_eq_true rfl)
  rw [lg_entry_eq]
  generalize (lg_sl ([.ref a0]) ++ List.replicate (2 - (lg_sl ([.ref a0])).length) Slot.unset).toArray = ls at hl ⊢
  have hl : lv_has ls 2 [(0, .ref a0)] := hl
  exact t_X7_clearText (out := (r, h')) Z hr hf E hl
/-! FerryCrews.fault()I -/
theorem dX7_fault_0 : decode cX7_fault 0 = .ok (.aload_n 0, 1) := by decide +kernel
theorem dX7_fault_1 : decode cX7_fault 1 = .ok (.getfield 37, 3) := by decide +kernel
theorem dX7_fault_4 : decode cX7_fault 4 = .ok (.invokevirtual 56, 3) := by decide +kernel
theorem dX7_fault_7 : decode cX7_fault 7 = .ok (.ireturn, 1) := by decide +kernel
def rm_X7_fault : Room := { frames := 5, cells := 0, slots := 0, locals := 112 }
set_option maxHeartbeats 4000000 in
set_option maxRecDepth 20000 in
theorem t_X7_fault {p : Program} {l : Launch} {e : Env} {s : State} {m : MethodId} {args : Array Value} {below : List Frame} {meth : Method} {c : Code} {G : zG} (Z : zF p s m args c meth cX7_fault 1 RX7 G) (hr : meth.sig.returnType = (some .int)) {out : Int32 × zHp} {a0 : Nat} {h : zHp} {H : Heap} {locs : List Loc} {ls : Array Slot} (hf : f_X7_fault a0 h = some out) (E : zE G s h H locs) (hl : lv_has ls 1 [(0, .ref a0)]) : W p l e rm_X7_fault s m args below meth c H locs 0 0 (MQ below (zQi G out.1 out.2) args s 0 0 (zA G)) (F0 m 0 ls []) := by
  unfold f_X7_fault at hf
  refine lv_aload_n Z.x Z.b dX7_fault_0 rfl (lv_at hl 0 rfl) ?_
  refine z_getR Z E q_X7_37 dX7_fault_1 hf (fun v1 hf => ?_)
  refine z_Vi (As := []) Z E hl.1 k_X7_56 v_X6_readAll hf (fun r h' e => c_X6_readAll l G h h' v1 r e) rfl rfl (Nat.le_of_ble_eq_true rfl) (zRm_of rfl (Nat.zero_le _) (Nat.zero_le _)) dX7_fault_4 (fun v2 h3 H locs hf E => ?_)
  exact z_iret Z E hr dX7_fault_7 hf
set_option maxHeartbeats 4000000 in
set_option maxRecDepth 20000 in
theorem c_X7_fault (l : Launch) (G : zG) (h : zHp) (h' : zHp) (a0 : Nat) (r : Int32) (hf : f_X7_fault a0 h = some (r, h')) : zM0 l yX7_fault cX7_fault 1 (some .int) rm_X7_fault G [.ref a0] h (zQi G r h') := by
  refine Met.ofW (cc := cX7_fault) (maxL := 1) (ret := (some .int)) (by decide) rfl ?_
  intro p e s m args below meth c s₁ B hml hv
  obtain ⟨rfl, hW⟩ := hv
  obtain ⟨Z, E, hr⟩ := zEnter (own := RX7) B hml rfl hW
  have hl := lv_entry ([.ref a0]) (n := 1) (Nat.le_of_ble_eq_true rfl)
  rw [lg_entry_eq]
  generalize (lg_sl ([.ref a0]) ++ List.replicate (1 - (lg_sl ([.ref a0])).length) Slot.unset).toArray = ls at hl ⊢
  have hl : lv_has ls 1 [(0, .ref a0)] := hl
  exact t_X7_fault (out := (r, h')) Z hr hf E hl
/-! FerryCrews.undo()I -/
theorem dX7_undo_0 : decode cX7_undo 0 = .ok (.aload_n 0, 1) := by decide +kernel
theorem dX7_undo_1 : decode cX7_undo 1 = .ok (.getfield 30, 3) := by decide +kernel
theorem dX7_undo_4 : decode cX7_undo 4 = .ok (.getfield 177, 3) := by decide +kernel
theorem dX7_undo_7 : decode cX7_undo 7 = .ok (.ifCond .ne 6, 3) := by decide +kernel
theorem dX7_undo_10 : decode cX7_undo 10 = .ok (.bipush (-5), 2) := by decide +kernel
theorem dX7_undo_12 : decode cX7_undo 12 = .ok (.ireturn, 1) := by decide +kernel
theorem dX7_undo_13 : decode cX7_undo 13 = .ok (.aload_n 0, 1) := by decide +kernel
theorem dX7_undo_14 : decode cX7_undo 14 = .ok (.getfield 30, 3) := by decide +kernel
theorem dX7_undo_17 : decode cX7_undo 17 = .ok (.aload_n 0, 1) := by decide +kernel
theorem dX7_undo_18 : decode cX7_undo 18 = .ok (.getfield 17, 3) := by decide +kernel
theorem dX7_undo_21 : decode cX7_undo 21 = .ok (.invokevirtual 180, 3) := by decide +kernel
theorem dX7_undo_24 : decode cX7_undo 24 = .ok (.aload_n 0, 1) := by decide +kernel
theorem dX7_undo_25 : decode cX7_undo 25 = .ok (.getfield 30, 3) := by decide +kernel
theorem dX7_undo_28 : decode cX7_undo 28 = .ok (.getfield 177, 3) := by decide +kernel
theorem dX7_undo_31 : decode cX7_undo 31 = .ok (.ireturn, 1) := by decide +kernel
set_option maxRecDepth 20000 in
theorem wf_X7_177 : Cond.fieldLink RX7 177 RX1 "size" "I" ∈ zB := List.mem_filter.mpr ⟨List.mem_of_getElem? (i := 239) (by decide +kernel), by decide +kernel⟩
theorem q_X7_177 : zFld RX7 177 1 1 := ⟨RX1, TX1, 2, rfl, by decide, iX1, wf_X7_177, rfl⟩
set_option maxRecDepth 20000 in
theorem wc_X1_takeBack : Cond.code yX1_takeBack cX1_takeBack 2 none ∈ zB := List.mem_filter.mpr ⟨List.mem_of_getElem? (i := 654) (by decide +kernel), by decide +kernel⟩
set_option maxRecDepth 20000 in
theorem wm_X7_180 : Cond.methodLink RX7 180 yX1_takeBack ∈ zB := List.mem_filter.mpr ⟨List.mem_of_getElem? (i := 651) (by decide +kernel), by decide +kernel⟩
theorem k_X7_180 : zCal RX7 180 yX1_takeBack cX1_takeBack 2 none 1 := ⟨wm_X7_180, wi_X1, wc_X1_takeBack, by decide +kernel, by decide +kernel, by decide +kernel⟩
set_option maxRecDepth 20000 in
theorem wn_X1_takeBack : Cond.instanceMethod yX1_takeBack ∈ zB := List.mem_filter.mpr ⟨List.mem_of_getElem? (i := 652) (by decide +kernel), by decide +kernel⟩
set_option maxRecDepth 20000 in
theorem ws_X1_takeBack : Cond.selects RX1 yX1_takeBack yX1_takeBack ∈ zB := List.mem_filter.mpr ⟨List.mem_of_getElem? (i := 653) (by decide +kernel), by decide +kernel⟩
theorem v_X1_takeBack : zVir yX1_takeBack 1 := ⟨wn_X1_takeBack, ws_X1_takeBack, TX1, 2, rfl⟩
def rm_X7_undo : Room := { frames := 4, cells := 0, slots := 0, locals := 104 }
set_option maxHeartbeats 4000000 in
set_option maxRecDepth 20000 in
theorem t_X7_undo {p : Program} {l : Launch} {e : Env} {s : State} {m : MethodId} {args : Array Value} {below : List Frame} {meth : Method} {c : Code} {G : zG} (Z : zF p s m args c meth cX7_undo 1 RX7 G) (hr : meth.sig.returnType = (some .int)) {out : Int32 × zHp} {a0 : Nat} {h : zHp} {H : Heap} {locs : List Loc} {ls : Array Slot} (hf : f_X7_undo a0 h = some out) (E : zE G s h H locs) (hl : lv_has ls 1 [(0, .ref a0)]) : W p l e rm_X7_undo s m args below meth c H locs 0 0 (MQ below (zQi G out.1 out.2) args s 0 0 (zA G)) (F0 m 0 ls []) := by
  unfold f_X7_undo at hf
  refine lv_aload_n Z.x Z.b dX7_undo_0 rfl (lv_at hl 0 rfl) ?_
  refine z_getR Z E q_X7_30 dX7_undo_1 hf (fun v1 hf => ?_)
  refine z_getI Z E q_X7_177 dX7_undo_4 hf (fun v2 hf => ?_)
  refine lv_if_ne (tgt := 13) Z.x Z.b dX7_undo_7 (by decide) (fun c => ?_) (fun c => ?_)
  · have hf := zif_ hf c
    refine lv_aload_n Z.x Z.b dX7_undo_13 rfl (lv_at hl 0 rfl) ?_
    refine z_getR Z E q_X7_30 dX7_undo_14 hf (fun v3 hf => ?_)
    refine lv_aload_n Z.x Z.b dX7_undo_17 rfl (lv_at hl 0 rfl) ?_
    refine z_getR Z E q_X7_17 dX7_undo_18 hf (fun v4 hf => ?_)
    refine z_Vv (As := [.ref v4]) Z E hl.1 k_X7_180 v_X1_takeBack hf (fun h' e => c_X1_takeBack l G h h' v3 v4 e) rfl rfl (Nat.le_of_ble_eq_true rfl) (zRm_of rfl (Nat.zero_le _) (Nat.zero_le _)) dX7_undo_21 (fun h5 H locs hf E => ?_)
    refine lv_aload_n Z.x Z.b dX7_undo_24 rfl (lv_at hl 0 rfl) ?_
    refine z_getR Z E q_X7_30 dX7_undo_25 hf (fun v6 hf => ?_)
    refine z_getI Z E q_X7_177 dX7_undo_28 hf (fun v7 hf => ?_)
    exact z_iret Z E hr dX7_undo_31 hf
  · have hf := zit hf c
    refine lv_bipush (v := (-5)) Z.x Z.b dX7_undo_10 (by decide) ?_
    exact z_iret Z E hr dX7_undo_12 hf
set_option maxHeartbeats 4000000 in
set_option maxRecDepth 20000 in
theorem c_X7_undo (l : Launch) (G : zG) (h : zHp) (h' : zHp) (a0 : Nat) (r : Int32) (hf : f_X7_undo a0 h = some (r, h')) : zM0 l yX7_undo cX7_undo 1 (some .int) rm_X7_undo G [.ref a0] h (zQi G r h') := by
  refine Met.ofW (cc := cX7_undo) (maxL := 1) (ret := (some .int)) (by decide) rfl ?_
  intro p e s m args below meth c s₁ B hml hv
  obtain ⟨rfl, hW⟩ := hv
  obtain ⟨Z, E, hr⟩ := zEnter (own := RX7) B hml rfl hW
  have hl := lv_entry ([.ref a0]) (n := 1) (Nat.le_of_ble_eq_true rfl)
  rw [lg_entry_eq]
  generalize (lg_sl ([.ref a0]) ++ List.replicate (1 - (lg_sl ([.ref a0])).length) Slot.unset).toArray = ls at hl ⊢
  have hl : lv_has ls 1 [(0, .ref a0)] := hl
  exact t_X7_undo (out := (r, h')) Z hr hf E hl
/-! FerryCrews.keep()I -/
theorem dX7_keep_0 : decode cX7_keep 0 = .ok (.aload_n 0, 1) := by decide +kernel
theorem dX7_keep_1 : decode cX7_keep 1 = .ok (.getfield 21, 3) := by decide +kernel
theorem dX7_keep_4 : decode cX7_keep 4 = .ok (.aload_n 0, 1) := by decide +kernel
theorem dX7_keep_5 : decode cX7_keep 5 = .ok (.getfield 17, 3) := by decide +kernel
theorem dX7_keep_8 : decode cX7_keep 8 = .ok (.invokevirtual 60, 3) := by decide +kernel
theorem dX7_keep_11 : decode cX7_keep 11 = .ok (.aload_n 0, 1) := by decide +kernel
theorem dX7_keep_12 : decode cX7_keep 12 = .ok (.iconst 1, 1) := by decide +kernel
theorem dX7_keep_13 : decode cX7_keep 13 = .ok (.putfield 41, 3) := by decide +kernel
theorem dX7_keep_16 : decode cX7_keep 16 = .ok (.aload_n 0, 1) := by decide +kernel
theorem dX7_keep_17 : decode cX7_keep 17 = .ok (.getfield 17, 3) := by decide +kernel
theorem dX7_keep_20 : decode cX7_keep 20 = .ok (.getfield 133, 3) := by decide +kernel
theorem dX7_keep_23 : decode cX7_keep 23 = .ok (.ireturn, 1) := by decide +kernel
theorem q_X7_21 : zFld RX7 21 7 1 := ⟨RX7, TX7, 6, rfl, by decide, iX7, wf_X7_21, rfl⟩
def rm_X7_keep : Room := { frames := 3, cells := 0, slots := 0, locals := 83 }
set_option maxHeartbeats 4000000 in
set_option maxRecDepth 20000 in
theorem t_X7_keep {p : Program} {l : Launch} {e : Env} {s : State} {m : MethodId} {args : Array Value} {below : List Frame} {meth : Method} {c : Code} {G : zG} (Z : zF p s m args c meth cX7_keep 1 RX7 G) (hr : meth.sig.returnType = (some .int)) {out : Int32 × zHp} {a0 : Nat} {h : zHp} {H : Heap} {locs : List Loc} {ls : Array Slot} (hf : f_X7_keep a0 h = some out) (E : zE G s h H locs) (hl : lv_has ls 1 [(0, .ref a0)]) : W p l e rm_X7_keep s m args below meth c H locs 0 0 (MQ below (zQi G out.1 out.2) args s 0 0 (zA G)) (F0 m 0 ls []) := by
  unfold f_X7_keep at hf
  refine lv_aload_n Z.x Z.b dX7_keep_0 rfl (lv_at hl 0 rfl) ?_
  refine z_getR Z E q_X7_21 dX7_keep_1 hf (fun v1 hf => ?_)
  refine lv_aload_n Z.x Z.b dX7_keep_4 rfl (lv_at hl 0 rfl) ?_
  refine z_getR Z E q_X7_17 dX7_keep_5 hf (fun v2 hf => ?_)
  refine z_Vv (As := [.ref v2]) Z E hl.1 k_X7_60 v_X5_copyFrom hf (fun h' e => c_X5_copyFrom l G h h' v1 v2 e) rfl rfl (Nat.le_of_ble_eq_true rfl) (zRm_of rfl (Nat.zero_le _) (Nat.zero_le _)) dX7_keep_8 (fun h3 H locs hf E => ?_)
  refine lv_aload_n Z.x Z.b dX7_keep_11 rfl (lv_at hl 0 rfl) ?_
  refine lv_iconst (v := 1) Z.x Z.b dX7_keep_12 (by decide) ?_
  refine z_put Z E p_X7_41 rfl rfl dX7_keep_13 hf (fun h4 H locs hf E => ?_)
  refine lv_aload_n Z.x Z.b dX7_keep_16 rfl (lv_at hl 0 rfl) ?_
  refine z_getR Z E q_X7_17 dX7_keep_17 hf (fun v5 hf => ?_)
  refine z_getI Z E q_X7_133 dX7_keep_20 hf (fun v6 hf => ?_)
  exact z_iret Z E hr dX7_keep_23 hf
set_option maxHeartbeats 4000000 in
set_option maxRecDepth 20000 in
theorem c_X7_keep (l : Launch) (G : zG) (h : zHp) (h' : zHp) (a0 : Nat) (r : Int32) (hf : f_X7_keep a0 h = some (r, h')) : zM0 l yX7_keep cX7_keep 1 (some .int) rm_X7_keep G [.ref a0] h (zQi G r h') := by
  refine Met.ofW (cc := cX7_keep) (maxL := 1) (ret := (some .int)) (by decide) rfl ?_
  intro p e s m args below meth c s₁ B hml hv
  obtain ⟨rfl, hW⟩ := hv
  obtain ⟨Z, E, hr⟩ := zEnter (own := RX7) B hml rfl hW
  have hl := lv_entry ([.ref a0]) (n := 1) (Nat.le_of_ble_eq_true rfl)
  rw [lg_entry_eq]
  generalize (lg_sl ([.ref a0]) ++ List.replicate (1 - (lg_sl ([.ref a0])).length) Slot.unset).toArray = ls at hl ⊢
  have hl : lv_has ls 1 [(0, .ref a0)] := hl
  exact t_X7_keep (out := (r, h')) Z hr hf E hl
/-! FerryCrews.restore()I -/
theorem dX7_restore_0 : decode cX7_restore 0 = .ok (.aload_n 0, 1) := by decide +kernel
theorem dX7_restore_1 : decode cX7_restore 1 = .ok (.getfield 41, 3) := by decide +kernel
theorem dX7_restore_4 : decode cX7_restore 4 = .ok (.ifCond .ne 6, 3) := by decide +kernel
theorem dX7_restore_7 : decode cX7_restore 7 = .ok (.bipush (-5), 2) := by decide +kernel
theorem dX7_restore_9 : decode cX7_restore 9 = .ok (.ireturn, 1) := by decide +kernel
theorem dX7_restore_10 : decode cX7_restore 10 = .ok (.aload_n 0, 1) := by decide +kernel
theorem dX7_restore_11 : decode cX7_restore 11 = .ok (.getfield 30, 3) := by decide +kernel
theorem dX7_restore_14 : decode cX7_restore 14 = .ok (.aload_n 0, 1) := by decide +kernel
theorem dX7_restore_15 : decode cX7_restore 15 = .ok (.getfield 17, 3) := by decide +kernel
theorem dX7_restore_18 : decode cX7_restore 18 = .ok (.invokevirtual 49, 3) := by decide +kernel
theorem dX7_restore_21 : decode cX7_restore 21 = .ok (.aload_n 0, 1) := by decide +kernel
theorem dX7_restore_22 : decode cX7_restore 22 = .ok (.getfield 17, 3) := by decide +kernel
theorem dX7_restore_25 : decode cX7_restore 25 = .ok (.aload_n 0, 1) := by decide +kernel
theorem dX7_restore_26 : decode cX7_restore 26 = .ok (.getfield 21, 3) := by decide +kernel
theorem dX7_restore_29 : decode cX7_restore 29 = .ok (.invokevirtual 60, 3) := by decide +kernel
theorem dX7_restore_32 : decode cX7_restore 32 = .ok (.aload_n 0, 1) := by decide +kernel
theorem dX7_restore_33 : decode cX7_restore 33 = .ok (.getfield 17, 3) := by decide +kernel
theorem dX7_restore_36 : decode cX7_restore 36 = .ok (.getfield 133, 3) := by decide +kernel
theorem dX7_restore_39 : decode cX7_restore 39 = .ok (.ireturn, 1) := by decide +kernel
theorem q_X7_41 : zFld RX7 41 7 5 := ⟨RX7, TX7, 6, rfl, by decide, iX7, wf_X7_41, rfl⟩
def rm_X7_restore : Room := { frames := 4, cells := 0, slots := 0, locals := 104 }
set_option maxHeartbeats 4000000 in
set_option maxRecDepth 20000 in
theorem t_X7_restore {p : Program} {l : Launch} {e : Env} {s : State} {m : MethodId} {args : Array Value} {below : List Frame} {meth : Method} {c : Code} {G : zG} (Z : zF p s m args c meth cX7_restore 1 RX7 G) (hr : meth.sig.returnType = (some .int)) {out : Int32 × zHp} {a0 : Nat} {h : zHp} {H : Heap} {locs : List Loc} {ls : Array Slot} (hf : f_X7_restore a0 h = some out) (E : zE G s h H locs) (hl : lv_has ls 1 [(0, .ref a0)]) : W p l e rm_X7_restore s m args below meth c H locs 0 0 (MQ below (zQi G out.1 out.2) args s 0 0 (zA G)) (F0 m 0 ls []) := by
  unfold f_X7_restore at hf
  refine lv_aload_n Z.x Z.b dX7_restore_0 rfl (lv_at hl 0 rfl) ?_
  refine z_getI Z E q_X7_41 dX7_restore_1 hf (fun v1 hf => ?_)
  refine lv_if_ne (tgt := 10) Z.x Z.b dX7_restore_4 (by decide) (fun c => ?_) (fun c => ?_)
  · have hf := zif_ hf c
    refine lv_aload_n Z.x Z.b dX7_restore_10 rfl (lv_at hl 0 rfl) ?_
    refine z_getR Z E q_X7_30 dX7_restore_11 hf (fun v2 hf => ?_)
    refine lv_aload_n Z.x Z.b dX7_restore_14 rfl (lv_at hl 0 rfl) ?_
    refine z_getR Z E q_X7_17 dX7_restore_15 hf (fun v3 hf => ?_)
    refine z_Vv (As := [.ref v3]) Z E hl.1 k_X7_49 v_X1_record hf (fun h' e => c_X1_record l G h h' v2 v3 e) rfl rfl (Nat.le_of_ble_eq_true rfl) (zRm_of rfl (Nat.zero_le _) (Nat.zero_le _)) dX7_restore_18 (fun h4 H locs hf E => ?_)
    refine lv_aload_n Z.x Z.b dX7_restore_21 rfl (lv_at hl 0 rfl) ?_
    refine z_getR Z E q_X7_17 dX7_restore_22 hf (fun v5 hf => ?_)
    refine lv_aload_n Z.x Z.b dX7_restore_25 rfl (lv_at hl 0 rfl) ?_
    refine z_getR Z E q_X7_21 dX7_restore_26 hf (fun v6 hf => ?_)
    refine z_Vv (As := [.ref v6]) Z E hl.1 k_X7_60 v_X5_copyFrom hf (fun h' e => c_X5_copyFrom l G h4 h' v5 v6 e) rfl rfl (Nat.le_of_ble_eq_true rfl) (zRm_of rfl (Nat.zero_le _) (Nat.zero_le _)) dX7_restore_29 (fun h7 H locs hf E => ?_)
    refine lv_aload_n Z.x Z.b dX7_restore_32 rfl (lv_at hl 0 rfl) ?_
    refine z_getR Z E q_X7_17 dX7_restore_33 hf (fun v8 hf => ?_)
    refine z_getI Z E q_X7_133 dX7_restore_36 hf (fun v9 hf => ?_)
    exact z_iret Z E hr dX7_restore_39 hf
  · have hf := zit hf c
    refine lv_bipush (v := (-5)) Z.x Z.b dX7_restore_7 (by decide) ?_
    exact z_iret Z E hr dX7_restore_9 hf
set_option maxHeartbeats 4000000 in
set_option maxRecDepth 20000 in
theorem c_X7_restore (l : Launch) (G : zG) (h : zHp) (h' : zHp) (a0 : Nat) (r : Int32) (hf : f_X7_restore a0 h = some (r, h')) : zM0 l yX7_restore cX7_restore 1 (some .int) rm_X7_restore G [.ref a0] h (zQi G r h') := by
  refine Met.ofW (cc := cX7_restore) (maxL := 1) (ret := (some .int)) (by decide) rfl ?_
  intro p e s m args below meth c s₁ B hml hv
  obtain ⟨rfl, hW⟩ := hv
  obtain ⟨Z, E, hr⟩ := zEnter (own := RX7) B hml rfl hW
  have hl := lv_entry ([.ref a0]) (n := 1) (Nat.le_of_ble_eq_true rfl)
  rw [lg_entry_eq]
  generalize (lg_sl ([.ref a0]) ++ List.replicate (1 - (lg_sl ([.ref a0])).length) Slot.unset).toArray = ls at hl ⊢
  have hl : lv_has ls 1 [(0, .ref a0)] := hl
  exact t_X7_restore (out := (r, h')) Z hr hf E hl
/-! FerryCrews.sailingOf(II)I -/
theorem dX7_sailingOf_0 : decode cX7_sailingOf 0 = .ok (.aload_n 0, 1) := by decide +kernel
theorem dX7_sailingOf_1 : decode cX7_sailingOf 1 = .ok (.getfield 17, 3) := by decide +kernel
theorem dX7_sailingOf_4 : decode cX7_sailingOf 4 = .ok (.iload_n 1, 1) := by decide +kernel
theorem dX7_sailingOf_5 : decode cX7_sailingOf 5 = .ok (.invokevirtual 71, 3) := by decide +kernel
theorem dX7_sailingOf_8 : decode cX7_sailingOf 8 = .ok (.astore_n 3, 1) := by decide +kernel
theorem dX7_sailingOf_9 : decode cX7_sailingOf 9 = .ok (.aload_n 3, 1) := by decide +kernel
theorem dX7_sailingOf_10 : decode cX7_sailingOf 10 = .ok (.ifnonnull 5, 3) := by decide +kernel
theorem dX7_sailingOf_13 : decode cX7_sailingOf 13 = .ok (.iconst (-1), 1) := by decide +kernel
theorem dX7_sailingOf_14 : decode cX7_sailingOf 14 = .ok (.ireturn, 1) := by decide +kernel
theorem dX7_sailingOf_15 : decode cX7_sailingOf 15 = .ok (.iload_n 2, 1) := by decide +kernel
theorem dX7_sailingOf_16 : decode cX7_sailingOf 16 = .ok (.tableswitch 79 0 6 #[44, 49, 54, 59, 64, 69, 74], 44) := by decide +kernel
theorem dX7_sailingOf_60 : decode cX7_sailingOf 60 = .ok (.aload_n 3, 1) := by decide +kernel
theorem dX7_sailingOf_61 : decode cX7_sailingOf 61 = .ok (.getfield 183, 3) := by decide +kernel
theorem dX7_sailingOf_64 : decode cX7_sailingOf 64 = .ok (.ireturn, 1) := by decide +kernel
theorem dX7_sailingOf_65 : decode cX7_sailingOf 65 = .ok (.aload_n 3, 1) := by decide +kernel
theorem dX7_sailingOf_66 : decode cX7_sailingOf 66 = .ok (.getfield 186, 3) := by decide +kernel
theorem dX7_sailingOf_69 : decode cX7_sailingOf 69 = .ok (.ireturn, 1) := by decide +kernel
theorem dX7_sailingOf_70 : decode cX7_sailingOf 70 = .ok (.aload_n 3, 1) := by decide +kernel
theorem dX7_sailingOf_71 : decode cX7_sailingOf 71 = .ok (.getfield 189, 3) := by decide +kernel
theorem dX7_sailingOf_74 : decode cX7_sailingOf 74 = .ok (.ireturn, 1) := by decide +kernel
theorem dX7_sailingOf_75 : decode cX7_sailingOf 75 = .ok (.aload_n 3, 1) := by decide +kernel
theorem dX7_sailingOf_76 : decode cX7_sailingOf 76 = .ok (.getfield 192, 3) := by decide +kernel
theorem dX7_sailingOf_79 : decode cX7_sailingOf 79 = .ok (.ireturn, 1) := by decide +kernel
theorem dX7_sailingOf_80 : decode cX7_sailingOf 80 = .ok (.aload_n 3, 1) := by decide +kernel
theorem dX7_sailingOf_81 : decode cX7_sailingOf 81 = .ok (.getfield 195, 3) := by decide +kernel
theorem dX7_sailingOf_84 : decode cX7_sailingOf 84 = .ok (.ireturn, 1) := by decide +kernel
theorem dX7_sailingOf_85 : decode cX7_sailingOf 85 = .ok (.aload_n 3, 1) := by decide +kernel
theorem dX7_sailingOf_86 : decode cX7_sailingOf 86 = .ok (.invokevirtual 198, 3) := by decide +kernel
theorem dX7_sailingOf_89 : decode cX7_sailingOf 89 = .ok (.ireturn, 1) := by decide +kernel
theorem dX7_sailingOf_90 : decode cX7_sailingOf 90 = .ok (.aload_n 3, 1) := by decide +kernel
theorem dX7_sailingOf_91 : decode cX7_sailingOf 91 = .ok (.invokevirtual 150, 3) := by decide +kernel
theorem dX7_sailingOf_94 : decode cX7_sailingOf 94 = .ok (.ireturn, 1) := by decide +kernel
theorem dX7_sailingOf_95 : decode cX7_sailingOf 95 = .ok (.bipush (-2), 2) := by decide +kernel
theorem dX7_sailingOf_97 : decode cX7_sailingOf 97 = .ok (.ireturn, 1) := by decide +kernel
set_option maxRecDepth 20000 in
theorem wf_X7_183 : Cond.fieldLink RX7 183 RX4 "status" "I" ∈ zB := List.mem_filter.mpr ⟨List.mem_of_getElem? (i := 143) (by decide +kernel), by decide +kernel⟩
theorem q_X7_183 : zFld RX7 183 4 5 := ⟨RX4, TX4, 9, rfl, by decide, iX4, wf_X7_183, rfl⟩
set_option maxRecDepth 20000 in
theorem wf_X7_186 : Cond.fieldLink RX7 186 RX4 "ferry" "I" ∈ zB := List.mem_filter.mpr ⟨List.mem_of_getElem? (i := 130) (by decide +kernel), by decide +kernel⟩
theorem q_X7_186 : zFld RX7 186 4 1 := ⟨RX4, TX4, 9, rfl, by decide, iX4, wf_X7_186, rfl⟩
set_option maxRecDepth 20000 in
theorem wf_X7_189 : Cond.fieldLink RX7 189 RX4 "start" "I" ∈ zB := List.mem_filter.mpr ⟨List.mem_of_getElem? (i := 134) (by decide +kernel), by decide +kernel⟩
theorem q_X7_189 : zFld RX7 189 4 2 := ⟨RX4, TX4, 9, rfl, by decide, iX4, wf_X7_189, rfl⟩
set_option maxRecDepth 20000 in
theorem wf_X7_192 : Cond.fieldLink RX7 192 RX4 "end" "I" ∈ zB := List.mem_filter.mpr ⟨List.mem_of_getElem? (i := 138) (by decide +kernel), by decide +kernel⟩
theorem q_X7_192 : zFld RX7 192 4 3 := ⟨RX4, TX4, 9, rfl, by decide, iX4, wf_X7_192, rfl⟩
set_option maxRecDepth 20000 in
theorem wf_X7_195 : Cond.fieldLink RX7 195 RX4 "set" "I" ∈ zB := List.mem_filter.mpr ⟨List.mem_of_getElem? (i := 140) (by decide +kernel), by decide +kernel⟩
theorem q_X7_195 : zFld RX7 195 4 4 := ⟨RX4, TX4, 9, rfl, by decide, iX4, wf_X7_195, rfl⟩
set_option maxRecDepth 20000 in
theorem wm_X7_198 : Cond.methodLink RX7 198 yX4_allPlaces ∈ zB := List.mem_filter.mpr ⟨List.mem_of_getElem? (i := 667) (by decide +kernel), by decide +kernel⟩
theorem k_X7_198 : zCal RX7 198 yX4_allPlaces cX4_allPlaces 3 (some .int) 0 := ⟨wm_X7_198, wi_X4, wc_X4_allPlaces, by decide +kernel, by decide +kernel, by decide +kernel⟩
def rm_X7_sailingOf : Room := { frames := 2, cells := 0, slots := 0, locals := 45 }
set_option maxHeartbeats 4000000 in
set_option maxRecDepth 20000 in
theorem t_X7_sailingOf {p : Program} {l : Launch} {e : Env} {s : State} {m : MethodId} {args : Array Value} {below : List Frame} {meth : Method} {c : Code} {G : zG} (Z : zF p s m args c meth cX7_sailingOf 4 RX7 G) (hr : meth.sig.returnType = (some .int)) {out : Int32 × zHp} {a0 : Nat} {a1 : Int32} {a2 : Int32} {h : zHp} {H : Heap} {locs : List Loc} {ls : Array Slot} (hf : f_X7_sailingOf a0 a1 a2 h = some out) (E : zE G s h H locs) (hl : lv_has ls 4 [(0, .ref a0), (1, .int a1), (2, .int a2)]) : W p l e rm_X7_sailingOf s m args below meth c H locs 0 0 (MQ below (zQi G out.1 out.2) args s 0 0 (zA G)) (F0 m 0 ls []) := by
  unfold f_X7_sailingOf at hf
  refine lv_aload_n Z.x Z.b dX7_sailingOf_0 rfl (lv_at hl 0 rfl) ?_
  refine z_getR Z E q_X7_17 dX7_sailingOf_1 hf (fun v1 hf => ?_)
  refine lv_iload_n Z.x Z.b dX7_sailingOf_4 rfl (lv_at hl 1 rfl) ?_
  refine z_Vq (As := [.int a1]) Z E hl.1 k_X7_71 v_X5_sailingAt hf (fun r h' e => c_X5_sailingAt l G h h' v1 a1 r e) rfl rfl (Nat.le_of_ble_eq_true rfl) (zRm_of rfl (Nat.zero_le _) (Nat.zero_le _)) dX7_sailingOf_5 (fun w2 h3 H locs hf E => ?_)
  refine z_astore_n (lv' := [(3, va_rf w2), (0, .ref a0), (1, .int a1), (2, .int a2)]) Z (x := w2) dX7_sailingOf_8 rfl hl (by decide) (by cases w2 <;> rfl) (fun ls hl => ?_)
  refine z_aload_n Z (x := w2) dX7_sailingOf_9 rfl (lv_at hl 0 rfl) ?_
  refine z_ifnonnull (tgt := 15) Z dX7_sailingOf_10 (by decide) hf (fun ex h9_10 => ?_) (fun v4 ex h9_10 => ?_)
  · subst ex
    have hf := h9_10
    refine lv_iconst (v := (-1)) Z.x Z.b dX7_sailingOf_13 (by decide) ?_
    exact z_iret Z E hr dX7_sailingOf_14 hf
  · subst ex
    have hf := h9_10
    refine lv_iload_n Z.x Z.b dX7_sailingOf_15 rfl (lv_at hl 3 rfl) ?_
    by_cases c0 : a2 = 0
    · have hf := zit hf c0
      refine lv_tableIn (tgt := 60) Z.x Z.b dX7_sailingOf_16 (by rw [c0]; decide) (by rw [c0]; decide) (by rw [c0]; rfl) (by decide) ?_
      refine lv_aload_n Z.x Z.b dX7_sailingOf_60 rfl (lv_at hl 0 rfl) ?_
      refine z_getI Z E q_X7_183 dX7_sailingOf_61 hf (fun v5 hf => ?_)
      exact z_iret Z E hr dX7_sailingOf_64 hf
    · have hf := zif_ hf c0
      by_cases c1 : a2 = 1
      · have hf := zit hf c1
        refine lv_tableIn (tgt := 65) Z.x Z.b dX7_sailingOf_16 (by rw [c1]; decide) (by rw [c1]; decide) (by rw [c1]; rfl) (by decide) ?_
        refine lv_aload_n Z.x Z.b dX7_sailingOf_65 rfl (lv_at hl 0 rfl) ?_
        refine z_getI Z E q_X7_186 dX7_sailingOf_66 hf (fun v6 hf => ?_)
        exact z_iret Z E hr dX7_sailingOf_69 hf
      · have hf := zif_ hf c1
        by_cases c2 : a2 = 2
        · have hf := zit hf c2
          refine lv_tableIn (tgt := 70) Z.x Z.b dX7_sailingOf_16 (by rw [c2]; decide) (by rw [c2]; decide) (by rw [c2]; rfl) (by decide) ?_
          refine lv_aload_n Z.x Z.b dX7_sailingOf_70 rfl (lv_at hl 0 rfl) ?_
          refine z_getI Z E q_X7_189 dX7_sailingOf_71 hf (fun v7 hf => ?_)
          exact z_iret Z E hr dX7_sailingOf_74 hf
        · have hf := zif_ hf c2
          by_cases c3 : a2 = 3
          · have hf := zit hf c3
            refine lv_tableIn (tgt := 75) Z.x Z.b dX7_sailingOf_16 (by rw [c3]; decide) (by rw [c3]; decide) (by rw [c3]; rfl) (by decide) ?_
            refine lv_aload_n Z.x Z.b dX7_sailingOf_75 rfl (lv_at hl 0 rfl) ?_
            refine z_getI Z E q_X7_192 dX7_sailingOf_76 hf (fun v8 hf => ?_)
            exact z_iret Z E hr dX7_sailingOf_79 hf
          · have hf := zif_ hf c3
            by_cases c4 : a2 = 4
            · have hf := zit hf c4
              refine lv_tableIn (tgt := 80) Z.x Z.b dX7_sailingOf_16 (by rw [c4]; decide) (by rw [c4]; decide) (by rw [c4]; rfl) (by decide) ?_
              refine lv_aload_n Z.x Z.b dX7_sailingOf_80 rfl (lv_at hl 0 rfl) ?_
              refine z_getI Z E q_X7_195 dX7_sailingOf_81 hf (fun v9 hf => ?_)
              exact z_iret Z E hr dX7_sailingOf_84 hf
            · have hf := zif_ hf c4
              by_cases c5 : a2 = 5
              · have hf := zit hf c5
                refine lv_tableIn (tgt := 85) Z.x Z.b dX7_sailingOf_16 (by rw [c5]; decide) (by rw [c5]; decide) (by rw [c5]; rfl) (by decide) ?_
                refine lv_aload_n Z.x Z.b dX7_sailingOf_85 rfl (lv_at hl 0 rfl) ?_
                refine z_Vi (As := []) Z E hl.1 k_X7_198 v_X4_allPlaces hf (fun r h' e => c_X4_allPlaces l G h3 h' v4 r e) rfl rfl (Nat.le_of_ble_eq_true rfl) (zRm_of rfl (Nat.zero_le _) (Nat.zero_le _)) dX7_sailingOf_86 (fun v10 h11 H locs hf E => ?_)
                exact z_iret Z E hr dX7_sailingOf_89 hf
              · have hf := zif_ hf c5
                by_cases c6 : a2 = 6
                · have hf := zit hf c6
                  refine lv_tableIn (tgt := 90) Z.x Z.b dX7_sailingOf_16 (by rw [c6]; decide) (by rw [c6]; decide) (by rw [c6]; rfl) (by decide) ?_
                  refine lv_aload_n Z.x Z.b dX7_sailingOf_90 rfl (lv_at hl 0 rfl) ?_
                  refine z_Vi (As := []) Z E hl.1 k_X7_150 v_X4_freePlaces hf (fun r h' e => c_X4_freePlaces l G h3 h' v4 r e) rfl rfl (Nat.le_of_ble_eq_true rfl) (zRm_of rfl (Nat.zero_le _) (Nat.zero_le _)) dX7_sailingOf_91 (fun v12 h13 H locs hf E => ?_)
                  exact z_iret Z E hr dX7_sailingOf_94 hf
                · have hf := zif_ hf c6
                  have n0 := zsw (k := 0) c0 (by decide)
                  have n1 := zsw (k := 1) c1 (by decide)
                  have n2 := zsw (k := 2) c2 (by decide)
                  have n3 := zsw (k := 3) c3 (by decide)
                  have n4 := zsw (k := 4) c4 (by decide)
                  have n5 := zsw (k := 5) c5 (by decide)
                  have n6 := zsw (k := 6) c6 (by decide)
                  refine lv_tableOut (tgt := 95) Z.x Z.b dX7_sailingOf_16 (by omega) (by decide) ?_
                  refine lv_bipush (v := (-2)) Z.x Z.b dX7_sailingOf_95 (by decide) ?_
                  exact z_iret Z E hr dX7_sailingOf_97 hf
set_option maxHeartbeats 4000000 in
set_option maxRecDepth 20000 in
theorem c_X7_sailingOf (l : Launch) (G : zG) (h : zHp) (h' : zHp) (a0 : Nat) (a1 : Int32) (a2 : Int32) (r : Int32) (hf : f_X7_sailingOf a0 a1 a2 h = some (r, h')) : zM0 l yX7_sailingOf cX7_sailingOf 4 (some .int) rm_X7_sailingOf G [.ref a0, .int a1, .int a2] h (zQi G r h') := by
  refine Met.ofW (cc := cX7_sailingOf) (maxL := 4) (ret := (some .int)) (by decide) rfl ?_
  intro p e s m args below meth c s₁ B hml hv
  obtain ⟨rfl, hW⟩ := hv
  obtain ⟨Z, E, hr⟩ := zEnter (own := RX7) B hml rfl hW
  have hl := lv_entry ([.ref a0, .int a1, .int a2]) (n := 4) (Nat.le_of_ble_eq_true rfl)
  rw [lg_entry_eq]
  generalize (lg_sl ([.ref a0, .int a1, .int a2]) ++ List.replicate (4 - (lg_sl ([.ref a0, .int a1, .int a2])).length) Slot.unset).toArray = ls at hl ⊢
  have hl : lv_has ls 4 [(0, .ref a0), (1, .int a1), (2, .int a2)] := hl
  exact t_X7_sailingOf (out := (r, h')) Z hr hf E hl
/-! FerryCrews.crew(III)I -/
theorem dX7_crew_0 : decode cX7_crew 0 = .ok (.aload_n 0, 1) := by decide +kernel
theorem dX7_crew_1 : decode cX7_crew 1 = .ok (.getfield 17, 3) := by decide +kernel
theorem dX7_crew_4 : decode cX7_crew 4 = .ok (.iload_n 1, 1) := by decide +kernel
theorem dX7_crew_5 : decode cX7_crew 5 = .ok (.invokevirtual 71, 3) := by decide +kernel
theorem dX7_crew_8 : decode cX7_crew 8 = .ok (.astore 4, 2) := by decide +kernel
theorem dX7_crew_10 : decode cX7_crew 10 = .ok (.aload 4, 2) := by decide +kernel
theorem dX7_crew_12 : decode cX7_crew 12 = .ok (.ifnonnull 5, 3) := by decide +kernel
theorem dX7_crew_15 : decode cX7_crew 15 = .ok (.iconst (-1), 1) := by decide +kernel
theorem dX7_crew_16 : decode cX7_crew 16 = .ok (.ireturn, 1) := by decide +kernel
theorem dX7_crew_17 : decode cX7_crew 17 = .ok (.iload_n 2, 1) := by decide +kernel
theorem dX7_crew_18 : decode cX7_crew 18 = .ok (.ifCond .lt 12, 3) := by decide +kernel
theorem dX7_crew_21 : decode cX7_crew 21 = .ok (.iload_n 3, 1) := by decide +kernel
theorem dX7_crew_22 : decode cX7_crew 22 = .ok (.iconst 0, 1) := by decide +kernel
theorem dX7_crew_23 : decode cX7_crew 23 = .ok (.iconst 2, 1) := by decide +kernel
theorem dX7_crew_24 : decode cX7_crew 24 = .ok (.invokestatic 88, 3) := by decide +kernel
theorem dX7_crew_27 : decode cX7_crew 27 = .ok (.ifCond .ne 6, 3) := by decide +kernel
theorem dX7_crew_30 : decode cX7_crew 30 = .ok (.bipush (-2), 2) := by decide +kernel
theorem dX7_crew_32 : decode cX7_crew 32 = .ok (.ireturn, 1) := by decide +kernel
theorem dX7_crew_33 : decode cX7_crew 33 = .ok (.aload 4, 2) := by decide +kernel
theorem dX7_crew_35 : decode cX7_crew 35 = .ok (.iload_n 2, 1) := by decide +kernel
theorem dX7_crew_36 : decode cX7_crew 36 = .ok (.invokevirtual 201, 3) := by decide +kernel
theorem dX7_crew_39 : decode cX7_crew 39 = .ok (.istore 5, 2) := by decide +kernel
theorem dX7_crew_41 : decode cX7_crew 41 = .ok (.iload 5, 2) := by decide +kernel
theorem dX7_crew_43 : decode cX7_crew 43 = .ok (.bipush (-5), 2) := by decide +kernel
theorem dX7_crew_45 : decode cX7_crew 45 = .ok (.if_icmp .eq 7, 3) := by decide +kernel
theorem dX7_crew_48 : decode cX7_crew 48 = .ok (.iload_n 3, 1) := by decide +kernel
theorem dX7_crew_49 : decode cX7_crew 49 = .ok (.ifCond .ne 6, 3) := by decide +kernel
theorem dX7_crew_52 : decode cX7_crew 52 = .ok (.iload 5, 2) := by decide +kernel
theorem dX7_crew_54 : decode cX7_crew 54 = .ok (.ireturn, 1) := by decide +kernel
theorem dX7_crew_55 : decode cX7_crew 55 = .ok (.iload_n 3, 1) := by decide +kernel
theorem dX7_crew_56 : decode cX7_crew 56 = .ok (.iconst 1, 1) := by decide +kernel
theorem dX7_crew_57 : decode cX7_crew 57 = .ok (.if_icmp .ne 11, 3) := by decide +kernel
theorem dX7_crew_60 : decode cX7_crew 60 = .ok (.aload 4, 2) := by decide +kernel
theorem dX7_crew_62 : decode cX7_crew 62 = .ok (.iload 5, 2) := by decide +kernel
theorem dX7_crew_64 : decode cX7_crew 64 = .ok (.invokevirtual 204, 3) := by decide +kernel
theorem dX7_crew_67 : decode cX7_crew 67 = .ok (.ireturn, 1) := by decide +kernel
theorem dX7_crew_68 : decode cX7_crew 68 = .ok (.aload_n 0, 1) := by decide +kernel
theorem dX7_crew_69 : decode cX7_crew 69 = .ok (.getfield 17, 3) := by decide +kernel
theorem dX7_crew_72 : decode cX7_crew 72 = .ok (.iload 5, 2) := by decide +kernel
theorem dX7_crew_74 : decode cX7_crew 74 = .ok (.aconst_null, 1) := by decide +kernel
theorem dX7_crew_75 : decode cX7_crew 75 = .ok (.invokevirtual 207, 3) := by decide +kernel
theorem dX7_crew_78 : decode cX7_crew 78 = .ok (.aload 4, 2) := by decide +kernel
theorem dX7_crew_80 : decode cX7_crew 80 = .ok (.invokevirtual 211, 3) := by decide +kernel
theorem dX7_crew_83 : decode cX7_crew 83 = .ok (.ireturn, 1) := by decide +kernel
set_option maxRecDepth 20000 in
theorem wc_X4_memberOfRank : Cond.code yX4_memberOfRank cX4_memberOfRank 5 (some .int) ∈ zB := List.mem_filter.mpr ⟨List.mem_of_getElem? (i := 675) (by decide +kernel), by decide +kernel⟩
set_option maxRecDepth 20000 in
theorem wm_X7_201 : Cond.methodLink RX7 201 yX4_memberOfRank ∈ zB := List.mem_filter.mpr ⟨List.mem_of_getElem? (i := 672) (by decide +kernel), by decide +kernel⟩
theorem k_X7_201 : zCal RX7 201 yX4_memberOfRank cX4_memberOfRank 5 (some .int) 1 := ⟨wm_X7_201, wi_X4, wc_X4_memberOfRank, by decide +kernel, by decide +kernel, by decide +kernel⟩
set_option maxRecDepth 20000 in
theorem wn_X4_memberOfRank : Cond.instanceMethod yX4_memberOfRank ∈ zB := List.mem_filter.mpr ⟨List.mem_of_getElem? (i := 673) (by decide +kernel), by decide +kernel⟩
set_option maxRecDepth 20000 in
theorem ws_X4_memberOfRank : Cond.selects RX4 yX4_memberOfRank yX4_memberOfRank ∈ zB := List.mem_filter.mpr ⟨List.mem_of_getElem? (i := 674) (by decide +kernel), by decide +kernel⟩
theorem v_X4_memberOfRank : zVir yX4_memberOfRank 4 := ⟨wn_X4_memberOfRank, ws_X4_memberOfRank, TX4, 9, rfl⟩
set_option maxRecDepth 20000 in
theorem wm_X7_207 : Cond.methodLink RX7 207 yX5_dutiesOf ∈ zB := List.mem_filter.mpr ⟨List.mem_of_getElem? (i := 677) (by decide +kernel), by decide +kernel⟩
theorem k_X7_207 : zCal RX7 207 yX5_dutiesOf cX5_dutiesOf 7 (some (.object "FerryCrews$Duties")) 2 := ⟨wm_X7_207, wi_X5, wc_X5_dutiesOf, by decide +kernel, by decide +kernel, by decide +kernel⟩
set_option maxRecDepth 20000 in
theorem wc_X0_beginOf : Cond.code yX0_beginOf cX0_beginOf 4 (some .int) ∈ zB := List.mem_filter.mpr ⟨List.mem_of_getElem? (i := 681) (by decide +kernel), by decide +kernel⟩
set_option maxRecDepth 20000 in
theorem wm_X7_211 : Cond.methodLink RX7 211 yX0_beginOf ∈ zB := List.mem_filter.mpr ⟨List.mem_of_getElem? (i := 678) (by decide +kernel), by decide +kernel⟩
theorem k_X7_211 : zCal RX7 211 yX0_beginOf cX0_beginOf 4 (some .int) 1 := ⟨wm_X7_211, wi_X0, wc_X0_beginOf, by decide +kernel, by decide +kernel, by decide +kernel⟩
set_option maxRecDepth 20000 in
theorem wn_X0_beginOf : Cond.instanceMethod yX0_beginOf ∈ zB := List.mem_filter.mpr ⟨List.mem_of_getElem? (i := 679) (by decide +kernel), by decide +kernel⟩
set_option maxRecDepth 20000 in
theorem ws_X0_beginOf : Cond.selects RX0 yX0_beginOf yX0_beginOf ∈ zB := List.mem_filter.mpr ⟨List.mem_of_getElem? (i := 680) (by decide +kernel), by decide +kernel⟩
theorem v_X0_beginOf : zVir yX0_beginOf 0 := ⟨wn_X0_beginOf, ws_X0_beginOf, TX0, 4, rfl⟩
set_option maxRecDepth 20000 in
theorem wm_X7_204 : Cond.methodLink RX7 204 yX4_roleOf ∈ zB := List.mem_filter.mpr ⟨List.mem_of_getElem? (i := 676) (by decide +kernel), by decide +kernel⟩
theorem k_X7_204 : zCal RX7 204 yX4_roleOf cX4_roleOf 2 (some .int) 1 := ⟨wm_X7_204, wi_X4, wc_X4_roleOf, by decide +kernel, by decide +kernel, by decide +kernel⟩
def rm_X7_crew : Room := { frames := 4, cells := 0, slots := 0, locals := 88 }
set_option maxHeartbeats 4000000 in
set_option maxRecDepth 20000 in
theorem t_X7_crew {p : Program} {l : Launch} {e : Env} {s : State} {m : MethodId} {args : Array Value} {below : List Frame} {meth : Method} {c : Code} {G : zG} (Z : zF p s m args c meth cX7_crew 6 RX7 G) (hr : meth.sig.returnType = (some .int)) {out : Int32 × zHp} {a0 : Nat} {a1 : Int32} {a2 : Int32} {a3 : Int32} {h : zHp} {H : Heap} {locs : List Loc} {ls : Array Slot} (hf : f_X7_crew a0 a1 a2 a3 h = some out) (E : zE G s h H locs) (hl : lv_has ls 6 [(0, .ref a0), (1, .int a1), (2, .int a2), (3, .int a3)]) : W p l e rm_X7_crew s m args below meth c H locs 0 0 (MQ below (zQi G out.1 out.2) args s 0 0 (zA G)) (F0 m 0 ls []) := by
  unfold f_X7_crew at hf
  refine lv_aload_n Z.x Z.b dX7_crew_0 rfl (lv_at hl 0 rfl) ?_
  refine z_getR Z E q_X7_17 dX7_crew_1 hf (fun v1 hf => ?_)
  refine lv_iload_n Z.x Z.b dX7_crew_4 rfl (lv_at hl 1 rfl) ?_
  refine z_Vq (As := [.int a1]) Z E hl.1 k_X7_71 v_X5_sailingAt hf (fun r h' e => c_X5_sailingAt l G h h' v1 a1 r e) rfl rfl (Nat.le_of_ble_eq_true rfl) (zRm_of rfl (Nat.zero_le _) (Nat.zero_le _)) dX7_crew_5 (fun w2 h3 H locs hf E => ?_)
  refine z_astore (lv' := [(4, va_rf w2), (0, .ref a0), (1, .int a1), (2, .int a2), (3, .int a3)]) Z (x := w2) dX7_crew_8 hl (by decide) (by cases w2 <;> rfl) (fun ls hl => ?_)
  refine z_aload Z (x := w2) dX7_crew_10 (lv_at hl 0 rfl) ?_
  refine z_ifnonnull (tgt := 17) Z dX7_crew_12 (by decide) hf (fun ex h9_12 => ?_) (fun v4 ex h9_12 => ?_)
  · subst ex
    have hf := h9_12
    refine lv_iconst (v := (-1)) Z.x Z.b dX7_crew_15 (by decide) ?_
    exact z_iret Z E hr dX7_crew_16 hf
  · subst ex
    have hf := h9_12
    refine lv_iload_n Z.x Z.b dX7_crew_17 rfl (lv_at hl 3 rfl) ?_
    refine lv_if_lt (tgt := 30) Z.x Z.b dX7_crew_18 (by decide) (fun c => ?_) (fun c => ?_)
    · have hf := zit hf c
      refine lv_bipush (v := (-2)) Z.x Z.b dX7_crew_30 (by decide) ?_
      exact z_iret Z E hr dX7_crew_32 hf
    · have hf := zif_ hf c
      refine lv_iload_n Z.x Z.b dX7_crew_21 rfl (lv_at hl 4 rfl) ?_
      refine lv_iconst (v := 0) Z.x Z.b dX7_crew_22 (by decide) ?_
      refine lv_iconst (v := 2) Z.x Z.b dX7_crew_23 (by decide) ?_
      refine z_Si (As := [.int a3, .int 0, .int 2]) Z E hl.1 k_X7_88 wt_X7_isWithin hf (fun r h' e => c_X7_isWithin l G h3 h' a3 0 2 r e) rfl rfl (Nat.le_of_ble_eq_true rfl) (zRm_of rfl (Nat.zero_le _) (Nat.zero_le _)) dX7_crew_24 (fun v5 h6 H locs hf E => ?_)
      refine lv_if_ne (tgt := 33) Z.x Z.b dX7_crew_27 (by decide) (fun c => ?_) (fun c => ?_)
      · have hf := zif_ hf c
        refine lv_aload Z.x Z.b dX7_crew_33 (lv_at hl 0 rfl) ?_
        refine lv_iload_n Z.x Z.b dX7_crew_35 rfl (lv_at hl 3 rfl) ?_
        refine z_Vi (As := [.int a2]) Z E hl.1 k_X7_201 v_X4_memberOfRank hf (fun r h' e => c_X4_memberOfRank l G h6 h' v4 a2 r e) rfl rfl (Nat.le_of_ble_eq_true rfl) (zRm_of rfl (Nat.zero_le _) (Nat.zero_le _)) dX7_crew_36 (fun v7 h8 H locs hf E => ?_)
        refine lv_istore (lv' := [(5, .int v7), (4, .ref v4), (0, .ref a0), (1, .int a1), (2, .int a2), (3, .int a3)]) Z.x Z.b dX7_crew_39 hl (by decide) rfl (fun ls hl => ?_)
        refine lv_iload Z.x Z.b dX7_crew_41 (lv_at hl 0 rfl) ?_
        refine lv_bipush (v := (-5)) Z.x Z.b dX7_crew_43 (by decide) ?_
        refine lv_icmp_eq (tgt := 52) Z.x Z.b dX7_crew_45 (by decide) (fun c => ?_) (fun c => ?_)
        · have hf := zit hf c
          refine lv_iload Z.x Z.b dX7_crew_52 (lv_at hl 0 rfl) ?_
          exact z_iret Z E hr dX7_crew_54 hf
        · have hf := zif_ hf c
          refine lv_iload_n Z.x Z.b dX7_crew_48 rfl (lv_at hl 5 rfl) ?_
          refine lv_if_ne (tgt := 55) Z.x Z.b dX7_crew_49 (by decide) (fun c => ?_) (fun c => ?_)
          · have hf := zif_ hf c
            refine lv_iload_n Z.x Z.b dX7_crew_55 rfl (lv_at hl 5 rfl) ?_
            refine lv_iconst (v := 1) Z.x Z.b dX7_crew_56 (by decide) ?_
            refine lv_icmp_ne (tgt := 68) Z.x Z.b dX7_crew_57 (by decide) (fun c => ?_) (fun c => ?_)
            · have hf := zif_ hf c
              refine lv_aload_n Z.x Z.b dX7_crew_68 rfl (lv_at hl 2 rfl) ?_
              refine z_getR Z E q_X7_17 dX7_crew_69 hf (fun v9 hf => ?_)
              refine lv_iload Z.x Z.b dX7_crew_72 (lv_at hl 0 rfl) ?_
              refine lv_null Z.x Z.b dX7_crew_74 ?_
              refine z_Vq (As := [.int v7, va_rf none]) Z E hl.1 k_X7_207 v_X5_dutiesOf hf (fun r h' e => c_X5_dutiesOf l G h8 h' v9 v7 none r e) rfl rfl (Nat.le_of_ble_eq_true rfl) (zRm_of rfl (Nat.zero_le _) (Nat.zero_le _)) dX7_crew_75 (fun w10 h11 H locs hf E => ?_)
              obtain ⟨v12, ex, h8_75⟩ := zopt_inv hf
              subst ex
              have hf := h8_75
              refine lv_aload Z.x Z.b dX7_crew_78 (lv_at hl 1 rfl) ?_
              refine z_Vi (As := [.ref v4]) Z E hl.1 k_X7_211 v_X0_beginOf hf (fun r h' e => c_X0_beginOf l G h11 h' v12 v4 r e) rfl rfl (Nat.le_of_ble_eq_true rfl) (zRm_of rfl (Nat.zero_le _) (Nat.zero_le _)) dX7_crew_80 (fun v13 h14 H locs hf E => ?_)
              exact z_iret Z E hr dX7_crew_83 hf
            · have hf := zit hf c
              refine lv_aload Z.x Z.b dX7_crew_60 (lv_at hl 1 rfl) ?_
              refine lv_iload Z.x Z.b dX7_crew_62 (lv_at hl 0 rfl) ?_
              refine z_Vi (As := [.int v7]) Z E hl.1 k_X7_204 v_X4_roleOf hf (fun r h' e => c_X4_roleOf l G h8 h' v4 v7 r e) rfl rfl (Nat.le_of_ble_eq_true rfl) (zRm_of rfl (Nat.zero_le _) (Nat.zero_le _)) dX7_crew_64 (fun v15 h16 H locs hf E => ?_)
              exact z_iret Z E hr dX7_crew_67 hf
          · have hf := zit hf c
            refine lv_iload Z.x Z.b dX7_crew_52 (lv_at hl 0 rfl) ?_
            exact z_iret Z E hr dX7_crew_54 hf
      · have hf := zit hf c
        refine lv_bipush (v := (-2)) Z.x Z.b dX7_crew_30 (by decide) ?_
        exact z_iret Z E hr dX7_crew_32 hf
set_option maxHeartbeats 4000000 in
set_option maxRecDepth 20000 in
theorem c_X7_crew (l : Launch) (G : zG) (h : zHp) (h' : zHp) (a0 : Nat) (a1 : Int32) (a2 : Int32) (a3 : Int32) (r : Int32) (hf : f_X7_crew a0 a1 a2 a3 h = some (r, h')) : zM0 l yX7_crew cX7_crew 6 (some .int) rm_X7_crew G [.ref a0, .int a1, .int a2, .int a3] h (zQi G r h') := by
  refine Met.ofW (cc := cX7_crew) (maxL := 6) (ret := (some .int)) (by decide) rfl ?_
  intro p e s m args below meth c s₁ B hml hv
  obtain ⟨rfl, hW⟩ := hv
  obtain ⟨Z, E, hr⟩ := zEnter (own := RX7) B hml rfl hW
  have hl := lv_entry ([.ref a0, .int a1, .int a2, .int a3]) (n := 6) (Nat.le_of_ble_eq_true rfl)
  rw [lg_entry_eq]
  generalize (lg_sl ([.ref a0, .int a1, .int a2, .int a3]) ++ List.replicate (6 - (lg_sl ([.ref a0, .int a1, .int a2, .int a3])).length) Slot.unset).toArray = ls at hl ⊢
  have hl : lv_has ls 6 [(0, .ref a0), (1, .int a1), (2, .int a2), (3, .int a3)] := hl
  exact t_X7_crew (out := (r, h')) Z hr hf E hl
/-! FerryCrews.memberOf(II)I -/
theorem dX7_memberOf_0 : decode cX7_memberOf 0 = .ok (.aload_n 0, 1) := by decide +kernel
theorem dX7_memberOf_1 : decode cX7_memberOf 1 = .ok (.getfield 17, 3) := by decide +kernel
theorem dX7_memberOf_4 : decode cX7_memberOf 4 = .ok (.iload_n 1, 1) := by decide +kernel
theorem dX7_memberOf_5 : decode cX7_memberOf 5 = .ok (.invokevirtual 99, 3) := by decide +kernel
theorem dX7_memberOf_8 : decode cX7_memberOf 8 = .ok (.astore_n 3, 1) := by decide +kernel
theorem dX7_memberOf_9 : decode cX7_memberOf 9 = .ok (.aload_n 3, 1) := by decide +kernel
theorem dX7_memberOf_10 : decode cX7_memberOf 10 = .ok (.ifnonnull 5, 3) := by decide +kernel
theorem dX7_memberOf_13 : decode cX7_memberOf 13 = .ok (.iconst (-1), 1) := by decide +kernel
theorem dX7_memberOf_14 : decode cX7_memberOf 14 = .ok (.ireturn, 1) := by decide +kernel
theorem dX7_memberOf_15 : decode cX7_memberOf 15 = .ok (.iload_n 2, 1) := by decide +kernel
theorem dX7_memberOf_16 : decode cX7_memberOf 16 = .ok (.invokestatic 84, 3) := by decide +kernel
theorem dX7_memberOf_19 : decode cX7_memberOf 19 = .ok (.ifCond .eq 9, 3) := by decide +kernel
theorem dX7_memberOf_22 : decode cX7_memberOf 22 = .ok (.aload_n 3, 1) := by decide +kernel
theorem dX7_memberOf_23 : decode cX7_memberOf 23 = .ok (.iload_n 2, 1) := by decide +kernel
theorem dX7_memberOf_24 : decode cX7_memberOf 24 = .ok (.invokevirtual 214, 3) := by decide +kernel
theorem dX7_memberOf_27 : decode cX7_memberOf 27 = .ok (.ireturn, 1) := by decide +kernel
theorem dX7_memberOf_28 : decode cX7_memberOf 28 = .ok (.iload_n 2, 1) := by decide +kernel
theorem dX7_memberOf_29 : decode cX7_memberOf 29 = .ok (.tableswitch 110 4 9 #[39, 63, 73, 83, 96, 101], 39) := by decide +kernel
theorem dX7_memberOf_68 : decode cX7_memberOf 68 = .ok (.aload_n 3, 1) := by decide +kernel
theorem dX7_memberOf_69 : decode cX7_memberOf 69 = .ok (.getfield 130, 3) := by decide +kernel
theorem dX7_memberOf_72 : decode cX7_memberOf 72 = .ok (.aload_n 0, 1) := by decide +kernel
theorem dX7_memberOf_73 : decode cX7_memberOf 73 = .ok (.getfield 17, 3) := by decide +kernel
theorem dX7_memberOf_76 : decode cX7_memberOf 76 = .ok (.getfield 133, 3) := by decide +kernel
theorem dX7_memberOf_79 : decode cX7_memberOf 79 = .ok (.if_icmp .le 10, 3) := by decide +kernel
theorem dX7_memberOf_82 : decode cX7_memberOf 82 = .ok (.aload_n 3, 1) := by decide +kernel
theorem dX7_memberOf_83 : decode cX7_memberOf 83 = .ok (.getfield 130, 3) := by decide +kernel
theorem dX7_memberOf_86 : decode cX7_memberOf 86 = .ok (.goto 5, 3) := by decide +kernel
theorem dX7_memberOf_89 : decode cX7_memberOf 89 = .ok (.bipush (-5), 2) := by decide +kernel
theorem dX7_memberOf_91 : decode cX7_memberOf 91 = .ok (.ireturn, 1) := by decide +kernel
theorem dX7_memberOf_92 : decode cX7_memberOf 92 = .ok (.aload_n 0, 1) := by decide +kernel
theorem dX7_memberOf_93 : decode cX7_memberOf 93 = .ok (.getfield 17, 3) := by decide +kernel
theorem dX7_memberOf_96 : decode cX7_memberOf 96 = .ok (.iload_n 1, 1) := by decide +kernel
theorem dX7_memberOf_97 : decode cX7_memberOf 97 = .ok (.iconst 0, 1) := by decide +kernel
theorem dX7_memberOf_98 : decode cX7_memberOf 98 = .ok (.invokevirtual 217, 3) := by decide +kernel
theorem dX7_memberOf_101 : decode cX7_memberOf 101 = .ok (.ireturn, 1) := by decide +kernel
theorem dX7_memberOf_102 : decode cX7_memberOf 102 = .ok (.aload_n 0, 1) := by decide +kernel
theorem dX7_memberOf_103 : decode cX7_memberOf 103 = .ok (.getfield 17, 3) := by decide +kernel
theorem dX7_memberOf_106 : decode cX7_memberOf 106 = .ok (.iload_n 1, 1) := by decide +kernel
theorem dX7_memberOf_107 : decode cX7_memberOf 107 = .ok (.iconst 1, 1) := by decide +kernel
theorem dX7_memberOf_108 : decode cX7_memberOf 108 = .ok (.invokevirtual 217, 3) := by decide +kernel
theorem dX7_memberOf_111 : decode cX7_memberOf 111 = .ok (.ireturn, 1) := by decide +kernel
theorem dX7_memberOf_112 : decode cX7_memberOf 112 = .ok (.aload_n 0, 1) := by decide +kernel
theorem dX7_memberOf_113 : decode cX7_memberOf 113 = .ok (.getfield 17, 3) := by decide +kernel
theorem dX7_memberOf_116 : decode cX7_memberOf 116 = .ok (.iload_n 1, 1) := by decide +kernel
theorem dX7_memberOf_117 : decode cX7_memberOf 117 = .ok (.aconst_null, 1) := by decide +kernel
theorem dX7_memberOf_118 : decode cX7_memberOf 118 = .ok (.invokevirtual 207, 3) := by decide +kernel
theorem dX7_memberOf_121 : decode cX7_memberOf 121 = .ok (.getfield 220, 3) := by decide +kernel
theorem dX7_memberOf_124 : decode cX7_memberOf 124 = .ok (.ireturn, 1) := by decide +kernel
theorem dX7_memberOf_125 : decode cX7_memberOf 125 = .ok (.aload_n 3, 1) := by decide +kernel
theorem dX7_memberOf_126 : decode cX7_memberOf 126 = .ok (.getfield 223, 3) := by decide +kernel
theorem dX7_memberOf_129 : decode cX7_memberOf 129 = .ok (.ireturn, 1) := by decide +kernel
theorem dX7_memberOf_130 : decode cX7_memberOf 130 = .ok (.aload_n 0, 1) := by decide +kernel
theorem dX7_memberOf_131 : decode cX7_memberOf 131 = .ok (.getfield 17, 3) := by decide +kernel
theorem dX7_memberOf_134 : decode cX7_memberOf 134 = .ok (.iload_n 1, 1) := by decide +kernel
theorem dX7_memberOf_135 : decode cX7_memberOf 135 = .ok (.invokevirtual 226, 3) := by decide +kernel
theorem dX7_memberOf_138 : decode cX7_memberOf 138 = .ok (.ireturn, 1) := by decide +kernel
theorem dX7_memberOf_139 : decode cX7_memberOf 139 = .ok (.bipush (-2), 2) := by decide +kernel
theorem dX7_memberOf_141 : decode cX7_memberOf 141 = .ok (.ireturn, 1) := by decide +kernel
set_option maxRecDepth 20000 in
theorem wc_X5_placesOf : Cond.code yX5_placesOf cX5_placesOf 8 (some .int) ∈ zB := List.mem_filter.mpr ⟨List.mem_of_getElem? (i := 690) (by decide +kernel), by decide +kernel⟩
set_option maxRecDepth 20000 in
theorem wm_X7_217 : Cond.methodLink RX7 217 yX5_placesOf ∈ zB := List.mem_filter.mpr ⟨List.mem_of_getElem? (i := 687) (by decide +kernel), by decide +kernel⟩
theorem k_X7_217 : zCal RX7 217 yX5_placesOf cX5_placesOf 8 (some .int) 2 := ⟨wm_X7_217, wi_X5, wc_X5_placesOf, by decide +kernel, by decide +kernel, by decide +kernel⟩
set_option maxRecDepth 20000 in
theorem wn_X5_placesOf : Cond.instanceMethod yX5_placesOf ∈ zB := List.mem_filter.mpr ⟨List.mem_of_getElem? (i := 688) (by decide +kernel), by decide +kernel⟩
set_option maxRecDepth 20000 in
theorem ws_X5_placesOf : Cond.selects RX5 yX5_placesOf yX5_placesOf ∈ zB := List.mem_filter.mpr ⟨List.mem_of_getElem? (i := 689) (by decide +kernel), by decide +kernel⟩
theorem v_X5_placesOf : zVir yX5_placesOf 5 := ⟨wn_X5_placesOf, ws_X5_placesOf, TX5, 8, rfl⟩
set_option maxRecDepth 20000 in
theorem wf_X7_220 : Cond.fieldLink RX7 220 RX0 "hours" "I" ∈ zB := List.mem_filter.mpr ⟨List.mem_of_getElem? (i := 88) (by decide +kernel), by decide +kernel⟩
theorem q_X7_220 : zFld RX7 220 0 1 := ⟨RX0, TX0, 4, rfl, by decide, iX0, wf_X7_220, rfl⟩
set_option maxRecDepth 20000 in
theorem wf_X7_223 : Cond.fieldLink RX7 223 RX3 "covers" "I" ∈ zB := List.mem_filter.mpr ⟨List.mem_of_getElem? (i := 178) (by decide +kernel), by decide +kernel⟩
theorem q_X7_223 : zFld RX7 223 3 2 := ⟨RX3, TX3, 3, rfl, by decide, iX3, wf_X7_223, rfl⟩
set_option maxRecDepth 20000 in
theorem wc_X5_nextSailingOf : Cond.code yX5_nextSailingOf cX5_nextSailingOf 6 (some .int) ∈ zB := List.mem_filter.mpr ⟨List.mem_of_getElem? (i := 694) (by decide +kernel), by decide +kernel⟩
set_option maxRecDepth 20000 in
theorem wm_X7_226 : Cond.methodLink RX7 226 yX5_nextSailingOf ∈ zB := List.mem_filter.mpr ⟨List.mem_of_getElem? (i := 691) (by decide +kernel), by decide +kernel⟩
theorem k_X7_226 : zCal RX7 226 yX5_nextSailingOf cX5_nextSailingOf 6 (some .int) 1 := ⟨wm_X7_226, wi_X5, wc_X5_nextSailingOf, by decide +kernel, by decide +kernel, by decide +kernel⟩
set_option maxRecDepth 20000 in
theorem wn_X5_nextSailingOf : Cond.instanceMethod yX5_nextSailingOf ∈ zB := List.mem_filter.mpr ⟨List.mem_of_getElem? (i := 692) (by decide +kernel), by decide +kernel⟩
set_option maxRecDepth 20000 in
theorem ws_X5_nextSailingOf : Cond.selects RX5 yX5_nextSailingOf yX5_nextSailingOf ∈ zB := List.mem_filter.mpr ⟨List.mem_of_getElem? (i := 693) (by decide +kernel), by decide +kernel⟩
theorem v_X5_nextSailingOf : zVir yX5_nextSailingOf 5 := ⟨wn_X5_nextSailingOf, ws_X5_nextSailingOf, TX5, 8, rfl⟩
set_option maxRecDepth 20000 in
theorem wm_X7_214 : Cond.methodLink RX7 214 yX3_certificateOf ∈ zB := List.mem_filter.mpr ⟨List.mem_of_getElem? (i := 686) (by decide +kernel), by decide +kernel⟩
theorem k_X7_214 : zCal RX7 214 yX3_certificateOf cX3_certificateOf 2 (some .int) 1 := ⟨wm_X7_214, wi_X3, wc_X3_certificateOf, by decide +kernel, by decide +kernel, by decide +kernel⟩
def rm_X7_memberOf : Room := { frames := 4, cells := 0, slots := 0, locals := 89 }
set_option maxHeartbeats 4000000 in
set_option maxRecDepth 20000 in
theorem t_X7_memberOf {p : Program} {l : Launch} {e : Env} {s : State} {m : MethodId} {args : Array Value} {below : List Frame} {meth : Method} {c : Code} {G : zG} (Z : zF p s m args c meth cX7_memberOf 4 RX7 G) (hr : meth.sig.returnType = (some .int)) {out : Int32 × zHp} {a0 : Nat} {a1 : Int32} {a2 : Int32} {h : zHp} {H : Heap} {locs : List Loc} {ls : Array Slot} (hf : f_X7_memberOf a0 a1 a2 h = some out) (E : zE G s h H locs) (hl : lv_has ls 4 [(0, .ref a0), (1, .int a1), (2, .int a2)]) : W p l e rm_X7_memberOf s m args below meth c H locs 0 0 (MQ below (zQi G out.1 out.2) args s 0 0 (zA G)) (F0 m 0 ls []) := by
  unfold f_X7_memberOf at hf
  refine lv_aload_n Z.x Z.b dX7_memberOf_0 rfl (lv_at hl 0 rfl) ?_
  refine z_getR Z E q_X7_17 dX7_memberOf_1 hf (fun v1 hf => ?_)
  refine lv_iload_n Z.x Z.b dX7_memberOf_4 rfl (lv_at hl 1 rfl) ?_
  refine z_Vq (As := [.int a1]) Z E hl.1 k_X7_99 v_X5_memberAt hf (fun r h' e => c_X5_memberAt l G h h' v1 a1 r e) rfl rfl (Nat.le_of_ble_eq_true rfl) (zRm_of rfl (Nat.zero_le _) (Nat.zero_le _)) dX7_memberOf_5 (fun w2 h3 H locs hf E => ?_)
  refine z_astore_n (lv' := [(3, va_rf w2), (0, .ref a0), (1, .int a1), (2, .int a2)]) Z (x := w2) dX7_memberOf_8 rfl hl (by decide) (by cases w2 <;> rfl) (fun ls hl => ?_)
  refine z_aload_n Z (x := w2) dX7_memberOf_9 rfl (lv_at hl 0 rfl) ?_
  refine z_ifnonnull (tgt := 15) Z dX7_memberOf_10 (by decide) hf (fun ex h9_10 => ?_) (fun v4 ex h9_10 => ?_)
  · subst ex
    have hf := h9_10
    refine lv_iconst (v := (-1)) Z.x Z.b dX7_memberOf_13 (by decide) ?_
    exact z_iret Z E hr dX7_memberOf_14 hf
  · subst ex
    have hf := h9_10
    refine lv_iload_n Z.x Z.b dX7_memberOf_15 rfl (lv_at hl 3 rfl) ?_
    refine z_Si (As := [.int a2]) Z E hl.1 k_X7_84 wt_X7_isRole hf (fun r h' e => c_X7_isRole l G h3 h' a2 r e) rfl rfl (Nat.le_of_ble_eq_true rfl) (zRm_of rfl (Nat.zero_le _) (Nat.zero_le _)) dX7_memberOf_16 (fun v5 h6 H locs hf E => ?_)
    refine lv_if_eq (tgt := 28) Z.x Z.b dX7_memberOf_19 (by decide) (fun c => ?_) (fun c => ?_)
    · have hf := zit hf c
      refine lv_iload_n Z.x Z.b dX7_memberOf_28 rfl (lv_at hl 3 rfl) ?_
      by_cases c4 : a2 = 4
      · have hf := zit hf c4
        refine lv_tableIn (tgt := 68) Z.x Z.b dX7_memberOf_29 (by rw [c4]; decide) (by rw [c4]; decide) (by rw [c4]; rfl) (by decide) ?_
        refine lv_aload_n Z.x Z.b dX7_memberOf_68 rfl (lv_at hl 0 rfl) ?_
        refine z_getI Z E q_X7_130 dX7_memberOf_69 hf (fun v7 hf => ?_)
        refine lv_aload_n Z.x Z.b dX7_memberOf_72 rfl (lv_at hl 1 rfl) ?_
        refine z_getR Z E q_X7_17 dX7_memberOf_73 hf (fun v8 hf => ?_)
        refine z_getI Z E q_X7_133 dX7_memberOf_76 hf (fun v9 hf => ?_)
        refine lv_icmp_le (tgt := 89) Z.x Z.b dX7_memberOf_79 (by decide) (fun c => ?_) (fun c => ?_)
        · have hf := zit hf c
          refine lv_bipush (v := (-5)) Z.x Z.b dX7_memberOf_89 (by decide) ?_
          exact z_iret Z E hr dX7_memberOf_91 hf
        · have hf := zif_ hf c
          refine lv_aload_n Z.x Z.b dX7_memberOf_82 rfl (lv_at hl 0 rfl) ?_
          refine z_getI Z E q_X7_130 dX7_memberOf_83 hf (fun v10 hf => ?_)
          refine lv_goto (tgt := 91) Z.x Z.b dX7_memberOf_86 (by decide) ?_
          exact z_iret Z E hr dX7_memberOf_91 hf
      · have hf := zif_ hf c4
        by_cases c5 : a2 = 5
        · have hf := zit hf c5
          refine lv_tableIn (tgt := 92) Z.x Z.b dX7_memberOf_29 (by rw [c5]; decide) (by rw [c5]; decide) (by rw [c5]; rfl) (by decide) ?_
          refine lv_aload_n Z.x Z.b dX7_memberOf_92 rfl (lv_at hl 1 rfl) ?_
          refine z_getR Z E q_X7_17 dX7_memberOf_93 hf (fun v11 hf => ?_)
          refine lv_iload_n Z.x Z.b dX7_memberOf_96 rfl (lv_at hl 2 rfl) ?_
          refine lv_iconst (v := 0) Z.x Z.b dX7_memberOf_97 (by decide) ?_
          refine z_Vi (As := [.int a1, .int 0]) Z E hl.1 k_X7_217 v_X5_placesOf hf (fun r h' e => c_X5_placesOf l G h6 h' v11 a1 0 r e) rfl rfl (Nat.le_of_ble_eq_true rfl) (zRm_of rfl (Nat.zero_le _) (Nat.zero_le _)) dX7_memberOf_98 (fun v12 h13 H locs hf E => ?_)
          exact z_iret Z E hr dX7_memberOf_101 hf
        · have hf := zif_ hf c5
          by_cases c6 : a2 = 6
          · have hf := zit hf c6
            refine lv_tableIn (tgt := 102) Z.x Z.b dX7_memberOf_29 (by rw [c6]; decide) (by rw [c6]; decide) (by rw [c6]; rfl) (by decide) ?_
            refine lv_aload_n Z.x Z.b dX7_memberOf_102 rfl (lv_at hl 1 rfl) ?_
            refine z_getR Z E q_X7_17 dX7_memberOf_103 hf (fun v14 hf => ?_)
            refine lv_iload_n Z.x Z.b dX7_memberOf_106 rfl (lv_at hl 2 rfl) ?_
            refine lv_iconst (v := 1) Z.x Z.b dX7_memberOf_107 (by decide) ?_
            refine z_Vi (As := [.int a1, .int 1]) Z E hl.1 k_X7_217 v_X5_placesOf hf (fun r h' e => c_X5_placesOf l G h6 h' v14 a1 1 r e) rfl rfl (Nat.le_of_ble_eq_true rfl) (zRm_of rfl (Nat.zero_le _) (Nat.zero_le _)) dX7_memberOf_108 (fun v15 h16 H locs hf E => ?_)
            exact z_iret Z E hr dX7_memberOf_111 hf
          · have hf := zif_ hf c6
            by_cases c7 : a2 = 7
            · have hf := zit hf c7
              refine lv_tableIn (tgt := 112) Z.x Z.b dX7_memberOf_29 (by rw [c7]; decide) (by rw [c7]; decide) (by rw [c7]; rfl) (by decide) ?_
              refine lv_aload_n Z.x Z.b dX7_memberOf_112 rfl (lv_at hl 1 rfl) ?_
              refine z_getR Z E q_X7_17 dX7_memberOf_113 hf (fun v17 hf => ?_)
              refine lv_iload_n Z.x Z.b dX7_memberOf_116 rfl (lv_at hl 2 rfl) ?_
              refine lv_null Z.x Z.b dX7_memberOf_117 ?_
              refine z_Vq (As := [.int a1, va_rf none]) Z E hl.1 k_X7_207 v_X5_dutiesOf hf (fun r h' e => c_X5_dutiesOf l G h6 h' v17 a1 none r e) rfl rfl (Nat.le_of_ble_eq_true rfl) (zRm_of rfl (Nat.zero_le _) (Nat.zero_le _)) dX7_memberOf_118 (fun w18 h19 H locs hf E => ?_)
              obtain ⟨v20, ex, h8_118⟩ := zopt_inv hf
              subst ex
              have hf := h8_118
              refine z_getI Z E q_X7_220 dX7_memberOf_121 hf (fun v21 hf => ?_)
              exact z_iret Z E hr dX7_memberOf_124 hf
            · have hf := zif_ hf c7
              by_cases c8 : a2 = 8
              · have hf := zit hf c8
                refine lv_tableIn (tgt := 125) Z.x Z.b dX7_memberOf_29 (by rw [c8]; decide) (by rw [c8]; decide) (by rw [c8]; rfl) (by decide) ?_
                refine lv_aload_n Z.x Z.b dX7_memberOf_125 rfl (lv_at hl 0 rfl) ?_
                refine z_getI Z E q_X7_223 dX7_memberOf_126 hf (fun v22 hf => ?_)
                exact z_iret Z E hr dX7_memberOf_129 hf
              · have hf := zif_ hf c8
                by_cases c9 : a2 = 9
                · have hf := zit hf c9
                  refine lv_tableIn (tgt := 130) Z.x Z.b dX7_memberOf_29 (by rw [c9]; decide) (by rw [c9]; decide) (by rw [c9]; rfl) (by decide) ?_
                  refine lv_aload_n Z.x Z.b dX7_memberOf_130 rfl (lv_at hl 1 rfl) ?_
                  refine z_getR Z E q_X7_17 dX7_memberOf_131 hf (fun v23 hf => ?_)
                  refine lv_iload_n Z.x Z.b dX7_memberOf_134 rfl (lv_at hl 2 rfl) ?_
                  refine z_Vi (As := [.int a1]) Z E hl.1 k_X7_226 v_X5_nextSailingOf hf (fun r h' e => c_X5_nextSailingOf l G h6 h' v23 a1 r e) rfl rfl (Nat.le_of_ble_eq_true rfl) (zRm_of rfl (Nat.zero_le _) (Nat.zero_le _)) dX7_memberOf_135 (fun v24 h25 H locs hf E => ?_)
                  exact z_iret Z E hr dX7_memberOf_138 hf
                · have hf := zif_ hf c9
                  have n4 := zsw (k := 4) c4 (by decide)
                  have n5 := zsw (k := 5) c5 (by decide)
                  have n6 := zsw (k := 6) c6 (by decide)
                  have n7 := zsw (k := 7) c7 (by decide)
                  have n8 := zsw (k := 8) c8 (by decide)
                  have n9 := zsw (k := 9) c9 (by decide)
                  refine lv_tableOut (tgt := 139) Z.x Z.b dX7_memberOf_29 (by omega) (by decide) ?_
                  refine lv_bipush (v := (-2)) Z.x Z.b dX7_memberOf_139 (by decide) ?_
                  exact z_iret Z E hr dX7_memberOf_141 hf
    · have hf := zif_ hf c
      refine lv_aload_n Z.x Z.b dX7_memberOf_22 rfl (lv_at hl 0 rfl) ?_
      refine lv_iload_n Z.x Z.b dX7_memberOf_23 rfl (lv_at hl 3 rfl) ?_
      refine z_Vi (As := [.int a2]) Z E hl.1 k_X7_214 v_X3_certificateOf hf (fun r h' e => c_X3_certificateOf l G h6 h' v4 a2 r e) rfl rfl (Nat.le_of_ble_eq_true rfl) (zRm_of rfl (Nat.zero_le _) (Nat.zero_le _)) dX7_memberOf_24 (fun v26 h27 H locs hf E => ?_)
      exact z_iret Z E hr dX7_memberOf_27 hf
set_option maxHeartbeats 4000000 in
set_option maxRecDepth 20000 in
theorem c_X7_memberOf (l : Launch) (G : zG) (h : zHp) (h' : zHp) (a0 : Nat) (a1 : Int32) (a2 : Int32) (r : Int32) (hf : f_X7_memberOf a0 a1 a2 h = some (r, h')) : zM0 l yX7_memberOf cX7_memberOf 4 (some .int) rm_X7_memberOf G [.ref a0, .int a1, .int a2] h (zQi G r h') := by
  refine Met.ofW (cc := cX7_memberOf) (maxL := 4) (ret := (some .int)) (by decide) rfl ?_
  intro p e s m args below meth c s₁ B hml hv
  obtain ⟨rfl, hW⟩ := hv
  obtain ⟨Z, E, hr⟩ := zEnter (own := RX7) B hml rfl hW
  have hl := lv_entry ([.ref a0, .int a1, .int a2]) (n := 4) (Nat.le_of_ble_eq_true rfl)
  rw [lg_entry_eq]
  generalize (lg_sl ([.ref a0, .int a1, .int a2]) ++ List.replicate (4 - (lg_sl ([.ref a0, .int a1, .int a2])).length) Slot.unset).toArray = ls at hl ⊢
  have hl : lv_has ls 4 [(0, .ref a0), (1, .int a1), (2, .int a2)] := hl
  exact t_X7_memberOf (out := (r, h')) Z hr hf E hl
/-! FerryCrews.ladder(II)I -/
theorem dX7_ladder_0 : decode cX7_ladder 0 = .ok (.aload_n 0, 1) := by decide +kernel
theorem dX7_ladder_1 : decode cX7_ladder 1 = .ok (.getfield 17, 3) := by decide +kernel
theorem dX7_ladder_4 : decode cX7_ladder 4 = .ok (.iload_n 1, 1) := by decide +kernel
theorem dX7_ladder_5 : decode cX7_ladder 5 = .ok (.invokevirtual 111, 3) := by decide +kernel
theorem dX7_ladder_8 : decode cX7_ladder 8 = .ok (.astore_n 3, 1) := by decide +kernel
theorem dX7_ladder_9 : decode cX7_ladder 9 = .ok (.aload_n 3, 1) := by decide +kernel
theorem dX7_ladder_10 : decode cX7_ladder 10 = .ok (.ifnonnull 5, 3) := by decide +kernel
theorem dX7_ladder_13 : decode cX7_ladder 13 = .ok (.iconst (-1), 1) := by decide +kernel
theorem dX7_ladder_14 : decode cX7_ladder 14 = .ok (.ireturn, 1) := by decide +kernel
theorem dX7_ladder_15 : decode cX7_ladder 15 = .ok (.iload_n 2, 1) := by decide +kernel
theorem dX7_ladder_16 : decode cX7_ladder 16 = .ok (.ifCond .ge 8, 3) := by decide +kernel
theorem dX7_ladder_19 : decode cX7_ladder 19 = .ok (.bipush (-2), 2) := by decide +kernel
theorem dX7_ladder_21 : decode cX7_ladder 21 = .ok (.goto 8, 3) := by decide +kernel
theorem dX7_ladder_24 : decode cX7_ladder 24 = .ok (.aload_n 3, 1) := by decide +kernel
theorem dX7_ladder_25 : decode cX7_ladder 25 = .ok (.iload_n 2, 1) := by decide +kernel
theorem dX7_ladder_26 : decode cX7_ladder 26 = .ok (.invokevirtual 229, 3) := by decide +kernel
theorem dX7_ladder_29 : decode cX7_ladder 29 = .ok (.ireturn, 1) := by decide +kernel
set_option maxRecDepth 20000 in
theorem wm_X7_229 : Cond.methodLink RX7 229 yX2_memberOfRank ∈ zB := List.mem_filter.mpr ⟨List.mem_of_getElem? (i := 699) (by decide +kernel), by decide +kernel⟩
theorem k_X7_229 : zCal RX7 229 yX2_memberOfRank cX2_memberOfRank 2 (some .int) 1 := ⟨wm_X7_229, wi_X2, wc_X2_memberOfRank, by decide +kernel, by decide +kernel, by decide +kernel⟩
def rm_X7_ladder : Room := { frames := 2, cells := 0, slots := 0, locals := 41 }
set_option maxHeartbeats 4000000 in
set_option maxRecDepth 20000 in
theorem t_X7_ladder {p : Program} {l : Launch} {e : Env} {s : State} {m : MethodId} {args : Array Value} {below : List Frame} {meth : Method} {c : Code} {G : zG} (Z : zF p s m args c meth cX7_ladder 4 RX7 G) (hr : meth.sig.returnType = (some .int)) {out : Int32 × zHp} {a0 : Nat} {a1 : Int32} {a2 : Int32} {h : zHp} {H : Heap} {locs : List Loc} {ls : Array Slot} (hf : f_X7_ladder a0 a1 a2 h = some out) (E : zE G s h H locs) (hl : lv_has ls 4 [(0, .ref a0), (1, .int a1), (2, .int a2)]) : W p l e rm_X7_ladder s m args below meth c H locs 0 0 (MQ below (zQi G out.1 out.2) args s 0 0 (zA G)) (F0 m 0 ls []) := by
  unfold f_X7_ladder at hf
  refine lv_aload_n Z.x Z.b dX7_ladder_0 rfl (lv_at hl 0 rfl) ?_
  refine z_getR Z E q_X7_17 dX7_ladder_1 hf (fun v1 hf => ?_)
  refine lv_iload_n Z.x Z.b dX7_ladder_4 rfl (lv_at hl 1 rfl) ?_
  refine z_Vq (As := [.int a1]) Z E hl.1 k_X7_111 v_X5_ladderOf hf (fun r h' e => c_X5_ladderOf l G h h' v1 a1 r e) rfl rfl (Nat.le_of_ble_eq_true rfl) (zRm_of rfl (Nat.zero_le _) (Nat.zero_le _)) dX7_ladder_5 (fun w2 h3 H locs hf E => ?_)
  refine z_astore_n (lv' := [(3, va_rf w2), (0, .ref a0), (1, .int a1), (2, .int a2)]) Z (x := w2) dX7_ladder_8 rfl hl (by decide) (by cases w2 <;> rfl) (fun ls hl => ?_)
  refine z_aload_n Z (x := w2) dX7_ladder_9 rfl (lv_at hl 0 rfl) ?_
  refine z_ifnonnull (tgt := 15) Z dX7_ladder_10 (by decide) hf (fun ex h9_10 => ?_) (fun v4 ex h9_10 => ?_)
  · subst ex
    have hf := h9_10
    refine lv_iconst (v := (-1)) Z.x Z.b dX7_ladder_13 (by decide) ?_
    exact z_iret Z E hr dX7_ladder_14 hf
  · subst ex
    have hf := h9_10
    refine lv_iload_n Z.x Z.b dX7_ladder_15 rfl (lv_at hl 3 rfl) ?_
    refine lv_if_ge (tgt := 24) Z.x Z.b dX7_ladder_16 (by decide) (fun c => ?_) (fun c => ?_)
    · have hf := zit hf c
      refine lv_aload_n Z.x Z.b dX7_ladder_24 rfl (lv_at hl 0 rfl) ?_
      refine lv_iload_n Z.x Z.b dX7_ladder_25 rfl (lv_at hl 3 rfl) ?_
      refine z_Vi (As := [.int a2]) Z E hl.1 k_X7_229 v_X2_memberOfRank hf (fun r h' e => c_X2_memberOfRank l G h3 h' v4 a2 r e) rfl rfl (Nat.le_of_ble_eq_true rfl) (zRm_of rfl (Nat.zero_le _) (Nat.zero_le _)) dX7_ladder_26 (fun v5 h6 H locs hf E => ?_)
      exact z_iret Z E hr dX7_ladder_29 hf
    · have hf := zif_ hf c
      refine lv_bipush (v := (-2)) Z.x Z.b dX7_ladder_19 (by decide) ?_
      refine lv_goto (tgt := 29) Z.x Z.b dX7_ladder_21 (by decide) ?_
      exact z_iret Z E hr dX7_ladder_29 hf
set_option maxHeartbeats 4000000 in
set_option maxRecDepth 20000 in
theorem c_X7_ladder (l : Launch) (G : zG) (h : zHp) (h' : zHp) (a0 : Nat) (a1 : Int32) (a2 : Int32) (r : Int32) (hf : f_X7_ladder a0 a1 a2 h = some (r, h')) : zM0 l yX7_ladder cX7_ladder 4 (some .int) rm_X7_ladder G [.ref a0, .int a1, .int a2] h (zQi G r h') := by
  refine Met.ofW (cc := cX7_ladder) (maxL := 4) (ret := (some .int)) (by decide) rfl ?_
  intro p e s m args below meth c s₁ B hml hv
  obtain ⟨rfl, hW⟩ := hv
  obtain ⟨Z, E, hr⟩ := zEnter (own := RX7) B hml rfl hW
  have hl := lv_entry ([.ref a0, .int a1, .int a2]) (n := 4) (Nat.le_of_ble_eq_true rfl)
  rw [lg_entry_eq]
  generalize (lg_sl ([.ref a0, .int a1, .int a2]) ++ List.replicate (4 - (lg_sl ([.ref a0, .int a1, .int a2])).length) Slot.unset).toArray = ls at hl ⊢
  have hl : lv_has ls 4 [(0, .ref a0), (1, .int a1), (2, .int a2)] := hl
  exact t_X7_ladder (out := (r, h')) Z hr hf E hl
/-! FerryCrews.rest(III)I -/
theorem dX7_rest_0 : decode cX7_rest 0 = .ok (.aload_n 0, 1) := by decide +kernel
theorem dX7_rest_1 : decode cX7_rest 1 = .ok (.getfield 17, 3) := by decide +kernel
theorem dX7_rest_4 : decode cX7_rest 4 = .ok (.iload_n 1, 1) := by decide +kernel
theorem dX7_rest_5 : decode cX7_rest 5 = .ok (.invokevirtual 99, 3) := by decide +kernel
theorem dX7_rest_8 : decode cX7_rest 8 = .ok (.ifnonnull 5, 3) := by decide +kernel
theorem dX7_rest_11 : decode cX7_rest 11 = .ok (.iconst (-1), 1) := by decide +kernel
theorem dX7_rest_12 : decode cX7_rest 12 = .ok (.ireturn, 1) := by decide +kernel
theorem dX7_rest_13 : decode cX7_rest 13 = .ok (.iload_n 2, 1) := by decide +kernel
theorem dX7_rest_14 : decode cX7_rest 14 = .ok (.iconst 0, 1) := by decide +kernel
theorem dX7_rest_15 : decode cX7_rest 15 = .ok (.sipush 1000, 3) := by decide +kernel
theorem dX7_rest_18 : decode cX7_rest 18 = .ok (.invokestatic 88, 3) := by decide +kernel
theorem dX7_rest_21 : decode cX7_rest 21 = .ok (.ifCond .eq 14, 3) := by decide +kernel
theorem dX7_rest_24 : decode cX7_rest 24 = .ok (.iload_n 3, 1) := by decide +kernel
theorem dX7_rest_25 : decode cX7_rest 25 = .ok (.iconst 1, 1) := by decide +kernel
theorem dX7_rest_26 : decode cX7_rest 26 = .ok (.sipush 168, 3) := by decide +kernel
theorem dX7_rest_29 : decode cX7_rest 29 = .ok (.invokestatic 88, 3) := by decide +kernel
theorem dX7_rest_32 : decode cX7_rest 32 = .ok (.ifCond .ne 6, 3) := by decide +kernel
theorem dX7_rest_35 : decode cX7_rest 35 = .ok (.bipush (-2), 2) := by decide +kernel
theorem dX7_rest_37 : decode cX7_rest 37 = .ok (.ireturn, 1) := by decide +kernel
theorem dX7_rest_38 : decode cX7_rest 38 = .ok (.aload_n 0, 1) := by decide +kernel
theorem dX7_rest_39 : decode cX7_rest 39 = .ok (.getfield 17, 3) := by decide +kernel
theorem dX7_rest_42 : decode cX7_rest 42 = .ok (.iload_n 1, 1) := by decide +kernel
theorem dX7_rest_43 : decode cX7_rest 43 = .ok (.aconst_null, 1) := by decide +kernel
theorem dX7_rest_44 : decode cX7_rest 44 = .ok (.invokevirtual 207, 3) := by decide +kernel
theorem dX7_rest_47 : decode cX7_rest 47 = .ok (.iload_n 2, 1) := by decide +kernel
theorem dX7_rest_48 : decode cX7_rest 48 = .ok (.iload_n 3, 1) := by decide +kernel
theorem dX7_rest_49 : decode cX7_rest 49 = .ok (.invokevirtual 230, 3) := by decide +kernel
theorem dX7_rest_52 : decode cX7_rest 52 = .ok (.ireturn, 1) := by decide +kernel
set_option maxRecDepth 20000 in
theorem wm_X7_230 : Cond.methodLink RX7 230 yX0_restIn ∈ zB := List.mem_filter.mpr ⟨List.mem_of_getElem? (i := 704) (by decide +kernel), by decide +kernel⟩
theorem k_X7_230 : zCal RX7 230 yX0_restIn cX0_restIn 5 (some .int) 2 := ⟨wm_X7_230, wi_X0, wc_X0_restIn, by decide +kernel, by decide +kernel, by decide +kernel⟩
def rm_X7_rest : Room := { frames := 4, cells := 0, slots := 0, locals := 88 }
set_option maxHeartbeats 4000000 in
set_option maxRecDepth 20000 in
theorem t_X7_rest {p : Program} {l : Launch} {e : Env} {s : State} {m : MethodId} {args : Array Value} {below : List Frame} {meth : Method} {c : Code} {G : zG} (Z : zF p s m args c meth cX7_rest 4 RX7 G) (hr : meth.sig.returnType = (some .int)) {out : Int32 × zHp} {a0 : Nat} {a1 : Int32} {a2 : Int32} {a3 : Int32} {h : zHp} {H : Heap} {locs : List Loc} {ls : Array Slot} (hf : f_X7_rest a0 a1 a2 a3 h = some out) (E : zE G s h H locs) (hl : lv_has ls 4 [(0, .ref a0), (1, .int a1), (2, .int a2), (3, .int a3)]) : W p l e rm_X7_rest s m args below meth c H locs 0 0 (MQ below (zQi G out.1 out.2) args s 0 0 (zA G)) (F0 m 0 ls []) := by
  unfold f_X7_rest at hf
  refine lv_aload_n Z.x Z.b dX7_rest_0 rfl (lv_at hl 0 rfl) ?_
  refine z_getR Z E q_X7_17 dX7_rest_1 hf (fun v1 hf => ?_)
  refine lv_iload_n Z.x Z.b dX7_rest_4 rfl (lv_at hl 1 rfl) ?_
  refine z_Vq (As := [.int a1]) Z E hl.1 k_X7_99 v_X5_memberAt hf (fun r h' e => c_X5_memberAt l G h h' v1 a1 r e) rfl rfl (Nat.le_of_ble_eq_true rfl) (zRm_of rfl (Nat.zero_le _) (Nat.zero_le _)) dX7_rest_5 (fun w2 h3 H locs hf E => ?_)
  refine z_ifnonnull (tgt := 13) Z dX7_rest_8 (by decide) hf (fun ex h9_8 => ?_) (fun v4 ex h9_8 => ?_)
  · subst ex
    have hf := h9_8
    refine lv_iconst (v := (-1)) Z.x Z.b dX7_rest_11 (by decide) ?_
    exact z_iret Z E hr dX7_rest_12 hf
  · subst ex
    have hf := h9_8
    refine lv_iload_n Z.x Z.b dX7_rest_13 rfl (lv_at hl 2 rfl) ?_
    refine lv_iconst (v := 0) Z.x Z.b dX7_rest_14 (by decide) ?_
    refine lv_sipush (v := 1000) Z.x Z.b dX7_rest_15 (by decide) ?_
    refine z_Si (As := [.int a2, .int 0, .int 1000]) Z E hl.1 k_X7_88 wt_X7_isWithin hf (fun r h' e => c_X7_isWithin l G h3 h' a2 0 1000 r e) rfl rfl (Nat.le_of_ble_eq_true rfl) (zRm_of rfl (Nat.zero_le _) (Nat.zero_le _)) dX7_rest_18 (fun v5 h6 H locs hf E => ?_)
    refine lv_if_eq (tgt := 35) Z.x Z.b dX7_rest_21 (by decide) (fun c => ?_) (fun c => ?_)
    · have hf := zit hf c
      refine lv_bipush (v := (-2)) Z.x Z.b dX7_rest_35 (by decide) ?_
      exact z_iret Z E hr dX7_rest_37 hf
    · have hf := zif_ hf c
      refine lv_iload_n Z.x Z.b dX7_rest_24 rfl (lv_at hl 3 rfl) ?_
      refine lv_iconst (v := 1) Z.x Z.b dX7_rest_25 (by decide) ?_
      refine lv_sipush (v := 168) Z.x Z.b dX7_rest_26 (by decide) ?_
      refine z_Si (As := [.int a3, .int 1, .int 168]) Z E hl.1 k_X7_88 wt_X7_isWithin hf (fun r h' e => c_X7_isWithin l G h6 h' a3 1 168 r e) rfl rfl (Nat.le_of_ble_eq_true rfl) (zRm_of rfl (Nat.zero_le _) (Nat.zero_le _)) dX7_rest_29 (fun v7 h8 H locs hf E => ?_)
      refine lv_if_ne (tgt := 38) Z.x Z.b dX7_rest_32 (by decide) (fun c => ?_) (fun c => ?_)
      · have hf := zif_ hf c
        refine lv_aload_n Z.x Z.b dX7_rest_38 rfl (lv_at hl 0 rfl) ?_
        refine z_getR Z E q_X7_17 dX7_rest_39 hf (fun v9 hf => ?_)
        refine lv_iload_n Z.x Z.b dX7_rest_42 rfl (lv_at hl 1 rfl) ?_
        refine lv_null Z.x Z.b dX7_rest_43 ?_
        refine z_Vq (As := [.int a1, va_rf none]) Z E hl.1 k_X7_207 v_X5_dutiesOf hf (fun r h' e => c_X5_dutiesOf l G h8 h' v9 a1 none r e) rfl rfl (Nat.le_of_ble_eq_true rfl) (zRm_of rfl (Nat.zero_le _) (Nat.zero_le _)) dX7_rest_44 (fun w10 h11 H locs hf E => ?_)
        obtain ⟨v12, ex, h8_44⟩ := zopt_inv hf
        subst ex
        have hf := h8_44
        refine lv_iload_n Z.x Z.b dX7_rest_47 rfl (lv_at hl 2 rfl) ?_
        refine lv_iload_n Z.x Z.b dX7_rest_48 rfl (lv_at hl 3 rfl) ?_
        refine z_Vi (As := [.int a2, .int a3]) Z E hl.1 k_X7_230 v_X0_restIn hf (fun r h' e => c_X0_restIn l G h11 h' v12 a2 a3 r e) rfl rfl (Nat.le_of_ble_eq_true rfl) (zRm_of rfl (Nat.zero_le _) (Nat.zero_le _)) dX7_rest_49 (fun v13 h14 H locs hf E => ?_)
        exact z_iret Z E hr dX7_rest_52 hf
      · have hf := zit hf c
        refine lv_bipush (v := (-2)) Z.x Z.b dX7_rest_35 (by decide) ?_
        exact z_iret Z E hr dX7_rest_37 hf
set_option maxHeartbeats 4000000 in
set_option maxRecDepth 20000 in
theorem c_X7_rest (l : Launch) (G : zG) (h : zHp) (h' : zHp) (a0 : Nat) (a1 : Int32) (a2 : Int32) (a3 : Int32) (r : Int32) (hf : f_X7_rest a0 a1 a2 a3 h = some (r, h')) : zM0 l yX7_rest cX7_rest 4 (some .int) rm_X7_rest G [.ref a0, .int a1, .int a2, .int a3] h (zQi G r h') := by
  refine Met.ofW (cc := cX7_rest) (maxL := 4) (ret := (some .int)) (by decide) rfl ?_
  intro p e s m args below meth c s₁ B hml hv
  obtain ⟨rfl, hW⟩ := hv
  obtain ⟨Z, E, hr⟩ := zEnter (own := RX7) B hml rfl hW
  have hl := lv_entry ([.ref a0, .int a1, .int a2, .int a3]) (n := 4) (Nat.le_of_ble_eq_true rfl)
  rw [lg_entry_eq]
  generalize (lg_sl ([.ref a0, .int a1, .int a2, .int a3]) ++ List.replicate (4 - (lg_sl ([.ref a0, .int a1, .int a2, .int a3])).length) Slot.unset).toArray = ls at hl ⊢
  have hl : lv_has ls 4 [(0, .ref a0), (1, .int a1), (2, .int a2), (3, .int a3)] := hl
  exact t_X7_rest (out := (r, h')) Z hr hf E hl
/-! FerryCrews.leastRest(II)I -/
theorem dX7_leastRest_0 : decode cX7_leastRest 0 = .ok (.aload_n 0, 1) := by decide +kernel
theorem dX7_leastRest_1 : decode cX7_leastRest 1 = .ok (.getfield 17, 3) := by decide +kernel
theorem dX7_leastRest_4 : decode cX7_leastRest 4 = .ok (.iload_n 1, 1) := by decide +kernel
theorem dX7_leastRest_5 : decode cX7_leastRest 5 = .ok (.invokevirtual 99, 3) := by decide +kernel
theorem dX7_leastRest_8 : decode cX7_leastRest 8 = .ok (.ifnonnull 5, 3) := by decide +kernel
theorem dX7_leastRest_11 : decode cX7_leastRest 11 = .ok (.iconst (-1), 1) := by decide +kernel
theorem dX7_leastRest_12 : decode cX7_leastRest 12 = .ok (.ireturn, 1) := by decide +kernel
theorem dX7_leastRest_13 : decode cX7_leastRest 13 = .ok (.iload_n 2, 1) := by decide +kernel
theorem dX7_leastRest_14 : decode cX7_leastRest 14 = .ok (.iconst 0, 1) := by decide +kernel
theorem dX7_leastRest_15 : decode cX7_leastRest 15 = .ok (.iconst 2, 1) := by decide +kernel
theorem dX7_leastRest_16 : decode cX7_leastRest 16 = .ok (.invokestatic 88, 3) := by decide +kernel
theorem dX7_leastRest_19 : decode cX7_leastRest 19 = .ok (.ifCond .ne 6, 3) := by decide +kernel
theorem dX7_leastRest_22 : decode cX7_leastRest 22 = .ok (.bipush (-2), 2) := by decide +kernel
theorem dX7_leastRest_24 : decode cX7_leastRest 24 = .ok (.ireturn, 1) := by decide +kernel
theorem dX7_leastRest_25 : decode cX7_leastRest 25 = .ok (.aload_n 0, 1) := by decide +kernel
theorem dX7_leastRest_26 : decode cX7_leastRest 26 = .ok (.getfield 17, 3) := by decide +kernel
theorem dX7_leastRest_29 : decode cX7_leastRest 29 = .ok (.iload_n 1, 1) := by decide +kernel
theorem dX7_leastRest_30 : decode cX7_leastRest 30 = .ok (.aconst_null, 1) := by decide +kernel
theorem dX7_leastRest_31 : decode cX7_leastRest 31 = .ok (.invokevirtual 207, 3) := by decide +kernel
theorem dX7_leastRest_34 : decode cX7_leastRest 34 = .ok (.astore_n 3, 1) := by decide +kernel
theorem dX7_leastRest_35 : decode cX7_leastRest 35 = .ok (.iload_n 2, 1) := by decide +kernel
theorem dX7_leastRest_36 : decode cX7_leastRest 36 = .ok (.iconst 2, 1) := by decide +kernel
theorem dX7_leastRest_37 : decode cX7_leastRest 37 = .ok (.if_icmp .ne 8, 3) := by decide +kernel
theorem dX7_leastRest_40 : decode cX7_leastRest 40 = .ok (.aload_n 3, 1) := by decide +kernel
theorem dX7_leastRest_41 : decode cX7_leastRest 41 = .ok (.invokevirtual 233, 3) := by decide +kernel
theorem dX7_leastRest_44 : decode cX7_leastRest 44 = .ok (.ireturn, 1) := by decide +kernel
theorem dX7_leastRest_45 : decode cX7_leastRest 45 = .ok (.aload_n 3, 1) := by decide +kernel
theorem dX7_leastRest_46 : decode cX7_leastRest 46 = .ok (.invokevirtual 236, 3) := by decide +kernel
theorem dX7_leastRest_49 : decode cX7_leastRest 49 = .ok (.istore 4, 2) := by decide +kernel
theorem dX7_leastRest_51 : decode cX7_leastRest 51 = .ok (.iload_n 2, 1) := by decide +kernel
theorem dX7_leastRest_52 : decode cX7_leastRest 52 = .ok (.iconst 1, 1) := by decide +kernel
theorem dX7_leastRest_53 : decode cX7_leastRest 53 = .ok (.if_icmp .ne 8, 3) := by decide +kernel
theorem dX7_leastRest_56 : decode cX7_leastRest 56 = .ok (.iload 4, 2) := by decide +kernel
theorem dX7_leastRest_58 : decode cX7_leastRest 58 = .ok (.goto 11, 3) := by decide +kernel
theorem dX7_leastRest_61 : decode cX7_leastRest 61 = .ok (.aload_n 3, 1) := by decide +kernel
theorem dX7_leastRest_62 : decode cX7_leastRest 62 = .ok (.iload 4, 2) := by decide +kernel
theorem dX7_leastRest_64 : decode cX7_leastRest 64 = .ok (.bipush 24, 2) := by decide +kernel
theorem dX7_leastRest_66 : decode cX7_leastRest 66 = .ok (.invokevirtual 230, 3) := by decide +kernel
theorem dX7_leastRest_69 : decode cX7_leastRest 69 = .ok (.ireturn, 1) := by decide +kernel
set_option maxRecDepth 20000 in
theorem wc_X0_firstHourOfLeastRest : Cond.code yX0_firstHourOfLeastRest cX0_firstHourOfLeastRest 5 (some .int) ∈ zB := List.mem_filter.mpr ⟨List.mem_of_getElem? (i := 717) (by decide +kernel), by decide +kernel⟩
set_option maxRecDepth 20000 in
theorem wm_X7_236 : Cond.methodLink RX7 236 yX0_firstHourOfLeastRest ∈ zB := List.mem_filter.mpr ⟨List.mem_of_getElem? (i := 714) (by decide +kernel), by decide +kernel⟩
theorem k_X7_236 : zCal RX7 236 yX0_firstHourOfLeastRest cX0_firstHourOfLeastRest 5 (some .int) 0 := ⟨wm_X7_236, wi_X0, wc_X0_firstHourOfLeastRest, by decide +kernel, by decide +kernel, by decide +kernel⟩
set_option maxRecDepth 20000 in
theorem wn_X0_firstHourOfLeastRest : Cond.instanceMethod yX0_firstHourOfLeastRest ∈ zB := List.mem_filter.mpr ⟨List.mem_of_getElem? (i := 715) (by decide +kernel), by decide +kernel⟩
set_option maxRecDepth 20000 in
theorem ws_X0_firstHourOfLeastRest : Cond.selects RX0 yX0_firstHourOfLeastRest yX0_firstHourOfLeastRest ∈ zB := List.mem_filter.mpr ⟨List.mem_of_getElem? (i := 716) (by decide +kernel), by decide +kernel⟩
theorem v_X0_firstHourOfLeastRest : zVir yX0_firstHourOfLeastRest 0 := ⟨wn_X0_firstHourOfLeastRest, ws_X0_firstHourOfLeastRest, TX0, 4, rfl⟩
set_option maxRecDepth 20000 in
theorem wc_X0_leastLongRest : Cond.code yX0_leastLongRest cX0_leastLongRest 2 (some .int) ∈ zB := List.mem_filter.mpr ⟨List.mem_of_getElem? (i := 712) (by decide +kernel), by decide +kernel⟩
set_option maxRecDepth 20000 in
theorem wm_X7_233 : Cond.methodLink RX7 233 yX0_leastLongRest ∈ zB := List.mem_filter.mpr ⟨List.mem_of_getElem? (i := 709) (by decide +kernel), by decide +kernel⟩
theorem k_X7_233 : zCal RX7 233 yX0_leastLongRest cX0_leastLongRest 2 (some .int) 0 := ⟨wm_X7_233, wi_X0, wc_X0_leastLongRest, by decide +kernel, by decide +kernel, by decide +kernel⟩
set_option maxRecDepth 20000 in
theorem wn_X0_leastLongRest : Cond.instanceMethod yX0_leastLongRest ∈ zB := List.mem_filter.mpr ⟨List.mem_of_getElem? (i := 710) (by decide +kernel), by decide +kernel⟩
set_option maxRecDepth 20000 in
theorem ws_X0_leastLongRest : Cond.selects RX0 yX0_leastLongRest yX0_leastLongRest ∈ zB := List.mem_filter.mpr ⟨List.mem_of_getElem? (i := 711) (by decide +kernel), by decide +kernel⟩
theorem v_X0_leastLongRest : zVir yX0_leastLongRest 0 := ⟨wn_X0_leastLongRest, ws_X0_leastLongRest, TX0, 4, rfl⟩
def rm_X7_leastRest : Room := { frames := 4, cells := 0, slots := 0, locals := 88 }
set_option maxHeartbeats 4000000 in
set_option maxRecDepth 20000 in
theorem t_X7_leastRest {p : Program} {l : Launch} {e : Env} {s : State} {m : MethodId} {args : Array Value} {below : List Frame} {meth : Method} {c : Code} {G : zG} (Z : zF p s m args c meth cX7_leastRest 5 RX7 G) (hr : meth.sig.returnType = (some .int)) {out : Int32 × zHp} {a0 : Nat} {a1 : Int32} {a2 : Int32} {h : zHp} {H : Heap} {locs : List Loc} {ls : Array Slot} (hf : f_X7_leastRest a0 a1 a2 h = some out) (E : zE G s h H locs) (hl : lv_has ls 5 [(0, .ref a0), (1, .int a1), (2, .int a2)]) : W p l e rm_X7_leastRest s m args below meth c H locs 0 0 (MQ below (zQi G out.1 out.2) args s 0 0 (zA G)) (F0 m 0 ls []) := by
  unfold f_X7_leastRest at hf
  refine lv_aload_n Z.x Z.b dX7_leastRest_0 rfl (lv_at hl 0 rfl) ?_
  refine z_getR Z E q_X7_17 dX7_leastRest_1 hf (fun v1 hf => ?_)
  refine lv_iload_n Z.x Z.b dX7_leastRest_4 rfl (lv_at hl 1 rfl) ?_
  refine z_Vq (As := [.int a1]) Z E hl.1 k_X7_99 v_X5_memberAt hf (fun r h' e => c_X5_memberAt l G h h' v1 a1 r e) rfl rfl (Nat.le_of_ble_eq_true rfl) (zRm_of rfl (Nat.zero_le _) (Nat.zero_le _)) dX7_leastRest_5 (fun w2 h3 H locs hf E => ?_)
  refine z_ifnonnull (tgt := 13) Z dX7_leastRest_8 (by decide) hf (fun ex h9_8 => ?_) (fun v4 ex h9_8 => ?_)
  · subst ex
    have hf := h9_8
    refine lv_iconst (v := (-1)) Z.x Z.b dX7_leastRest_11 (by decide) ?_
    exact z_iret Z E hr dX7_leastRest_12 hf
  · subst ex
    have hf := h9_8
    refine lv_iload_n Z.x Z.b dX7_leastRest_13 rfl (lv_at hl 2 rfl) ?_
    refine lv_iconst (v := 0) Z.x Z.b dX7_leastRest_14 (by decide) ?_
    refine lv_iconst (v := 2) Z.x Z.b dX7_leastRest_15 (by decide) ?_
    refine z_Si (As := [.int a2, .int 0, .int 2]) Z E hl.1 k_X7_88 wt_X7_isWithin hf (fun r h' e => c_X7_isWithin l G h3 h' a2 0 2 r e) rfl rfl (Nat.le_of_ble_eq_true rfl) (zRm_of rfl (Nat.zero_le _) (Nat.zero_le _)) dX7_leastRest_16 (fun v5 h6 H locs hf E => ?_)
    refine lv_if_ne (tgt := 25) Z.x Z.b dX7_leastRest_19 (by decide) (fun c => ?_) (fun c => ?_)
    · have hf := zif_ hf c
      refine lv_aload_n Z.x Z.b dX7_leastRest_25 rfl (lv_at hl 0 rfl) ?_
      refine z_getR Z E q_X7_17 dX7_leastRest_26 hf (fun v7 hf => ?_)
      refine lv_iload_n Z.x Z.b dX7_leastRest_29 rfl (lv_at hl 1 rfl) ?_
      refine lv_null Z.x Z.b dX7_leastRest_30 ?_
      refine z_Vq (As := [.int a1, va_rf none]) Z E hl.1 k_X7_207 v_X5_dutiesOf hf (fun r h' e => c_X5_dutiesOf l G h6 h' v7 a1 none r e) rfl rfl (Nat.le_of_ble_eq_true rfl) (zRm_of rfl (Nat.zero_le _) (Nat.zero_le _)) dX7_leastRest_31 (fun w8 h9 H locs hf E => ?_)
      obtain ⟨v10, ex, h8_31⟩ := zopt_inv hf
      subst ex
      have hf := h8_31
      refine lv_astore_n (lv' := [(3, .ref v10), (0, .ref a0), (1, .int a1), (2, .int a2)]) Z.x Z.b dX7_leastRest_34 rfl hl (by decide) rfl (fun ls hl => ?_)
      refine lv_iload_n Z.x Z.b dX7_leastRest_35 rfl (lv_at hl 3 rfl) ?_
      refine lv_iconst (v := 2) Z.x Z.b dX7_leastRest_36 (by decide) ?_
      refine lv_icmp_ne (tgt := 45) Z.x Z.b dX7_leastRest_37 (by decide) (fun c => ?_) (fun c => ?_)
      · have hf := zif_ hf c
        refine lv_aload_n Z.x Z.b dX7_leastRest_45 rfl (lv_at hl 0 rfl) ?_
        refine z_Vi (As := []) Z E hl.1 k_X7_236 v_X0_firstHourOfLeastRest hf (fun r h' e => c_X0_firstHourOfLeastRest l G h9 h' v10 r e) rfl rfl (Nat.le_of_ble_eq_true rfl) (zRm_of rfl (Nat.zero_le _) (Nat.zero_le _)) dX7_leastRest_46 (fun v11 h12 H locs hf E => ?_)
        refine lv_istore (lv' := [(4, .int v11), (3, .ref v10), (0, .ref a0), (1, .int a1), (2, .int a2)]) Z.x Z.b dX7_leastRest_49 hl (by decide) rfl (fun ls hl => ?_)
        refine lv_iload_n Z.x Z.b dX7_leastRest_51 rfl (lv_at hl 4 rfl) ?_
        refine lv_iconst (v := 1) Z.x Z.b dX7_leastRest_52 (by decide) ?_
        refine lv_icmp_ne (tgt := 61) Z.x Z.b dX7_leastRest_53 (by decide) (fun c => ?_) (fun c => ?_)
        · have hf := zif_ hf c
          refine lv_aload_n Z.x Z.b dX7_leastRest_61 rfl (lv_at hl 1 rfl) ?_
          refine lv_iload Z.x Z.b dX7_leastRest_62 (lv_at hl 0 rfl) ?_
          refine lv_bipush (v := 24) Z.x Z.b dX7_leastRest_64 (by decide) ?_
          refine z_Vi (As := [.int v11, .int 24]) Z E hl.1 k_X7_230 v_X0_restIn hf (fun r h' e => c_X0_restIn l G h12 h' v10 v11 24 r e) rfl rfl (Nat.le_of_ble_eq_true rfl) (zRm_of rfl (Nat.zero_le _) (Nat.zero_le _)) dX7_leastRest_66 (fun v13 h14 H locs hf E => ?_)
          exact z_iret Z E hr dX7_leastRest_69 hf
        · have hf := zit hf c
          refine lv_iload Z.x Z.b dX7_leastRest_56 (lv_at hl 0 rfl) ?_
          refine lv_goto (tgt := 69) Z.x Z.b dX7_leastRest_58 (by decide) ?_
          exact z_iret Z E hr dX7_leastRest_69 hf
      · have hf := zit hf c
        refine lv_aload_n Z.x Z.b dX7_leastRest_40 rfl (lv_at hl 0 rfl) ?_
        refine z_Vi (As := []) Z E hl.1 k_X7_233 v_X0_leastLongRest hf (fun r h' e => c_X0_leastLongRest l G h9 h' v10 r e) rfl rfl (Nat.le_of_ble_eq_true rfl) (zRm_of rfl (Nat.zero_le _) (Nat.zero_le _)) dX7_leastRest_41 (fun v15 h16 H locs hf E => ?_)
        exact z_iret Z E hr dX7_leastRest_44 hf
    · have hf := zit hf c
      refine lv_bipush (v := (-2)) Z.x Z.b dX7_leastRest_22 (by decide) ?_
      exact z_iret Z E hr dX7_leastRest_24 hf
set_option maxHeartbeats 4000000 in
set_option maxRecDepth 20000 in
theorem c_X7_leastRest (l : Launch) (G : zG) (h : zHp) (h' : zHp) (a0 : Nat) (a1 : Int32) (a2 : Int32) (r : Int32) (hf : f_X7_leastRest a0 a1 a2 h = some (r, h')) : zM0 l yX7_leastRest cX7_leastRest 5 (some .int) rm_X7_leastRest G [.ref a0, .int a1, .int a2] h (zQi G r h') := by
  refine Met.ofW (cc := cX7_leastRest) (maxL := 5) (ret := (some .int)) (by decide) rfl ?_
  intro p e s m args below meth c s₁ B hml hv
  obtain ⟨rfl, hW⟩ := hv
  obtain ⟨Z, E, hr⟩ := zEnter (own := RX7) B hml rfl hW
  have hl := lv_entry ([.ref a0, .int a1, .int a2]) (n := 5) (Nat.le_of_ble_eq_true rfl)
  rw [lg_entry_eq]
  generalize (lg_sl ([.ref a0, .int a1, .int a2]) ++ List.replicate (5 - (lg_sl ([.ref a0, .int a1, .int a2])).length) Slot.unset).toArray = ls at hl ⊢
  have hl : lv_has ls 5 [(0, .ref a0), (1, .int a1), (2, .int a2)] := hl
  exact t_X7_leastRest (out := (r, h')) Z hr hf E hl
/-! FerryCrews.overtime(II)I -/
theorem dX7_overtime_0 : decode cX7_overtime 0 = .ok (.aload_n 0, 1) := by decide +kernel
theorem dX7_overtime_1 : decode cX7_overtime 1 = .ok (.getfield 17, 3) := by decide +kernel
theorem dX7_overtime_4 : decode cX7_overtime 4 = .ok (.iload_n 1, 1) := by decide +kernel
theorem dX7_overtime_5 : decode cX7_overtime 5 = .ok (.invokevirtual 99, 3) := by decide +kernel
theorem dX7_overtime_8 : decode cX7_overtime 8 = .ok (.ifnull 12, 3) := by decide +kernel
theorem dX7_overtime_11 : decode cX7_overtime 11 = .ok (.iload_n 2, 1) := by decide +kernel
theorem dX7_overtime_12 : decode cX7_overtime 12 = .ok (.iconst 0, 1) := by decide +kernel
theorem dX7_overtime_13 : decode cX7_overtime 13 = .ok (.iconst 5, 1) := by decide +kernel
theorem dX7_overtime_14 : decode cX7_overtime 14 = .ok (.invokestatic 88, 3) := by decide +kernel
theorem dX7_overtime_17 : decode cX7_overtime 17 = .ok (.ifCond .ne 5, 3) := by decide +kernel
theorem dX7_overtime_20 : decode cX7_overtime 20 = .ok (.iconst (-1), 1) := by decide +kernel
theorem dX7_overtime_21 : decode cX7_overtime 21 = .ok (.ireturn, 1) := by decide +kernel
theorem dX7_overtime_22 : decode cX7_overtime 22 = .ok (.aload_n 0, 1) := by decide +kernel
theorem dX7_overtime_23 : decode cX7_overtime 23 = .ok (.getfield 17, 3) := by decide +kernel
theorem dX7_overtime_26 : decode cX7_overtime 26 = .ok (.aload_n 0, 1) := by decide +kernel
theorem dX7_overtime_27 : decode cX7_overtime 27 = .ok (.getfield 17, 3) := by decide +kernel
theorem dX7_overtime_30 : decode cX7_overtime 30 = .ok (.iload_n 1, 1) := by decide +kernel
theorem dX7_overtime_31 : decode cX7_overtime 31 = .ok (.aconst_null, 1) := by decide +kernel
theorem dX7_overtime_32 : decode cX7_overtime 32 = .ok (.invokevirtual 207, 3) := by decide +kernel
theorem dX7_overtime_35 : decode cX7_overtime 35 = .ok (.iload_n 2, 1) := by decide +kernel
theorem dX7_overtime_36 : decode cX7_overtime 36 = .ok (.invokevirtual 239, 3) := by decide +kernel
theorem dX7_overtime_39 : decode cX7_overtime 39 = .ok (.ireturn, 1) := by decide +kernel
set_option maxRecDepth 20000 in
theorem wm_X7_239 : Cond.methodLink RX7 239 yX5_hoursBeyond ∈ zB := List.mem_filter.mpr ⟨List.mem_of_getElem? (i := 722) (by decide +kernel), by decide +kernel⟩
theorem k_X7_239 : zCal RX7 239 yX5_hoursBeyond cX5_hoursBeyond 4 (some .int) 2 := ⟨wm_X7_239, wi_X5, wc_X5_hoursBeyond, by decide +kernel, by decide +kernel, by decide +kernel⟩
def rm_X7_overtime : Room := { frames := 4, cells := 0, slots := 0, locals := 88 }
set_option maxHeartbeats 4000000 in
set_option maxRecDepth 20000 in
theorem t_X7_overtime {p : Program} {l : Launch} {e : Env} {s : State} {m : MethodId} {args : Array Value} {below : List Frame} {meth : Method} {c : Code} {G : zG} (Z : zF p s m args c meth cX7_overtime 3 RX7 G) (hr : meth.sig.returnType = (some .int)) {out : Int32 × zHp} {a0 : Nat} {a1 : Int32} {a2 : Int32} {h : zHp} {H : Heap} {locs : List Loc} {ls : Array Slot} (hf : f_X7_overtime a0 a1 a2 h = some out) (E : zE G s h H locs) (hl : lv_has ls 3 [(0, .ref a0), (1, .int a1), (2, .int a2)]) : W p l e rm_X7_overtime s m args below meth c H locs 0 0 (MQ below (zQi G out.1 out.2) args s 0 0 (zA G)) (F0 m 0 ls []) := by
  unfold f_X7_overtime at hf
  refine lv_aload_n Z.x Z.b dX7_overtime_0 rfl (lv_at hl 0 rfl) ?_
  refine z_getR Z E q_X7_17 dX7_overtime_1 hf (fun v1 hf => ?_)
  refine lv_iload_n Z.x Z.b dX7_overtime_4 rfl (lv_at hl 1 rfl) ?_
  refine z_Vq (As := [.int a1]) Z E hl.1 k_X7_99 v_X5_memberAt hf (fun r h' e => c_X5_memberAt l G h h' v1 a1 r e) rfl rfl (Nat.le_of_ble_eq_true rfl) (zRm_of rfl (Nat.zero_le _) (Nat.zero_le _)) dX7_overtime_5 (fun w2 h3 H locs hf E => ?_)
  refine z_ifnull (tgt := 20) Z dX7_overtime_8 (by decide) hf (fun ex h9_8 => ?_) (fun v4 ex h9_8 => ?_)
  · subst ex
    have hf := h9_8
    refine lv_iconst (v := (-1)) Z.x Z.b dX7_overtime_20 (by decide) ?_
    exact z_iret Z E hr dX7_overtime_21 hf
  · subst ex
    have hf := h9_8
    refine lv_iload_n Z.x Z.b dX7_overtime_11 rfl (lv_at hl 2 rfl) ?_
    refine lv_iconst (v := 0) Z.x Z.b dX7_overtime_12 (by decide) ?_
    refine lv_iconst (v := 5) Z.x Z.b dX7_overtime_13 (by decide) ?_
    refine z_Si (As := [.int a2, .int 0, .int 5]) Z E hl.1 k_X7_88 wt_X7_isWithin hf (fun r h' e => c_X7_isWithin l G h3 h' a2 0 5 r e) rfl rfl (Nat.le_of_ble_eq_true rfl) (zRm_of rfl (Nat.zero_le _) (Nat.zero_le _)) dX7_overtime_14 (fun v5 h6 H locs hf E => ?_)
    refine lv_if_ne (tgt := 22) Z.x Z.b dX7_overtime_17 (by decide) (fun c => ?_) (fun c => ?_)
    · have hf := zif_ hf c
      refine lv_aload_n Z.x Z.b dX7_overtime_22 rfl (lv_at hl 0 rfl) ?_
      refine z_getR Z E q_X7_17 dX7_overtime_23 hf (fun v7 hf => ?_)
      refine lv_aload_n Z.x Z.b dX7_overtime_26 rfl (lv_at hl 0 rfl) ?_
      refine z_getR Z E q_X7_17 dX7_overtime_27 hf (fun v8 hf => ?_)
      refine lv_iload_n Z.x Z.b dX7_overtime_30 rfl (lv_at hl 1 rfl) ?_
      refine lv_null Z.x Z.b dX7_overtime_31 ?_
      refine z_Vq (As := [.int a1, va_rf none]) Z E hl.1 k_X7_207 v_X5_dutiesOf hf (fun r h' e => c_X5_dutiesOf l G h6 h' v8 a1 none r e) rfl rfl (Nat.le_of_ble_eq_true rfl) (zRm_of rfl (Nat.zero_le _) (Nat.zero_le _)) dX7_overtime_32 (fun w9 h10 H locs hf E => ?_)
      obtain ⟨v11, ex, h8_32⟩ := zopt_inv hf
      subst ex
      have hf := h8_32
      refine lv_iload_n Z.x Z.b dX7_overtime_35 rfl (lv_at hl 2 rfl) ?_
      refine z_Vi (As := [.ref v11, .int a2]) Z E hl.1 k_X7_239 v_X5_hoursBeyond hf (fun r h' e => c_X5_hoursBeyond l G h10 h' v7 v11 a2 r e) rfl rfl (Nat.le_of_ble_eq_true rfl) (zRm_of rfl (Nat.zero_le _) (Nat.zero_le _)) dX7_overtime_36 (fun v12 h13 H locs hf E => ?_)
      exact z_iret Z E hr dX7_overtime_39 hf
    · have hf := zit hf c
      refine lv_iconst (v := (-1)) Z.x Z.b dX7_overtime_20 (by decide) ?_
      exact z_iret Z E hr dX7_overtime_21 hf
set_option maxHeartbeats 4000000 in
set_option maxRecDepth 20000 in
theorem c_X7_overtime (l : Launch) (G : zG) (h : zHp) (h' : zHp) (a0 : Nat) (a1 : Int32) (a2 : Int32) (r : Int32) (hf : f_X7_overtime a0 a1 a2 h = some (r, h')) : zM0 l yX7_overtime cX7_overtime 3 (some .int) rm_X7_overtime G [.ref a0, .int a1, .int a2] h (zQi G r h') := by
  refine Met.ofW (cc := cX7_overtime) (maxL := 3) (ret := (some .int)) (by decide) rfl ?_
  intro p e s m args below meth c s₁ B hml hv
  obtain ⟨rfl, hW⟩ := hv
  obtain ⟨Z, E, hr⟩ := zEnter (own := RX7) B hml rfl hW
  have hl := lv_entry ([.ref a0, .int a1, .int a2]) (n := 3) (Nat.le_of_ble_eq_true rfl)
  rw [lg_entry_eq]
  generalize (lg_sl ([.ref a0, .int a1, .int a2]) ++ List.replicate (3 - (lg_sl ([.ref a0, .int a1, .int a2])).length) Slot.unset).toArray = ls at hl ⊢
  have hl : lv_has ls 3 [(0, .ref a0), (1, .int a1), (2, .int a2)] := hl
  exact t_X7_overtime (out := (r, h')) Z hr hf E hl
/-! FerryCrews.count(I)I -/
theorem dX7_count_0 : decode cX7_count 0 = .ok (.iload_n 1, 1) := by decide +kernel
theorem dX7_count_1 : decode cX7_count 1 = .ok (.bipush 13, 2) := by decide +kernel
theorem dX7_count_3 : decode cX7_count 3 = .ok (.bipush 17, 2) := by decide +kernel
theorem dX7_count_5 : decode cX7_count 5 = .ok (.invokestatic 88, 3) := by decide +kernel
theorem dX7_count_8 : decode cX7_count 8 = .ok (.ifCond .eq 16, 3) := by decide +kernel
theorem dX7_count_11 : decode cX7_count 11 = .ok (.aload_n 0, 1) := by decide +kernel
theorem dX7_count_12 : decode cX7_count 12 = .ok (.getfield 17, 3) := by decide +kernel
theorem dX7_count_15 : decode cX7_count 15 = .ok (.getfield 164, 3) := by decide +kernel
theorem dX7_count_18 : decode cX7_count 18 = .ok (.iload_n 1, 1) := by decide +kernel
theorem dX7_count_19 : decode cX7_count 19 = .ok (.bipush 13, 2) := by decide +kernel
theorem dX7_count_21 : decode cX7_count 21 = .ok (.isub, 1) := by decide +kernel
theorem dX7_count_22 : decode cX7_count 22 = .ok (.iaload, 1) := by decide +kernel
theorem dX7_count_23 : decode cX7_count 23 = .ok (.ireturn, 1) := by decide +kernel
theorem dX7_count_24 : decode cX7_count 24 = .ok (.iload_n 1, 1) := by decide +kernel
theorem dX7_count_25 : decode cX7_count 25 = .ok (.tableswitch 174 0 12 #[67, 75, 83, 92, 101, 110, 118, 126, 134, 142, 150, 158, 166], 67) := by decide +kernel
theorem dX7_count_92 : decode cX7_count 92 = .ok (.aload_n 0, 1) := by decide +kernel
theorem dX7_count_93 : decode cX7_count 93 = .ok (.getfield 17, 3) := by decide +kernel
theorem dX7_count_96 : decode cX7_count 96 = .ok (.getfield 133, 3) := by decide +kernel
theorem dX7_count_99 : decode cX7_count 99 = .ok (.ireturn, 1) := by decide +kernel
theorem dX7_count_100 : decode cX7_count 100 = .ok (.aload_n 0, 1) := by decide +kernel
theorem dX7_count_101 : decode cX7_count 101 = .ok (.getfield 17, 3) := by decide +kernel
theorem dX7_count_104 : decode cX7_count 104 = .ok (.getfield 243, 3) := by decide +kernel
theorem dX7_count_107 : decode cX7_count 107 = .ok (.ireturn, 1) := by decide +kernel
theorem dX7_count_108 : decode cX7_count 108 = .ok (.aload_n 0, 1) := by decide +kernel
theorem dX7_count_109 : decode cX7_count 109 = .ok (.getfield 17, 3) := by decide +kernel
theorem dX7_count_112 : decode cX7_count 112 = .ok (.iconst 0, 1) := by decide +kernel
theorem dX7_count_113 : decode cX7_count 113 = .ok (.invokevirtual 246, 3) := by decide +kernel
theorem dX7_count_116 : decode cX7_count 116 = .ok (.ireturn, 1) := by decide +kernel
theorem dX7_count_117 : decode cX7_count 117 = .ok (.aload_n 0, 1) := by decide +kernel
theorem dX7_count_118 : decode cX7_count 118 = .ok (.getfield 17, 3) := by decide +kernel
theorem dX7_count_121 : decode cX7_count 121 = .ok (.iconst 1, 1) := by decide +kernel
theorem dX7_count_122 : decode cX7_count 122 = .ok (.invokevirtual 246, 3) := by decide +kernel
theorem dX7_count_125 : decode cX7_count 125 = .ok (.ireturn, 1) := by decide +kernel
theorem dX7_count_126 : decode cX7_count 126 = .ok (.aload_n 0, 1) := by decide +kernel
theorem dX7_count_127 : decode cX7_count 127 = .ok (.getfield 17, 3) := by decide +kernel
theorem dX7_count_130 : decode cX7_count 130 = .ok (.iconst 2, 1) := by decide +kernel
theorem dX7_count_131 : decode cX7_count 131 = .ok (.invokevirtual 246, 3) := by decide +kernel
theorem dX7_count_134 : decode cX7_count 134 = .ok (.ireturn, 1) := by decide +kernel
theorem dX7_count_135 : decode cX7_count 135 = .ok (.aload_n 0, 1) := by decide +kernel
theorem dX7_count_136 : decode cX7_count 136 = .ok (.getfield 17, 3) := by decide +kernel
theorem dX7_count_139 : decode cX7_count 139 = .ok (.getfield 92, 3) := by decide +kernel
theorem dX7_count_142 : decode cX7_count 142 = .ok (.ireturn, 1) := by decide +kernel
theorem dX7_count_143 : decode cX7_count 143 = .ok (.aload_n 0, 1) := by decide +kernel
theorem dX7_count_144 : decode cX7_count 144 = .ok (.getfield 17, 3) := by decide +kernel
theorem dX7_count_147 : decode cX7_count 147 = .ok (.invokevirtual 249, 3) := by decide +kernel
theorem dX7_count_150 : decode cX7_count 150 = .ok (.ireturn, 1) := by decide +kernel
theorem dX7_count_151 : decode cX7_count 151 = .ok (.aload_n 0, 1) := by decide +kernel
theorem dX7_count_152 : decode cX7_count 152 = .ok (.getfield 17, 3) := by decide +kernel
theorem dX7_count_155 : decode cX7_count 155 = .ok (.invokevirtual 252, 3) := by decide +kernel
theorem dX7_count_158 : decode cX7_count 158 = .ok (.ireturn, 1) := by decide +kernel
theorem dX7_count_159 : decode cX7_count 159 = .ok (.aload_n 0, 1) := by decide +kernel
theorem dX7_count_160 : decode cX7_count 160 = .ok (.getfield 17, 3) := by decide +kernel
theorem dX7_count_163 : decode cX7_count 163 = .ok (.invokevirtual 255, 3) := by decide +kernel
theorem dX7_count_166 : decode cX7_count 166 = .ok (.ireturn, 1) := by decide +kernel
theorem dX7_count_167 : decode cX7_count 167 = .ok (.aload_n 0, 1) := by decide +kernel
theorem dX7_count_168 : decode cX7_count 168 = .ok (.getfield 17, 3) := by decide +kernel
theorem dX7_count_171 : decode cX7_count 171 = .ok (.invokevirtual 258, 3) := by decide +kernel
theorem dX7_count_174 : decode cX7_count 174 = .ok (.ireturn, 1) := by decide +kernel
theorem dX7_count_175 : decode cX7_count 175 = .ok (.aload_n 0, 1) := by decide +kernel
theorem dX7_count_176 : decode cX7_count 176 = .ok (.getfield 17, 3) := by decide +kernel
theorem dX7_count_179 : decode cX7_count 179 = .ok (.invokevirtual 261, 3) := by decide +kernel
theorem dX7_count_182 : decode cX7_count 182 = .ok (.ireturn, 1) := by decide +kernel
theorem dX7_count_183 : decode cX7_count 183 = .ok (.aload_n 0, 1) := by decide +kernel
theorem dX7_count_184 : decode cX7_count 184 = .ok (.getfield 30, 3) := by decide +kernel
theorem dX7_count_187 : decode cX7_count 187 = .ok (.getfield 177, 3) := by decide +kernel
theorem dX7_count_190 : decode cX7_count 190 = .ok (.ireturn, 1) := by decide +kernel
theorem dX7_count_191 : decode cX7_count 191 = .ok (.aload_n 0, 1) := by decide +kernel
theorem dX7_count_192 : decode cX7_count 192 = .ok (.getfield 37, 3) := by decide +kernel
theorem dX7_count_195 : decode cX7_count 195 = .ok (.getfield 174, 3) := by decide +kernel
theorem dX7_count_198 : decode cX7_count 198 = .ok (.ireturn, 1) := by decide +kernel
theorem dX7_count_199 : decode cX7_count 199 = .ok (.bipush (-2), 2) := by decide +kernel
theorem dX7_count_201 : decode cX7_count 201 = .ok (.ireturn, 1) := by decide +kernel
set_option maxRecDepth 20000 in
theorem wf_X7_243 : Cond.fieldLink RX7 243 RX5 "sailingCount" "I" ∈ zB := List.mem_filter.mpr ⟨List.mem_of_getElem? (i := 205) (by decide +kernel), by decide +kernel⟩
theorem q_X7_243 : zFld RX7 243 5 3 := ⟨RX5, TX5, 8, rfl, by decide, iX5, wf_X7_243, rfl⟩
set_option maxRecDepth 20000 in
theorem wc_X5_sailingsThatAre : Cond.code yX5_sailingsThatAre cX5_sailingsThatAre 7 (some .int) ∈ zB := List.mem_filter.mpr ⟨List.mem_of_getElem? (i := 734) (by decide +kernel), by decide +kernel⟩
set_option maxRecDepth 20000 in
theorem wm_X7_246 : Cond.methodLink RX7 246 yX5_sailingsThatAre ∈ zB := List.mem_filter.mpr ⟨List.mem_of_getElem? (i := 731) (by decide +kernel), by decide +kernel⟩
theorem k_X7_246 : zCal RX7 246 yX5_sailingsThatAre cX5_sailingsThatAre 7 (some .int) 1 := ⟨wm_X7_246, wi_X5, wc_X5_sailingsThatAre, by decide +kernel, by decide +kernel, by decide +kernel⟩
set_option maxRecDepth 20000 in
theorem wn_X5_sailingsThatAre : Cond.instanceMethod yX5_sailingsThatAre ∈ zB := List.mem_filter.mpr ⟨List.mem_of_getElem? (i := 732) (by decide +kernel), by decide +kernel⟩
set_option maxRecDepth 20000 in
theorem ws_X5_sailingsThatAre : Cond.selects RX5 yX5_sailingsThatAre yX5_sailingsThatAre ∈ zB := List.mem_filter.mpr ⟨List.mem_of_getElem? (i := 733) (by decide +kernel), by decide +kernel⟩
theorem v_X5_sailingsThatAre : zVir yX5_sailingsThatAre 5 := ⟨wn_X5_sailingsThatAre, ws_X5_sailingsThatAre, TX5, 8, rfl⟩
set_option maxRecDepth 20000 in
theorem wc_X5_membersSickNow : Cond.code yX5_membersSickNow cX5_membersSickNow 6 (some .int) ∈ zB := List.mem_filter.mpr ⟨List.mem_of_getElem? (i := 738) (by decide +kernel), by decide +kernel⟩
set_option maxRecDepth 20000 in
theorem wm_X7_249 : Cond.methodLink RX7 249 yX5_membersSickNow ∈ zB := List.mem_filter.mpr ⟨List.mem_of_getElem? (i := 735) (by decide +kernel), by decide +kernel⟩
theorem k_X7_249 : zCal RX7 249 yX5_membersSickNow cX5_membersSickNow 6 (some .int) 0 := ⟨wm_X7_249, wi_X5, wc_X5_membersSickNow, by decide +kernel, by decide +kernel, by decide +kernel⟩
set_option maxRecDepth 20000 in
theorem wn_X5_membersSickNow : Cond.instanceMethod yX5_membersSickNow ∈ zB := List.mem_filter.mpr ⟨List.mem_of_getElem? (i := 736) (by decide +kernel), by decide +kernel⟩
set_option maxRecDepth 20000 in
theorem ws_X5_membersSickNow : Cond.selects RX5 yX5_membersSickNow yX5_membersSickNow ∈ zB := List.mem_filter.mpr ⟨List.mem_of_getElem? (i := 737) (by decide +kernel), by decide +kernel⟩
theorem v_X5_membersSickNow : zVir yX5_membersSickNow 5 := ⟨wn_X5_membersSickNow, ws_X5_membersSickNow, TX5, 8, rfl⟩
set_option maxRecDepth 20000 in
theorem wc_X5_freeOpenPlaces : Cond.code yX5_freeOpenPlaces cX5_freeOpenPlaces 6 (some .int) ∈ zB := List.mem_filter.mpr ⟨List.mem_of_getElem? (i := 742) (by decide +kernel), by decide +kernel⟩
set_option maxRecDepth 20000 in
theorem wm_X7_252 : Cond.methodLink RX7 252 yX5_freeOpenPlaces ∈ zB := List.mem_filter.mpr ⟨List.mem_of_getElem? (i := 739) (by decide +kernel), by decide +kernel⟩
theorem k_X7_252 : zCal RX7 252 yX5_freeOpenPlaces cX5_freeOpenPlaces 6 (some .int) 0 := ⟨wm_X7_252, wi_X5, wc_X5_freeOpenPlaces, by decide +kernel, by decide +kernel, by decide +kernel⟩
set_option maxRecDepth 20000 in
theorem wn_X5_freeOpenPlaces : Cond.instanceMethod yX5_freeOpenPlaces ∈ zB := List.mem_filter.mpr ⟨List.mem_of_getElem? (i := 740) (by decide +kernel), by decide +kernel⟩
set_option maxRecDepth 20000 in
theorem ws_X5_freeOpenPlaces : Cond.selects RX5 yX5_freeOpenPlaces yX5_freeOpenPlaces ∈ zB := List.mem_filter.mpr ⟨List.mem_of_getElem? (i := 741) (by decide +kernel), by decide +kernel⟩
theorem v_X5_freeOpenPlaces : zVir yX5_freeOpenPlaces 5 := ⟨wn_X5_freeOpenPlaces, ws_X5_freeOpenPlaces, TX5, 8, rfl⟩
set_option maxRecDepth 20000 in
theorem wc_X5_takenOpenPlaces : Cond.code yX5_takenOpenPlaces cX5_takenOpenPlaces 6 (some .int) ∈ zB := List.mem_filter.mpr ⟨List.mem_of_getElem? (i := 746) (by decide +kernel), by decide +kernel⟩
set_option maxRecDepth 20000 in
theorem wm_X7_255 : Cond.methodLink RX7 255 yX5_takenOpenPlaces ∈ zB := List.mem_filter.mpr ⟨List.mem_of_getElem? (i := 743) (by decide +kernel), by decide +kernel⟩
theorem k_X7_255 : zCal RX7 255 yX5_takenOpenPlaces cX5_takenOpenPlaces 6 (some .int) 0 := ⟨wm_X7_255, wi_X5, wc_X5_takenOpenPlaces, by decide +kernel, by decide +kernel, by decide +kernel⟩
set_option maxRecDepth 20000 in
theorem wn_X5_takenOpenPlaces : Cond.instanceMethod yX5_takenOpenPlaces ∈ zB := List.mem_filter.mpr ⟨List.mem_of_getElem? (i := 744) (by decide +kernel), by decide +kernel⟩
set_option maxRecDepth 20000 in
theorem ws_X5_takenOpenPlaces : Cond.selects RX5 yX5_takenOpenPlaces yX5_takenOpenPlaces ∈ zB := List.mem_filter.mpr ⟨List.mem_of_getElem? (i := 745) (by decide +kernel), by decide +kernel⟩
theorem v_X5_takenOpenPlaces : zVir yX5_takenOpenPlaces 5 := ⟨wn_X5_takenOpenPlaces, ws_X5_takenOpenPlaces, TX5, 8, rfl⟩
set_option maxRecDepth 20000 in
theorem wc_X5_allCovers : Cond.code yX5_allCovers cX5_allCovers 6 (some .int) ∈ zB := List.mem_filter.mpr ⟨List.mem_of_getElem? (i := 751) (by decide +kernel), by decide +kernel⟩
set_option maxRecDepth 20000 in
theorem wm_X7_258 : Cond.methodLink RX7 258 yX5_allCovers ∈ zB := List.mem_filter.mpr ⟨List.mem_of_getElem? (i := 748) (by decide +kernel), by decide +kernel⟩
theorem k_X7_258 : zCal RX7 258 yX5_allCovers cX5_allCovers 6 (some .int) 0 := ⟨wm_X7_258, wi_X5, wc_X5_allCovers, by decide +kernel, by decide +kernel, by decide +kernel⟩
set_option maxRecDepth 20000 in
theorem wn_X5_allCovers : Cond.instanceMethod yX5_allCovers ∈ zB := List.mem_filter.mpr ⟨List.mem_of_getElem? (i := 749) (by decide +kernel), by decide +kernel⟩
set_option maxRecDepth 20000 in
theorem ws_X5_allCovers : Cond.selects RX5 yX5_allCovers yX5_allCovers ∈ zB := List.mem_filter.mpr ⟨List.mem_of_getElem? (i := 750) (by decide +kernel), by decide +kernel⟩
theorem v_X5_allCovers : zVir yX5_allCovers 5 := ⟨wn_X5_allCovers, ws_X5_allCovers, TX5, 8, rfl⟩
set_option maxRecDepth 20000 in
theorem wc_X5_allHoursBeyond : Cond.code yX5_allHoursBeyond cX5_allHoursBeyond 5 (some .int) ∈ zB := List.mem_filter.mpr ⟨List.mem_of_getElem? (i := 755) (by decide +kernel), by decide +kernel⟩
set_option maxRecDepth 20000 in
theorem wm_X7_261 : Cond.methodLink RX7 261 yX5_allHoursBeyond ∈ zB := List.mem_filter.mpr ⟨List.mem_of_getElem? (i := 752) (by decide +kernel), by decide +kernel⟩
theorem k_X7_261 : zCal RX7 261 yX5_allHoursBeyond cX5_allHoursBeyond 5 (some .int) 0 := ⟨wm_X7_261, wi_X5, wc_X5_allHoursBeyond, by decide +kernel, by decide +kernel, by decide +kernel⟩
set_option maxRecDepth 20000 in
theorem wn_X5_allHoursBeyond : Cond.instanceMethod yX5_allHoursBeyond ∈ zB := List.mem_filter.mpr ⟨List.mem_of_getElem? (i := 753) (by decide +kernel), by decide +kernel⟩
set_option maxRecDepth 20000 in
theorem ws_X5_allHoursBeyond : Cond.selects RX5 yX5_allHoursBeyond yX5_allHoursBeyond ∈ zB := List.mem_filter.mpr ⟨List.mem_of_getElem? (i := 754) (by decide +kernel), by decide +kernel⟩
theorem v_X5_allHoursBeyond : zVir yX5_allHoursBeyond 5 := ⟨wn_X5_allHoursBeyond, ws_X5_allHoursBeyond, TX5, 8, rfl⟩
def rm_X7_count : Room := { frames := 5, cells := 0, slots := 0, locals := 112 }
set_option maxHeartbeats 4000000 in
set_option maxRecDepth 20000 in
theorem t_X7_count {p : Program} {l : Launch} {e : Env} {s : State} {m : MethodId} {args : Array Value} {below : List Frame} {meth : Method} {c : Code} {G : zG} (Z : zF p s m args c meth cX7_count 2 RX7 G) (hr : meth.sig.returnType = (some .int)) {out : Int32 × zHp} {a0 : Nat} {a1 : Int32} {h : zHp} {H : Heap} {locs : List Loc} {ls : Array Slot} (hf : f_X7_count a0 a1 h = some out) (E : zE G s h H locs) (hl : lv_has ls 2 [(0, .ref a0), (1, .int a1)]) : W p l e rm_X7_count s m args below meth c H locs 0 0 (MQ below (zQi G out.1 out.2) args s 0 0 (zA G)) (F0 m 0 ls []) := by
  unfold f_X7_count at hf
  refine lv_iload_n Z.x Z.b dX7_count_0 rfl (lv_at hl 1 rfl) ?_
  refine lv_bipush (v := 13) Z.x Z.b dX7_count_1 (by decide) ?_
  refine lv_bipush (v := 17) Z.x Z.b dX7_count_3 (by decide) ?_
  refine z_Si (As := [.int a1, .int 13, .int 17]) Z E hl.1 k_X7_88 wt_X7_isWithin hf (fun r h' e => c_X7_isWithin l G h h' a1 13 17 r e) rfl rfl (Nat.le_of_ble_eq_true rfl) (zRm_of rfl (Nat.zero_le _) (Nat.zero_le _)) dX7_count_5 (fun v1 h2 H locs hf E => ?_)
  refine lv_if_eq (tgt := 24) Z.x Z.b dX7_count_8 (by decide) (fun c => ?_) (fun c => ?_)
  · have hf := zit hf c
    refine lv_iload_n Z.x Z.b dX7_count_24 rfl (lv_at hl 1 rfl) ?_
    by_cases c0 : a1 = 0
    · have hf := zit hf c0
      refine lv_tableIn (tgt := 92) Z.x Z.b dX7_count_25 (by rw [c0]; decide) (by rw [c0]; decide) (by rw [c0]; rfl) (by decide) ?_
      refine lv_aload_n Z.x Z.b dX7_count_92 rfl (lv_at hl 0 rfl) ?_
      refine z_getR Z E q_X7_17 dX7_count_93 hf (fun v3 hf => ?_)
      refine z_getI Z E q_X7_133 dX7_count_96 hf (fun v4 hf => ?_)
      exact z_iret Z E hr dX7_count_99 hf
    · have hf := zif_ hf c0
      by_cases c1 : a1 = 1
      · have hf := zit hf c1
        refine lv_tableIn (tgt := 100) Z.x Z.b dX7_count_25 (by rw [c1]; decide) (by rw [c1]; decide) (by rw [c1]; rfl) (by decide) ?_
        refine lv_aload_n Z.x Z.b dX7_count_100 rfl (lv_at hl 0 rfl) ?_
        refine z_getR Z E q_X7_17 dX7_count_101 hf (fun v5 hf => ?_)
        refine z_getI Z E q_X7_243 dX7_count_104 hf (fun v6 hf => ?_)
        exact z_iret Z E hr dX7_count_107 hf
      · have hf := zif_ hf c1
        by_cases c2 : a1 = 2
        · have hf := zit hf c2
          refine lv_tableIn (tgt := 108) Z.x Z.b dX7_count_25 (by rw [c2]; decide) (by rw [c2]; decide) (by rw [c2]; rfl) (by decide) ?_
          refine lv_aload_n Z.x Z.b dX7_count_108 rfl (lv_at hl 0 rfl) ?_
          refine z_getR Z E q_X7_17 dX7_count_109 hf (fun v7 hf => ?_)
          refine lv_iconst (v := 0) Z.x Z.b dX7_count_112 (by decide) ?_
          refine z_Vi (As := [.int 0]) Z E hl.1 k_X7_246 v_X5_sailingsThatAre hf (fun r h' e => c_X5_sailingsThatAre l G h2 h' v7 0 r e) rfl rfl (Nat.le_of_ble_eq_true rfl) (zRm_of rfl (Nat.zero_le _) (Nat.zero_le _)) dX7_count_113 (fun v8 h9 H locs hf E => ?_)
          exact z_iret Z E hr dX7_count_116 hf
        · have hf := zif_ hf c2
          by_cases c3 : a1 = 3
          · have hf := zit hf c3
            refine lv_tableIn (tgt := 117) Z.x Z.b dX7_count_25 (by rw [c3]; decide) (by rw [c3]; decide) (by rw [c3]; rfl) (by decide) ?_
            refine lv_aload_n Z.x Z.b dX7_count_117 rfl (lv_at hl 0 rfl) ?_
            refine z_getR Z E q_X7_17 dX7_count_118 hf (fun v10 hf => ?_)
            refine lv_iconst (v := 1) Z.x Z.b dX7_count_121 (by decide) ?_
            refine z_Vi (As := [.int 1]) Z E hl.1 k_X7_246 v_X5_sailingsThatAre hf (fun r h' e => c_X5_sailingsThatAre l G h2 h' v10 1 r e) rfl rfl (Nat.le_of_ble_eq_true rfl) (zRm_of rfl (Nat.zero_le _) (Nat.zero_le _)) dX7_count_122 (fun v11 h12 H locs hf E => ?_)
            exact z_iret Z E hr dX7_count_125 hf
          · have hf := zif_ hf c3
            by_cases c4 : a1 = 4
            · have hf := zit hf c4
              refine lv_tableIn (tgt := 126) Z.x Z.b dX7_count_25 (by rw [c4]; decide) (by rw [c4]; decide) (by rw [c4]; rfl) (by decide) ?_
              refine lv_aload_n Z.x Z.b dX7_count_126 rfl (lv_at hl 0 rfl) ?_
              refine z_getR Z E q_X7_17 dX7_count_127 hf (fun v13 hf => ?_)
              refine lv_iconst (v := 2) Z.x Z.b dX7_count_130 (by decide) ?_
              refine z_Vi (As := [.int 2]) Z E hl.1 k_X7_246 v_X5_sailingsThatAre hf (fun r h' e => c_X5_sailingsThatAre l G h2 h' v13 2 r e) rfl rfl (Nat.le_of_ble_eq_true rfl) (zRm_of rfl (Nat.zero_le _) (Nat.zero_le _)) dX7_count_131 (fun v14 h15 H locs hf E => ?_)
              exact z_iret Z E hr dX7_count_134 hf
            · have hf := zif_ hf c4
              by_cases c5 : a1 = 5
              · have hf := zit hf c5
                refine lv_tableIn (tgt := 135) Z.x Z.b dX7_count_25 (by rw [c5]; decide) (by rw [c5]; decide) (by rw [c5]; rfl) (by decide) ?_
                refine lv_aload_n Z.x Z.b dX7_count_135 rfl (lv_at hl 0 rfl) ?_
                refine z_getR Z E q_X7_17 dX7_count_136 hf (fun v16 hf => ?_)
                refine z_getI Z E q_X7_92 dX7_count_139 hf (fun v17 hf => ?_)
                exact z_iret Z E hr dX7_count_142 hf
              · have hf := zif_ hf c5
                by_cases c6 : a1 = 6
                · have hf := zit hf c6
                  refine lv_tableIn (tgt := 143) Z.x Z.b dX7_count_25 (by rw [c6]; decide) (by rw [c6]; decide) (by rw [c6]; rfl) (by decide) ?_
                  refine lv_aload_n Z.x Z.b dX7_count_143 rfl (lv_at hl 0 rfl) ?_
                  refine z_getR Z E q_X7_17 dX7_count_144 hf (fun v18 hf => ?_)
                  refine z_Vi (As := []) Z E hl.1 k_X7_249 v_X5_membersSickNow hf (fun r h' e => c_X5_membersSickNow l G h2 h' v18 r e) rfl rfl (Nat.le_of_ble_eq_true rfl) (zRm_of rfl (Nat.zero_le _) (Nat.zero_le _)) dX7_count_147 (fun v19 h20 H locs hf E => ?_)
                  exact z_iret Z E hr dX7_count_150 hf
                · have hf := zif_ hf c6
                  by_cases c7 : a1 = 7
                  · have hf := zit hf c7
                    refine lv_tableIn (tgt := 151) Z.x Z.b dX7_count_25 (by rw [c7]; decide) (by rw [c7]; decide) (by rw [c7]; rfl) (by decide) ?_
                    refine lv_aload_n Z.x Z.b dX7_count_151 rfl (lv_at hl 0 rfl) ?_
                    refine z_getR Z E q_X7_17 dX7_count_152 hf (fun v21 hf => ?_)
                    refine z_Vi (As := []) Z E hl.1 k_X7_252 v_X5_freeOpenPlaces hf (fun r h' e => c_X5_freeOpenPlaces l G h2 h' v21 r e) rfl rfl (Nat.le_of_ble_eq_true rfl) (zRm_of rfl (Nat.zero_le _) (Nat.zero_le _)) dX7_count_155 (fun v22 h23 H locs hf E => ?_)
                    exact z_iret Z E hr dX7_count_158 hf
                  · have hf := zif_ hf c7
                    by_cases c8 : a1 = 8
                    · have hf := zit hf c8
                      refine lv_tableIn (tgt := 159) Z.x Z.b dX7_count_25 (by rw [c8]; decide) (by rw [c8]; decide) (by rw [c8]; rfl) (by decide) ?_
                      refine lv_aload_n Z.x Z.b dX7_count_159 rfl (lv_at hl 0 rfl) ?_
                      refine z_getR Z E q_X7_17 dX7_count_160 hf (fun v24 hf => ?_)
                      refine z_Vi (As := []) Z E hl.1 k_X7_255 v_X5_takenOpenPlaces hf (fun r h' e => c_X5_takenOpenPlaces l G h2 h' v24 r e) rfl rfl (Nat.le_of_ble_eq_true rfl) (zRm_of rfl (Nat.zero_le _) (Nat.zero_le _)) dX7_count_163 (fun v25 h26 H locs hf E => ?_)
                      exact z_iret Z E hr dX7_count_166 hf
                    · have hf := zif_ hf c8
                      by_cases c9 : a1 = 9
                      · have hf := zit hf c9
                        refine lv_tableIn (tgt := 167) Z.x Z.b dX7_count_25 (by rw [c9]; decide) (by rw [c9]; decide) (by rw [c9]; rfl) (by decide) ?_
                        refine lv_aload_n Z.x Z.b dX7_count_167 rfl (lv_at hl 0 rfl) ?_
                        refine z_getR Z E q_X7_17 dX7_count_168 hf (fun v27 hf => ?_)
                        refine z_Vi (As := []) Z E hl.1 k_X7_258 v_X5_allCovers hf (fun r h' e => c_X5_allCovers l G h2 h' v27 r e) rfl rfl (Nat.le_of_ble_eq_true rfl) (zRm_of rfl (Nat.zero_le _) (Nat.zero_le _)) dX7_count_171 (fun v28 h29 H locs hf E => ?_)
                        exact z_iret Z E hr dX7_count_174 hf
                      · have hf := zif_ hf c9
                        by_cases c10 : a1 = 10
                        · have hf := zit hf c10
                          refine lv_tableIn (tgt := 175) Z.x Z.b dX7_count_25 (by rw [c10]; decide) (by rw [c10]; decide) (by rw [c10]; rfl) (by decide) ?_
                          refine lv_aload_n Z.x Z.b dX7_count_175 rfl (lv_at hl 0 rfl) ?_
                          refine z_getR Z E q_X7_17 dX7_count_176 hf (fun v30 hf => ?_)
                          refine z_Vi (As := []) Z E hl.1 k_X7_261 v_X5_allHoursBeyond hf (fun r h' e => c_X5_allHoursBeyond l G h2 h' v30 r e) rfl rfl (Nat.le_of_ble_eq_true rfl) (zRm_of rfl (Nat.zero_le _) (Nat.zero_le _)) dX7_count_179 (fun v31 h32 H locs hf E => ?_)
                          exact z_iret Z E hr dX7_count_182 hf
                        · have hf := zif_ hf c10
                          by_cases c11 : a1 = 11
                          · have hf := zit hf c11
                            refine lv_tableIn (tgt := 183) Z.x Z.b dX7_count_25 (by rw [c11]; decide) (by rw [c11]; decide) (by rw [c11]; rfl) (by decide) ?_
                            refine lv_aload_n Z.x Z.b dX7_count_183 rfl (lv_at hl 0 rfl) ?_
                            refine z_getR Z E q_X7_30 dX7_count_184 hf (fun v33 hf => ?_)
                            refine z_getI Z E q_X7_177 dX7_count_187 hf (fun v34 hf => ?_)
                            exact z_iret Z E hr dX7_count_190 hf
                          · have hf := zif_ hf c11
                            by_cases c12 : a1 = 12
                            · have hf := zit hf c12
                              refine lv_tableIn (tgt := 191) Z.x Z.b dX7_count_25 (by rw [c12]; decide) (by rw [c12]; decide) (by rw [c12]; rfl) (by decide) ?_
                              refine lv_aload_n Z.x Z.b dX7_count_191 rfl (lv_at hl 0 rfl) ?_
                              refine z_getR Z E q_X7_37 dX7_count_192 hf (fun v35 hf => ?_)
                              refine z_getI Z E q_X7_174 dX7_count_195 hf (fun v36 hf => ?_)
                              exact z_iret Z E hr dX7_count_198 hf
                            · have hf := zif_ hf c12
                              have n0 := zsw (k := 0) c0 (by decide)
                              have n1 := zsw (k := 1) c1 (by decide)
                              have n2 := zsw (k := 2) c2 (by decide)
                              have n3 := zsw (k := 3) c3 (by decide)
                              have n4 := zsw (k := 4) c4 (by decide)
                              have n5 := zsw (k := 5) c5 (by decide)
                              have n6 := zsw (k := 6) c6 (by decide)
                              have n7 := zsw (k := 7) c7 (by decide)
                              have n8 := zsw (k := 8) c8 (by decide)
                              have n9 := zsw (k := 9) c9 (by decide)
                              have n10 := zsw (k := 10) c10 (by decide)
                              have n11 := zsw (k := 11) c11 (by decide)
                              have n12 := zsw (k := 12) c12 (by decide)
                              refine lv_tableOut (tgt := 199) Z.x Z.b dX7_count_25 (by omega) (by decide) ?_
                              refine lv_bipush (v := (-2)) Z.x Z.b dX7_count_199 (by decide) ?_
                              exact z_iret Z E hr dX7_count_201 hf
  · have hf := zif_ hf c
    refine lv_aload_n Z.x Z.b dX7_count_11 rfl (lv_at hl 0 rfl) ?_
    refine z_getR Z E q_X7_17 dX7_count_12 hf (fun v37 hf => ?_)
    refine z_getR Z E q_X7_164 dX7_count_15 hf (fun v38 hf => ?_)
    refine lv_iload_n Z.x Z.b dX7_count_18 rfl (lv_at hl 1 rfl) ?_
    refine lv_bipush (v := 13) Z.x Z.b dX7_count_19 (by decide) ?_
    refine lv_isub Z.x Z.b dX7_count_21 ?_
    refine z_iald Z E dX7_count_22 hf (fun v39 hf => ?_)
    exact z_iret Z E hr dX7_count_23 hf
set_option maxHeartbeats 4000000 in
set_option maxRecDepth 20000 in
theorem c_X7_count (l : Launch) (G : zG) (h : zHp) (h' : zHp) (a0 : Nat) (a1 : Int32) (r : Int32) (hf : f_X7_count a0 a1 h = some (r, h')) : zM0 l yX7_count cX7_count 2 (some .int) rm_X7_count G [.ref a0, .int a1] h (zQi G r h') := by
  refine Met.ofW (cc := cX7_count) (maxL := 2) (ret := (some .int)) (by decide) rfl ?_
  intro p e s m args below meth c s₁ B hml hv
  obtain ⟨rfl, hW⟩ := hv
  obtain ⟨Z, E, hr⟩ := zEnter (own := RX7) B hml rfl hW
  have hl := lv_entry ([.ref a0, .int a1]) (n := 2) (Nat.le_of_ble_eq_true rfl)
  rw [lg_entry_eq]
  generalize (lg_sl ([.ref a0, .int a1]) ++ List.replicate (2 - (lg_sl ([.ref a0, .int a1])).length) Slot.unset).toArray = ls at hl ⊢
  have hl : lv_has ls 2 [(0, .ref a0), (1, .int a1)] := hl
  exact t_X7_count (out := (r, h')) Z hr hf E hl
/-! FerryCrews.why(III)I -/
theorem dX7_why_0 : decode cX7_why 0 = .ok (.aload_n 0, 1) := by decide +kernel
theorem dX7_why_1 : decode cX7_why 1 = .ok (.getfield 17, 3) := by decide +kernel
theorem dX7_why_4 : decode cX7_why 4 = .ok (.iload_n 2, 1) := by decide +kernel
theorem dX7_why_5 : decode cX7_why 5 = .ok (.invokevirtual 71, 3) := by decide +kernel
theorem dX7_why_8 : decode cX7_why 8 = .ok (.astore 4, 2) := by decide +kernel
theorem dX7_why_10 : decode cX7_why 10 = .ok (.aload_n 0, 1) := by decide +kernel
theorem dX7_why_11 : decode cX7_why 11 = .ok (.getfield 17, 3) := by decide +kernel
theorem dX7_why_14 : decode cX7_why 14 = .ok (.iload_n 1, 1) := by decide +kernel
theorem dX7_why_15 : decode cX7_why 15 = .ok (.invokevirtual 99, 3) := by decide +kernel
theorem dX7_why_18 : decode cX7_why 18 = .ok (.ifnull 15, 3) := by decide +kernel
theorem dX7_why_21 : decode cX7_why 21 = .ok (.aload 4, 2) := by decide +kernel
theorem dX7_why_23 : decode cX7_why 23 = .ok (.ifnull 10, 3) := by decide +kernel
theorem dX7_why_26 : decode cX7_why 26 = .ok (.iload_n 3, 1) := by decide +kernel
theorem dX7_why_27 : decode cX7_why 27 = .ok (.invokestatic 84, 3) := by decide +kernel
theorem dX7_why_30 : decode cX7_why 30 = .ok (.ifCond .ne 5, 3) := by decide +kernel
theorem dX7_why_33 : decode cX7_why 33 = .ok (.iconst (-1), 1) := by decide +kernel
theorem dX7_why_34 : decode cX7_why 34 = .ok (.ireturn, 1) := by decide +kernel
theorem dX7_why_35 : decode cX7_why 35 = .ok (.aload_n 0, 1) := by decide +kernel
theorem dX7_why_36 : decode cX7_why 36 = .ok (.getfield 17, 3) := by decide +kernel
theorem dX7_why_39 : decode cX7_why 39 = .ok (.iload_n 1, 1) := by decide +kernel
theorem dX7_why_40 : decode cX7_why 40 = .ok (.aload 4, 2) := by decide +kernel
theorem dX7_why_42 : decode cX7_why 42 = .ok (.iload_n 3, 1) := by decide +kernel
theorem dX7_why_43 : decode cX7_why 43 = .ok (.invokevirtual 136, 3) := by decide +kernel
theorem dX7_why_46 : decode cX7_why 46 = .ok (.ireturn, 1) := by decide +kernel
def rm_X7_why : Room := { frames := 5, cells := 0, slots := 0, locals := 113 }
set_option maxHeartbeats 4000000 in
set_option maxRecDepth 20000 in
theorem t_X7_why {p : Program} {l : Launch} {e : Env} {s : State} {m : MethodId} {args : Array Value} {below : List Frame} {meth : Method} {c : Code} {G : zG} (Z : zF p s m args c meth cX7_why 5 RX7 G) (hr : meth.sig.returnType = (some .int)) {out : Int32 × zHp} {a0 : Nat} {a1 : Int32} {a2 : Int32} {a3 : Int32} {h : zHp} {H : Heap} {locs : List Loc} {ls : Array Slot} (hf : f_X7_why a0 a1 a2 a3 h = some out) (E : zE G s h H locs) (hl : lv_has ls 5 [(0, .ref a0), (1, .int a1), (2, .int a2), (3, .int a3)]) : W p l e rm_X7_why s m args below meth c H locs 0 0 (MQ below (zQi G out.1 out.2) args s 0 0 (zA G)) (F0 m 0 ls []) := by
  unfold f_X7_why at hf
  refine lv_aload_n Z.x Z.b dX7_why_0 rfl (lv_at hl 0 rfl) ?_
  refine z_getR Z E q_X7_17 dX7_why_1 hf (fun v1 hf => ?_)
  refine lv_iload_n Z.x Z.b dX7_why_4 rfl (lv_at hl 2 rfl) ?_
  refine z_Vq (As := [.int a2]) Z E hl.1 k_X7_71 v_X5_sailingAt hf (fun r h' e => c_X5_sailingAt l G h h' v1 a2 r e) rfl rfl (Nat.le_of_ble_eq_true rfl) (zRm_of rfl (Nat.zero_le _) (Nat.zero_le _)) dX7_why_5 (fun w2 h3 H locs hf E => ?_)
  refine z_astore (lv' := [(4, va_rf w2), (0, .ref a0), (1, .int a1), (2, .int a2), (3, .int a3)]) Z (x := w2) dX7_why_8 hl (by decide) (by cases w2 <;> rfl) (fun ls hl => ?_)
  refine lv_aload_n Z.x Z.b dX7_why_10 rfl (lv_at hl 1 rfl) ?_
  refine z_getR Z E q_X7_17 dX7_why_11 hf (fun v4 hf => ?_)
  refine lv_iload_n Z.x Z.b dX7_why_14 rfl (lv_at hl 2 rfl) ?_
  refine z_Vq (As := [.int a1]) Z E hl.1 k_X7_99 v_X5_memberAt hf (fun r h' e => c_X5_memberAt l G h3 h' v4 a1 r e) rfl rfl (Nat.le_of_ble_eq_true rfl) (zRm_of rfl (Nat.zero_le _) (Nat.zero_le _)) dX7_why_15 (fun w5 h6 H locs hf E => ?_)
  refine z_ifnull (tgt := 33) Z dX7_why_18 (by decide) hf (fun ex h9_18 => ?_) (fun v7 ex h9_18 => ?_)
  · subst ex
    have hf := h9_18
    refine lv_iconst (v := (-1)) Z.x Z.b dX7_why_33 (by decide) ?_
    exact z_iret Z E hr dX7_why_34 hf
  · subst ex
    have hf := h9_18
    refine z_aload Z (x := w2) dX7_why_21 (lv_at hl 0 rfl) ?_
    refine z_ifnull (tgt := 33) Z dX7_why_23 (by decide) hf (fun ex h9_23 => ?_) (fun v8 ex h9_23 => ?_)
    · subst ex
      have hf := h9_23
      refine lv_iconst (v := (-1)) Z.x Z.b dX7_why_33 (by decide) ?_
      exact z_iret Z E hr dX7_why_34 hf
    · subst ex
      have hf := h9_23
      refine lv_iload_n Z.x Z.b dX7_why_26 rfl (lv_at hl 4 rfl) ?_
      refine z_Si (As := [.int a3]) Z E hl.1 k_X7_84 wt_X7_isRole hf (fun r h' e => c_X7_isRole l G h6 h' a3 r e) rfl rfl (Nat.le_of_ble_eq_true rfl) (zRm_of rfl (Nat.zero_le _) (Nat.zero_le _)) dX7_why_27 (fun v9 h10 H locs hf E => ?_)
      refine lv_if_ne (tgt := 35) Z.x Z.b dX7_why_30 (by decide) (fun c => ?_) (fun c => ?_)
      · have hf := zif_ hf c
        refine lv_aload_n Z.x Z.b dX7_why_35 rfl (lv_at hl 1 rfl) ?_
        refine z_getR Z E q_X7_17 dX7_why_36 hf (fun v11 hf => ?_)
        refine lv_iload_n Z.x Z.b dX7_why_39 rfl (lv_at hl 2 rfl) ?_
        refine lv_aload Z.x Z.b dX7_why_40 (lv_at hl 0 rfl) ?_
        refine lv_iload_n Z.x Z.b dX7_why_42 rfl (lv_at hl 4 rfl) ?_
        refine z_Vi (As := [.int a1, .ref v8, .int a3]) Z E hl.1 k_X7_136 v_X5_reasonAgainst hf (fun r h' e => c_X5_reasonAgainst l G h10 h' v11 a1 v8 a3 r e) rfl rfl (Nat.le_of_ble_eq_true rfl) (zRm_of rfl (Nat.zero_le _) (Nat.zero_le _)) dX7_why_43 (fun v12 h13 H locs hf E => ?_)
        exact z_iret Z E hr dX7_why_46 hf
      · have hf := zit hf c
        refine lv_iconst (v := (-1)) Z.x Z.b dX7_why_33 (by decide) ?_
        exact z_iret Z E hr dX7_why_34 hf
set_option maxHeartbeats 4000000 in
set_option maxRecDepth 20000 in
theorem c_X7_why (l : Launch) (G : zG) (h : zHp) (h' : zHp) (a0 : Nat) (a1 : Int32) (a2 : Int32) (a3 : Int32) (r : Int32) (hf : f_X7_why a0 a1 a2 a3 h = some (r, h')) : zM0 l yX7_why cX7_why 5 (some .int) rm_X7_why G [.ref a0, .int a1, .int a2, .int a3] h (zQi G r h') := by
  refine Met.ofW (cc := cX7_why) (maxL := 5) (ret := (some .int)) (by decide) rfl ?_
  intro p e s m args below meth c s₁ B hml hv
  obtain ⟨rfl, hW⟩ := hv
  obtain ⟨Z, E, hr⟩ := zEnter (own := RX7) B hml rfl hW
  have hl := lv_entry ([.ref a0, .int a1, .int a2, .int a3]) (n := 5) (Nat.le_of_ble_eq_true rfl)
  rw [lg_entry_eq]
  generalize (lg_sl ([.ref a0, .int a1, .int a2, .int a3]) ++ List.replicate (5 - (lg_sl ([.ref a0, .int a1, .int a2, .int a3])).length) Slot.unset).toArray = ls at hl ⊢
  have hl : lv_has ls 5 [(0, .ref a0), (1, .int a1), (2, .int a2), (3, .int a3)] := hl
  exact t_X7_why (out := (r, h')) Z hr hf E hl
/-! FerryCrews.able(II)I -/
theorem dX7_able_0 : decode cX7_able 0 = .ok (.aload_n 0, 1) := by decide +kernel
theorem dX7_able_1 : decode cX7_able 1 = .ok (.getfield 17, 3) := by decide +kernel
theorem dX7_able_4 : decode cX7_able 4 = .ok (.iload_n 1, 1) := by decide +kernel
theorem dX7_able_5 : decode cX7_able 5 = .ok (.invokevirtual 71, 3) := by decide +kernel
theorem dX7_able_8 : decode cX7_able 8 = .ok (.astore_n 3, 1) := by decide +kernel
theorem dX7_able_9 : decode cX7_able 9 = .ok (.aload_n 3, 1) := by decide +kernel
theorem dX7_able_10 : decode cX7_able 10 = .ok (.ifnull 10, 3) := by decide +kernel
theorem dX7_able_13 : decode cX7_able 13 = .ok (.iload_n 2, 1) := by decide +kernel
theorem dX7_able_14 : decode cX7_able 14 = .ok (.invokestatic 84, 3) := by decide +kernel
theorem dX7_able_17 : decode cX7_able 17 = .ok (.ifCond .ne 5, 3) := by decide +kernel
theorem dX7_able_20 : decode cX7_able 20 = .ok (.iconst (-1), 1) := by decide +kernel
theorem dX7_able_21 : decode cX7_able 21 = .ok (.ireturn, 1) := by decide +kernel
theorem dX7_able_22 : decode cX7_able 22 = .ok (.iconst 0, 1) := by decide +kernel
theorem dX7_able_23 : decode cX7_able 23 = .ok (.istore 4, 2) := by decide +kernel
theorem dX7_able_25 : decode cX7_able 25 = .ok (.iconst 0, 1) := by decide +kernel
theorem dX7_able_26 : decode cX7_able 26 = .ok (.istore 5, 2) := by decide +kernel
theorem dX7_able_28 : decode cX7_able 28 = .ok (.iload 5, 2) := by decide +kernel
theorem dX7_able_30 : decode cX7_able 30 = .ok (.aload_n 0, 1) := by decide +kernel
theorem dX7_able_31 : decode cX7_able 31 = .ok (.getfield 17, 3) := by decide +kernel
theorem dX7_able_34 : decode cX7_able 34 = .ok (.getfield 92, 3) := by decide +kernel
theorem dX7_able_37 : decode cX7_able 37 = .ok (.if_icmp .ge 32, 3) := by decide +kernel
theorem dX7_able_40 : decode cX7_able 40 = .ok (.aload_n 0, 1) := by decide +kernel
theorem dX7_able_41 : decode cX7_able 41 = .ok (.getfield 17, 3) := by decide +kernel
theorem dX7_able_44 : decode cX7_able 44 = .ok (.iload 5, 2) := by decide +kernel
theorem dX7_able_46 : decode cX7_able 46 = .ok (.aload_n 3, 1) := by decide +kernel
theorem dX7_able_47 : decode cX7_able 47 = .ok (.iload_n 2, 1) := by decide +kernel
theorem dX7_able_48 : decode cX7_able 48 = .ok (.invokevirtual 136, 3) := by decide +kernel
theorem dX7_able_51 : decode cX7_able 51 = .ok (.ifCond .ne 12, 3) := by decide +kernel
theorem dX7_able_54 : decode cX7_able 54 = .ok (.iload 4, 2) := by decide +kernel
theorem dX7_able_56 : decode cX7_able 56 = .ok (.iconst 1, 1) := by decide +kernel
theorem dX7_able_57 : decode cX7_able 57 = .ok (.iload 5, 2) := by decide +kernel
theorem dX7_able_59 : decode cX7_able 59 = .ok (.ishl, 1) := by decide +kernel
theorem dX7_able_60 : decode cX7_able 60 = .ok (.ior, 1) := by decide +kernel
theorem dX7_able_61 : decode cX7_able 61 = .ok (.istore 4, 2) := by decide +kernel
theorem dX7_able_63 : decode cX7_able 63 = .ok (.iinc 5 1, 3) := by decide +kernel
theorem dX7_able_66 : decode cX7_able 66 = .ok (.goto (-38), 3) := by decide +kernel
theorem dX7_able_69 : decode cX7_able 69 = .ok (.iload 4, 2) := by decide +kernel
theorem dX7_able_71 : decode cX7_able 71 = .ok (.ireturn, 1) := by decide +kernel
def rm_X7_able : Room := { frames := 5, cells := 0, slots := 0, locals := 113 }
set_option maxHeartbeats 4000000 in
set_option maxRecDepth 20000 in
theorem t_X7_able_63 {p : Program} {l : Launch} {e : Env} {s : State} {m : MethodId} {args : Array Value} {below : List Frame} {meth : Method} {c : Code} {G : zG} (Z : zF p s m args c meth cX7_able 6 RX7 G) (hr : meth.sig.returnType = (some .int)) {out : Int32 × zHp} {r28 : Nat → Int32 → Nat → Int32 → Int32 → zHp → Option (Int32 × zHp)} (k28 : ∀ {a0 : Nat} {a2 : Int32} {a3 : Nat} {a4 : Int32} {a5 : Int32} {h : zHp} {H : Heap} {locs : List Loc} {ls : Array Slot}, r28 a0 a2 a3 a4 a5 h = some out → zE G s h H locs → lv_has ls 6 [(0, .ref a0), (2, .int a2), (3, .ref a3), (4, .int a4), (5, .int a5)] → W p l e rm_X7_able s m args below meth c H locs 0 0 (MQ below (zQi G out.1 out.2) args s 0 0 (zA G)) (F0 m 28 ls [])) {a0 : Nat} {a2 : Int32} {a3 : Nat} {a4 : Int32} {a5 : Int32} {h : zHp} {H : Heap} {locs : List Loc} {ls : Array Slot} (hf : f_X7_able_63 r28 a0 a2 a3 a4 a5 h = some out) (E : zE G s h H locs) (hl : lv_has ls 6 [(0, .ref a0), (2, .int a2), (3, .ref a3), (4, .int a4), (5, .int a5)]) : W p l e rm_X7_able s m args below meth c H locs 0 0 (MQ below (zQi G out.1 out.2) args s 0 0 (zA G)) (F0 m 63 ls []) := by
  unfold f_X7_able_63 at hf
  refine lv_iinc (v := (a5 + 1)) (lv' := [(5, .int (a5 + 1)), (0, .ref a0), (2, .int a2), (3, .ref a3), (4, .int a4)]) Z.x Z.b dX7_able_63 hl (k := 4) rfl rfl (by decide) rfl (fun ls hl => ?_)
  refine lv_goto (tgt := 28) Z.x Z.b dX7_able_66 (by decide) ?_
  exact k28 hf E (lv_sub hl [1, 2, 3, 4, 0] rfl)
set_option maxHeartbeats 4000000 in
set_option maxRecDepth 20000 in
theorem t_X7_able_28_body {p : Program} {l : Launch} {e : Env} {s : State} {m : MethodId} {args : Array Value} {below : List Frame} {meth : Method} {c : Code} {G : zG} (Z : zF p s m args c meth cX7_able 6 RX7 G) (hr : meth.sig.returnType = (some .int)) {out : Int32 × zHp} {r28 : Nat → Int32 → Nat → Int32 → Int32 → zHp → Option (Int32 × zHp)} (k28 : ∀ {a0 : Nat} {a2 : Int32} {a3 : Nat} {a4 : Int32} {a5 : Int32} {h : zHp} {H : Heap} {locs : List Loc} {ls : Array Slot}, r28 a0 a2 a3 a4 a5 h = some out → zE G s h H locs → lv_has ls 6 [(0, .ref a0), (2, .int a2), (3, .ref a3), (4, .int a4), (5, .int a5)] → W p l e rm_X7_able s m args below meth c H locs 0 0 (MQ below (zQi G out.1 out.2) args s 0 0 (zA G)) (F0 m 28 ls [])) {a0 : Nat} {a2 : Int32} {a3 : Nat} {a4 : Int32} {a5 : Int32} {h : zHp} {H : Heap} {locs : List Loc} {ls : Array Slot} (hf : f_X7_able_28_body r28 a0 a2 a3 a4 a5 h = some out) (E : zE G s h H locs) (hl : lv_has ls 6 [(0, .ref a0), (2, .int a2), (3, .ref a3), (4, .int a4), (5, .int a5)]) : W p l e rm_X7_able s m args below meth c H locs 0 0 (MQ below (zQi G out.1 out.2) args s 0 0 (zA G)) (F0 m 28 ls []) := by
  unfold f_X7_able_28_body at hf
  refine lv_iload Z.x Z.b dX7_able_28 (lv_at hl 4 rfl) ?_
  refine lv_aload_n Z.x Z.b dX7_able_30 rfl (lv_at hl 0 rfl) ?_
  refine z_getR Z E q_X7_17 dX7_able_31 hf (fun v1 hf => ?_)
  refine z_getI Z E q_X7_92 dX7_able_34 hf (fun v2 hf => ?_)
  refine lv_icmp_ge (tgt := 69) Z.x Z.b dX7_able_37 (by decide) (fun c => ?_) (fun c => ?_)
  · have hf := zit hf c
    refine lv_iload Z.x Z.b dX7_able_69 (lv_at hl 3 rfl) ?_
    exact z_iret Z E hr dX7_able_71 hf
  · have hf := zif_ hf c
    refine lv_aload_n Z.x Z.b dX7_able_40 rfl (lv_at hl 0 rfl) ?_
    refine z_getR Z E q_X7_17 dX7_able_41 hf (fun v3 hf => ?_)
    refine lv_iload Z.x Z.b dX7_able_44 (lv_at hl 4 rfl) ?_
    refine lv_aload_n Z.x Z.b dX7_able_46 rfl (lv_at hl 2 rfl) ?_
    refine lv_iload_n Z.x Z.b dX7_able_47 rfl (lv_at hl 1 rfl) ?_
    refine z_Vi (As := [.int a5, .ref a3, .int a2]) Z E hl.1 k_X7_136 v_X5_reasonAgainst hf (fun r h' e => c_X5_reasonAgainst l G h h' v3 a5 a3 a2 r e) rfl rfl (Nat.le_of_ble_eq_true rfl) (zRm_of rfl (Nat.zero_le _) (Nat.zero_le _)) dX7_able_48 (fun v4 h5 H locs hf E => ?_)
    refine lv_if_ne (tgt := 63) Z.x Z.b dX7_able_51 (by decide) (fun c => ?_) (fun c => ?_)
    · have hf := zif_ hf c
      exact t_X7_able_63 Z hr k28 hf E (lv_sub hl [0, 1, 2, 3, 4] rfl)
    · have hf := zit hf c
      refine lv_iload Z.x Z.b dX7_able_54 (lv_at hl 3 rfl) ?_
      refine lv_iconst (v := 1) Z.x Z.b dX7_able_56 (by decide) ?_
      refine lv_iload Z.x Z.b dX7_able_57 (lv_at hl 4 rfl) ?_
      refine lv_ishl Z.x Z.b dX7_able_59 ?_
      refine lv_ior Z.x Z.b dX7_able_60 ?_
      refine lv_istore (lv' := [(4, .int (a4 ||| (1 <<< (a5 &&& 31)))), (0, .ref a0), (2, .int a2), (3, .ref a3), (5, .int a5)]) Z.x Z.b dX7_able_61 hl (by decide) rfl (fun ls hl => ?_)
      exact t_X7_able_63 Z hr k28 hf E (lv_sub hl [1, 2, 3, 0, 4] rfl)
theorem t_X7_able_28 {p : Program} {l : Launch} {e : Env} {s : State} {m : MethodId} {args : Array Value} {below : List Frame} {meth : Method} {c : Code} {G : zG} (Z : zF p s m args c meth cX7_able 6 RX7 G) (hr : meth.sig.returnType = (some .int)) {out : Int32 × zHp} : ∀ (n : Nat), ∀ {a0 : Nat} {a2 : Int32} {a3 : Nat} {a4 : Int32} {a5 : Int32} {h : zHp} {H : Heap} {locs : List Loc} {ls : Array Slot}, f_X7_able_28 n a0 a2 a3 a4 a5 h = some out → zE G s h H locs → lv_has ls 6 [(0, .ref a0), (2, .int a2), (3, .ref a3), (4, .int a4), (5, .int a5)] → W p l e rm_X7_able s m args below meth c H locs 0 0 (MQ below (zQi G out.1 out.2) args s 0 0 (zA G)) (F0 m 28 ls [])
  | 0 => fun hf => by cases hf
  | n + 1 => fun hf E hl => t_X7_able_28_body Z hr (r28 := f_X7_able_28 n) (t_X7_able_28 Z hr n) hf E hl
set_option maxHeartbeats 4000000 in
set_option maxRecDepth 20000 in
theorem t_X7_able {p : Program} {l : Launch} {e : Env} {s : State} {m : MethodId} {args : Array Value} {below : List Frame} {meth : Method} {c : Code} {G : zG} (Z : zF p s m args c meth cX7_able 6 RX7 G) (hr : meth.sig.returnType = (some .int)) {out : Int32 × zHp} {a0 : Nat} {a1 : Int32} {a2 : Int32} {h : zHp} {H : Heap} {locs : List Loc} {ls : Array Slot} (hf : f_X7_able a0 a1 a2 h = some out) (E : zE G s h H locs) (hl : lv_has ls 6 [(0, .ref a0), (1, .int a1), (2, .int a2)]) : W p l e rm_X7_able s m args below meth c H locs 0 0 (MQ below (zQi G out.1 out.2) args s 0 0 (zA G)) (F0 m 0 ls []) := by
  unfold f_X7_able at hf
  refine lv_aload_n Z.x Z.b dX7_able_0 rfl (lv_at hl 0 rfl) ?_
  refine z_getR Z E q_X7_17 dX7_able_1 hf (fun v1 hf => ?_)
  refine lv_iload_n Z.x Z.b dX7_able_4 rfl (lv_at hl 1 rfl) ?_
  refine z_Vq (As := [.int a1]) Z E hl.1 k_X7_71 v_X5_sailingAt hf (fun r h' e => c_X5_sailingAt l G h h' v1 a1 r e) rfl rfl (Nat.le_of_ble_eq_true rfl) (zRm_of rfl (Nat.zero_le _) (Nat.zero_le _)) dX7_able_5 (fun w2 h3 H locs hf E => ?_)
  refine z_astore_n (lv' := [(3, va_rf w2), (0, .ref a0), (1, .int a1), (2, .int a2)]) Z (x := w2) dX7_able_8 rfl hl (by decide) (by cases w2 <;> rfl) (fun ls hl => ?_)
  refine z_aload_n Z (x := w2) dX7_able_9 rfl (lv_at hl 0 rfl) ?_
  refine z_ifnull (tgt := 20) Z dX7_able_10 (by decide) hf (fun ex h9_10 => ?_) (fun v4 ex h9_10 => ?_)
  · subst ex
    have hf := h9_10
    refine lv_iconst (v := (-1)) Z.x Z.b dX7_able_20 (by decide) ?_
    exact z_iret Z E hr dX7_able_21 hf
  · subst ex
    have hf := h9_10
    refine lv_iload_n Z.x Z.b dX7_able_13 rfl (lv_at hl 3 rfl) ?_
    refine z_Si (As := [.int a2]) Z E hl.1 k_X7_84 wt_X7_isRole hf (fun r h' e => c_X7_isRole l G h3 h' a2 r e) rfl rfl (Nat.le_of_ble_eq_true rfl) (zRm_of rfl (Nat.zero_le _) (Nat.zero_le _)) dX7_able_14 (fun v5 h6 H locs hf E => ?_)
    refine lv_if_ne (tgt := 22) Z.x Z.b dX7_able_17 (by decide) (fun c => ?_) (fun c => ?_)
    · have hf := zif_ hf c
      refine lv_iconst (v := 0) Z.x Z.b dX7_able_22 (by decide) ?_
      refine lv_istore (lv' := [(4, .int 0), (3, .ref v4), (0, .ref a0), (1, .int a1), (2, .int a2)]) Z.x Z.b dX7_able_23 hl (by decide) rfl (fun ls hl => ?_)
      refine lv_iconst (v := 0) Z.x Z.b dX7_able_25 (by decide) ?_
      refine lv_istore (lv' := [(5, .int 0), (4, .int 0), (3, .ref v4), (0, .ref a0), (1, .int a1), (2, .int a2)]) Z.x Z.b dX7_able_26 hl (by decide) rfl (fun ls hl => ?_)
      exact t_X7_able_28 Z hr zN hf E (lv_sub hl [3, 5, 2, 1, 0] rfl)
    · have hf := zit hf c
      refine lv_iconst (v := (-1)) Z.x Z.b dX7_able_20 (by decide) ?_
      exact z_iret Z E hr dX7_able_21 hf
set_option maxHeartbeats 4000000 in
set_option maxRecDepth 20000 in
theorem c_X7_able (l : Launch) (G : zG) (h : zHp) (h' : zHp) (a0 : Nat) (a1 : Int32) (a2 : Int32) (r : Int32) (hf : f_X7_able a0 a1 a2 h = some (r, h')) : zM0 l yX7_able cX7_able 6 (some .int) rm_X7_able G [.ref a0, .int a1, .int a2] h (zQi G r h') := by
  refine Met.ofW (cc := cX7_able) (maxL := 6) (ret := (some .int)) (by decide) rfl ?_
  intro p e s m args below meth c s₁ B hml hv
  obtain ⟨rfl, hW⟩ := hv
  obtain ⟨Z, E, hr⟩ := zEnter (own := RX7) B hml rfl hW
  have hl := lv_entry ([.ref a0, .int a1, .int a2]) (n := 6) (Nat.le_of_ble_eq_true rfl)
  rw [lg_entry_eq]
  generalize (lg_sl ([.ref a0, .int a1, .int a2]) ++ List.replicate (6 - (lg_sl ([.ref a0, .int a1, .int a2])).length) Slot.unset).toArray = ls at hl ⊢
  have hl : lv_has ls 6 [(0, .ref a0), (1, .int a1), (2, .int a2)] := hl
  exact t_X7_able (out := (r, h')) Z hr hf E hl
/-! FerryCrews.ifSick(II)I -/
theorem dX7_ifSick_0 : decode cX7_ifSick 0 = .ok (.aload_n 0, 1) := by decide +kernel
theorem dX7_ifSick_1 : decode cX7_ifSick 1 = .ok (.getfield 17, 3) := by decide +kernel
theorem dX7_ifSick_4 : decode cX7_ifSick 4 = .ok (.iload_n 1, 1) := by decide +kernel
theorem dX7_ifSick_5 : decode cX7_ifSick 5 = .ok (.invokevirtual 99, 3) := by decide +kernel
theorem dX7_ifSick_8 : decode cX7_ifSick 8 = .ok (.ifnonnull 5, 3) := by decide +kernel
theorem dX7_ifSick_11 : decode cX7_ifSick 11 = .ok (.iconst (-1), 1) := by decide +kernel
theorem dX7_ifSick_12 : decode cX7_ifSick 12 = .ok (.ireturn, 1) := by decide +kernel
theorem dX7_ifSick_13 : decode cX7_ifSick 13 = .ok (.iload_n 2, 1) := by decide +kernel
theorem dX7_ifSick_14 : decode cX7_ifSick 14 = .ok (.iconst 1, 1) := by decide +kernel
theorem dX7_ifSick_15 : decode cX7_ifSick 15 = .ok (.sipush 400, 3) := by decide +kernel
theorem dX7_ifSick_18 : decode cX7_ifSick 18 = .ok (.invokestatic 88, 3) := by decide +kernel
theorem dX7_ifSick_21 : decode cX7_ifSick 21 = .ok (.ifCond .ne 6, 3) := by decide +kernel
theorem dX7_ifSick_24 : decode cX7_ifSick 24 = .ok (.bipush (-2), 2) := by decide +kernel
theorem dX7_ifSick_26 : decode cX7_ifSick 26 = .ok (.ireturn, 1) := by decide +kernel
theorem dX7_ifSick_27 : decode cX7_ifSick 27 = .ok (.aload_n 0, 1) := by decide +kernel
theorem dX7_ifSick_28 : decode cX7_ifSick 28 = .ok (.getfield 24, 3) := by decide +kernel
theorem dX7_ifSick_31 : decode cX7_ifSick 31 = .ok (.aload_n 0, 1) := by decide +kernel
theorem dX7_ifSick_32 : decode cX7_ifSick 32 = .ok (.getfield 17, 3) := by decide +kernel
theorem dX7_ifSick_35 : decode cX7_ifSick 35 = .ok (.invokevirtual 60, 3) := by decide +kernel
theorem dX7_ifSick_38 : decode cX7_ifSick 38 = .ok (.aload_n 0, 1) := by decide +kernel
theorem dX7_ifSick_39 : decode cX7_ifSick 39 = .ok (.getfield 24, 3) := by decide +kernel
theorem dX7_ifSick_42 : decode cX7_ifSick 42 = .ok (.iload_n 1, 1) := by decide +kernel
theorem dX7_ifSick_43 : decode cX7_ifSick 43 = .ok (.iload_n 2, 1) := by decide +kernel
theorem dX7_ifSick_44 : decode cX7_ifSick 44 = .ok (.invokevirtual 127, 3) := by decide +kernel
theorem dX7_ifSick_47 : decode cX7_ifSick 47 = .ok (.ireturn, 1) := by decide +kernel
def rm_X7_ifSick : Room := { frames := 7, cells := 0, slots := 0, locals := 167 }
set_option maxHeartbeats 4000000 in
set_option maxRecDepth 20000 in
theorem t_X7_ifSick {p : Program} {l : Launch} {e : Env} {s : State} {m : MethodId} {args : Array Value} {below : List Frame} {meth : Method} {c : Code} {G : zG} (Z : zF p s m args c meth cX7_ifSick 3 RX7 G) (hr : meth.sig.returnType = (some .int)) {out : Int32 × zHp} {a0 : Nat} {a1 : Int32} {a2 : Int32} {h : zHp} {H : Heap} {locs : List Loc} {ls : Array Slot} (hf : f_X7_ifSick a0 a1 a2 h = some out) (E : zE G s h H locs) (hl : lv_has ls 3 [(0, .ref a0), (1, .int a1), (2, .int a2)]) : W p l e rm_X7_ifSick s m args below meth c H locs 0 0 (MQ below (zQi G out.1 out.2) args s 0 0 (zA G)) (F0 m 0 ls []) := by
  unfold f_X7_ifSick at hf
  refine lv_aload_n Z.x Z.b dX7_ifSick_0 rfl (lv_at hl 0 rfl) ?_
  refine z_getR Z E q_X7_17 dX7_ifSick_1 hf (fun v1 hf => ?_)
  refine lv_iload_n Z.x Z.b dX7_ifSick_4 rfl (lv_at hl 1 rfl) ?_
  refine z_Vq (As := [.int a1]) Z E hl.1 k_X7_99 v_X5_memberAt hf (fun r h' e => c_X5_memberAt l G h h' v1 a1 r e) rfl rfl (Nat.le_of_ble_eq_true rfl) (zRm_of rfl (Nat.zero_le _) (Nat.zero_le _)) dX7_ifSick_5 (fun w2 h3 H locs hf E => ?_)
  refine z_ifnonnull (tgt := 13) Z dX7_ifSick_8 (by decide) hf (fun ex h9_8 => ?_) (fun v4 ex h9_8 => ?_)
  · subst ex
    have hf := h9_8
    refine lv_iconst (v := (-1)) Z.x Z.b dX7_ifSick_11 (by decide) ?_
    exact z_iret Z E hr dX7_ifSick_12 hf
  · subst ex
    have hf := h9_8
    refine lv_iload_n Z.x Z.b dX7_ifSick_13 rfl (lv_at hl 2 rfl) ?_
    refine lv_iconst (v := 1) Z.x Z.b dX7_ifSick_14 (by decide) ?_
    refine lv_sipush (v := 400) Z.x Z.b dX7_ifSick_15 (by decide) ?_
    refine z_Si (As := [.int a2, .int 1, .int 400]) Z E hl.1 k_X7_88 wt_X7_isWithin hf (fun r h' e => c_X7_isWithin l G h3 h' a2 1 400 r e) rfl rfl (Nat.le_of_ble_eq_true rfl) (zRm_of rfl (Nat.zero_le _) (Nat.zero_le _)) dX7_ifSick_18 (fun v5 h6 H locs hf E => ?_)
    refine lv_if_ne (tgt := 27) Z.x Z.b dX7_ifSick_21 (by decide) (fun c => ?_) (fun c => ?_)
    · have hf := zif_ hf c
      refine lv_aload_n Z.x Z.b dX7_ifSick_27 rfl (lv_at hl 0 rfl) ?_
      refine z_getR Z E q_X7_24 dX7_ifSick_28 hf (fun v7 hf => ?_)
      refine lv_aload_n Z.x Z.b dX7_ifSick_31 rfl (lv_at hl 0 rfl) ?_
      refine z_getR Z E q_X7_17 dX7_ifSick_32 hf (fun v8 hf => ?_)
      refine z_Vv (As := [.ref v8]) Z E hl.1 k_X7_60 v_X5_copyFrom hf (fun h' e => c_X5_copyFrom l G h6 h' v7 v8 e) rfl rfl (Nat.le_of_ble_eq_true rfl) (zRm_of rfl (Nat.zero_le _) (Nat.zero_le _)) dX7_ifSick_35 (fun h9 H locs hf E => ?_)
      refine lv_aload_n Z.x Z.b dX7_ifSick_38 rfl (lv_at hl 0 rfl) ?_
      refine z_getR Z E q_X7_24 dX7_ifSick_39 hf (fun v10 hf => ?_)
      refine lv_iload_n Z.x Z.b dX7_ifSick_42 rfl (lv_at hl 1 rfl) ?_
      refine lv_iload_n Z.x Z.b dX7_ifSick_43 rfl (lv_at hl 2 rfl) ?_
      refine z_Vi (As := [.int a1, .int a2]) Z E hl.1 k_X7_127 v_X5_fallSick hf (fun r h' e => c_X5_fallSick l G h9 h' v10 a1 a2 r e) rfl rfl (Nat.le_of_ble_eq_true rfl) (zRm_of rfl (Nat.zero_le _) (Nat.zero_le _)) dX7_ifSick_44 (fun v11 h12 H locs hf E => ?_)
      exact z_iret Z E hr dX7_ifSick_47 hf
    · have hf := zit hf c
      refine lv_bipush (v := (-2)) Z.x Z.b dX7_ifSick_24 (by decide) ?_
      exact z_iret Z E hr dX7_ifSick_26 hf
set_option maxHeartbeats 4000000 in
set_option maxRecDepth 20000 in
theorem c_X7_ifSick (l : Launch) (G : zG) (h : zHp) (h' : zHp) (a0 : Nat) (a1 : Int32) (a2 : Int32) (r : Int32) (hf : f_X7_ifSick a0 a1 a2 h = some (r, h')) : zM0 l yX7_ifSick cX7_ifSick 3 (some .int) rm_X7_ifSick G [.ref a0, .int a1, .int a2] h (zQi G r h') := by
  refine Met.ofW (cc := cX7_ifSick) (maxL := 3) (ret := (some .int)) (by decide) rfl ?_
  intro p e s m args below meth c s₁ B hml hv
  obtain ⟨rfl, hW⟩ := hv
  obtain ⟨Z, E, hr⟩ := zEnter (own := RX7) B hml rfl hW
  have hl := lv_entry ([.ref a0, .int a1, .int a2]) (n := 3) (Nat.le_of_ble_eq_true rfl)
  rw [lg_entry_eq]
  generalize (lg_sl ([.ref a0, .int a1, .int a2]) ++ List.replicate (3 - (lg_sl ([.ref a0, .int a1, .int a2])).length) Slot.unset).toArray = ls at hl ⊢
  have hl : lv_has ls 3 [(0, .ref a0), (1, .int a1), (2, .int a2)] := hl
  exact t_X7_ifSick (out := (r, h')) Z hr hf E hl
/-! FerryCrews.weakest(I)I -/
theorem dX7_weakest_0 : decode cX7_weakest 0 = .ok (.iload_n 1, 1) := by decide +kernel
theorem dX7_weakest_1 : decode cX7_weakest 1 = .ok (.iconst 1, 1) := by decide +kernel
theorem dX7_weakest_2 : decode cX7_weakest 2 = .ok (.sipush 400, 3) := by decide +kernel
theorem dX7_weakest_5 : decode cX7_weakest 5 = .ok (.invokestatic 88, 3) := by decide +kernel
theorem dX7_weakest_8 : decode cX7_weakest 8 = .ok (.ifCond .ne 6, 3) := by decide +kernel
theorem dX7_weakest_11 : decode cX7_weakest 11 = .ok (.bipush (-2), 2) := by decide +kernel
theorem dX7_weakest_13 : decode cX7_weakest 13 = .ok (.ireturn, 1) := by decide +kernel
theorem dX7_weakest_14 : decode cX7_weakest 14 = .ok (.bipush (-5), 2) := by decide +kernel
theorem dX7_weakest_16 : decode cX7_weakest 16 = .ok (.istore_n 2, 1) := by decide +kernel
theorem dX7_weakest_17 : decode cX7_weakest 17 = .ok (.iconst (-1), 1) := by decide +kernel
theorem dX7_weakest_18 : decode cX7_weakest 18 = .ok (.istore_n 3, 1) := by decide +kernel
theorem dX7_weakest_19 : decode cX7_weakest 19 = .ok (.iconst 0, 1) := by decide +kernel
theorem dX7_weakest_20 : decode cX7_weakest 20 = .ok (.istore 4, 2) := by decide +kernel
theorem dX7_weakest_22 : decode cX7_weakest 22 = .ok (.iload 4, 2) := by decide +kernel
theorem dX7_weakest_24 : decode cX7_weakest 24 = .ok (.aload_n 0, 1) := by decide +kernel
theorem dX7_weakest_25 : decode cX7_weakest 25 = .ok (.getfield 17, 3) := by decide +kernel
theorem dX7_weakest_28 : decode cX7_weakest 28 = .ok (.getfield 92, 3) := by decide +kernel
theorem dX7_weakest_31 : decode cX7_weakest 31 = .ok (.if_icmp .ge 44, 3) := by decide +kernel
theorem dX7_weakest_34 : decode cX7_weakest 34 = .ok (.aload_n 0, 1) := by decide +kernel
theorem dX7_weakest_35 : decode cX7_weakest 35 = .ok (.getfield 24, 3) := by decide +kernel
theorem dX7_weakest_38 : decode cX7_weakest 38 = .ok (.aload_n 0, 1) := by decide +kernel
theorem dX7_weakest_39 : decode cX7_weakest 39 = .ok (.getfield 17, 3) := by decide +kernel
theorem dX7_weakest_42 : decode cX7_weakest 42 = .ok (.invokevirtual 60, 3) := by decide +kernel
theorem dX7_weakest_45 : decode cX7_weakest 45 = .ok (.aload_n 0, 1) := by decide +kernel
theorem dX7_weakest_46 : decode cX7_weakest 46 = .ok (.getfield 24, 3) := by decide +kernel
theorem dX7_weakest_49 : decode cX7_weakest 49 = .ok (.iload 4, 2) := by decide +kernel
theorem dX7_weakest_51 : decode cX7_weakest 51 = .ok (.iload_n 1, 1) := by decide +kernel
theorem dX7_weakest_52 : decode cX7_weakest 52 = .ok (.invokevirtual 127, 3) := by decide +kernel
theorem dX7_weakest_55 : decode cX7_weakest 55 = .ok (.istore 5, 2) := by decide +kernel
theorem dX7_weakest_57 : decode cX7_weakest 57 = .ok (.iload 5, 2) := by decide +kernel
theorem dX7_weakest_59 : decode cX7_weakest 59 = .ok (.iload_n 3, 1) := by decide +kernel
theorem dX7_weakest_60 : decode cX7_weakest 60 = .ok (.if_icmp .le 9, 3) := by decide +kernel
theorem dX7_weakest_63 : decode cX7_weakest 63 = .ok (.iload 5, 2) := by decide +kernel
theorem dX7_weakest_65 : decode cX7_weakest 65 = .ok (.istore_n 3, 1) := by decide +kernel
theorem dX7_weakest_66 : decode cX7_weakest 66 = .ok (.iload 4, 2) := by decide +kernel
theorem dX7_weakest_68 : decode cX7_weakest 68 = .ok (.istore_n 2, 1) := by decide +kernel
theorem dX7_weakest_69 : decode cX7_weakest 69 = .ok (.iinc 4 1, 3) := by decide +kernel
theorem dX7_weakest_72 : decode cX7_weakest 72 = .ok (.goto (-50), 3) := by decide +kernel
theorem dX7_weakest_75 : decode cX7_weakest 75 = .ok (.iload_n 2, 1) := by decide +kernel
theorem dX7_weakest_76 : decode cX7_weakest 76 = .ok (.ireturn, 1) := by decide +kernel
def rm_X7_weakest : Room := { frames := 7, cells := 0, slots := 0, locals := 167 }
set_option maxHeartbeats 4000000 in
set_option maxRecDepth 20000 in
theorem t_X7_weakest_69 {p : Program} {l : Launch} {e : Env} {s : State} {m : MethodId} {args : Array Value} {below : List Frame} {meth : Method} {c : Code} {G : zG} (Z : zF p s m args c meth cX7_weakest 6 RX7 G) (hr : meth.sig.returnType = (some .int)) {out : Int32 × zHp} {r22 : Nat → Int32 → Int32 → Int32 → Int32 → zHp → Option (Int32 × zHp)} (k22 : ∀ {a0 : Nat} {a1 : Int32} {a2 : Int32} {a3 : Int32} {a4 : Int32} {h : zHp} {H : Heap} {locs : List Loc} {ls : Array Slot}, r22 a0 a1 a2 a3 a4 h = some out → zE G s h H locs → lv_has ls 6 [(0, .ref a0), (1, .int a1), (2, .int a2), (3, .int a3), (4, .int a4)] → W p l e rm_X7_weakest s m args below meth c H locs 0 0 (MQ below (zQi G out.1 out.2) args s 0 0 (zA G)) (F0 m 22 ls [])) {a0 : Nat} {a1 : Int32} {a2 : Int32} {a3 : Int32} {a4 : Int32} {h : zHp} {H : Heap} {locs : List Loc} {ls : Array Slot} (hf : f_X7_weakest_69 r22 a0 a1 a2 a3 a4 h = some out) (E : zE G s h H locs) (hl : lv_has ls 6 [(0, .ref a0), (1, .int a1), (2, .int a2), (3, .int a3), (4, .int a4)]) : W p l e rm_X7_weakest s m args below meth c H locs 0 0 (MQ below (zQi G out.1 out.2) args s 0 0 (zA G)) (F0 m 69 ls []) := by
  unfold f_X7_weakest_69 at hf
  refine lv_iinc (v := (a4 + 1)) (lv' := [(4, .int (a4 + 1)), (0, .ref a0), (1, .int a1), (2, .int a2), (3, .int a3)]) Z.x Z.b dX7_weakest_69 hl (k := 4) rfl rfl (by decide) rfl (fun ls hl => ?_)
  refine lv_goto (tgt := 22) Z.x Z.b dX7_weakest_72 (by decide) ?_
  exact k22 hf E (lv_sub hl [1, 2, 3, 4, 0] rfl)
set_option maxHeartbeats 4000000 in
set_option maxRecDepth 20000 in
theorem t_X7_weakest_22_body {p : Program} {l : Launch} {e : Env} {s : State} {m : MethodId} {args : Array Value} {below : List Frame} {meth : Method} {c : Code} {G : zG} (Z : zF p s m args c meth cX7_weakest 6 RX7 G) (hr : meth.sig.returnType = (some .int)) {out : Int32 × zHp} {r22 : Nat → Int32 → Int32 → Int32 → Int32 → zHp → Option (Int32 × zHp)} (k22 : ∀ {a0 : Nat} {a1 : Int32} {a2 : Int32} {a3 : Int32} {a4 : Int32} {h : zHp} {H : Heap} {locs : List Loc} {ls : Array Slot}, r22 a0 a1 a2 a3 a4 h = some out → zE G s h H locs → lv_has ls 6 [(0, .ref a0), (1, .int a1), (2, .int a2), (3, .int a3), (4, .int a4)] → W p l e rm_X7_weakest s m args below meth c H locs 0 0 (MQ below (zQi G out.1 out.2) args s 0 0 (zA G)) (F0 m 22 ls [])) {a0 : Nat} {a1 : Int32} {a2 : Int32} {a3 : Int32} {a4 : Int32} {h : zHp} {H : Heap} {locs : List Loc} {ls : Array Slot} (hf : f_X7_weakest_22_body r22 a0 a1 a2 a3 a4 h = some out) (E : zE G s h H locs) (hl : lv_has ls 6 [(0, .ref a0), (1, .int a1), (2, .int a2), (3, .int a3), (4, .int a4)]) : W p l e rm_X7_weakest s m args below meth c H locs 0 0 (MQ below (zQi G out.1 out.2) args s 0 0 (zA G)) (F0 m 22 ls []) := by
  unfold f_X7_weakest_22_body at hf
  refine lv_iload Z.x Z.b dX7_weakest_22 (lv_at hl 4 rfl) ?_
  refine lv_aload_n Z.x Z.b dX7_weakest_24 rfl (lv_at hl 0 rfl) ?_
  refine z_getR Z E q_X7_17 dX7_weakest_25 hf (fun v1 hf => ?_)
  refine z_getI Z E q_X7_92 dX7_weakest_28 hf (fun v2 hf => ?_)
  refine lv_icmp_ge (tgt := 75) Z.x Z.b dX7_weakest_31 (by decide) (fun c => ?_) (fun c => ?_)
  · have hf := zit hf c
    refine lv_iload_n Z.x Z.b dX7_weakest_75 rfl (lv_at hl 2 rfl) ?_
    exact z_iret Z E hr dX7_weakest_76 hf
  · have hf := zif_ hf c
    refine lv_aload_n Z.x Z.b dX7_weakest_34 rfl (lv_at hl 0 rfl) ?_
    refine z_getR Z E q_X7_24 dX7_weakest_35 hf (fun v3 hf => ?_)
    refine lv_aload_n Z.x Z.b dX7_weakest_38 rfl (lv_at hl 0 rfl) ?_
    refine z_getR Z E q_X7_17 dX7_weakest_39 hf (fun v4 hf => ?_)
    refine z_Vv (As := [.ref v4]) Z E hl.1 k_X7_60 v_X5_copyFrom hf (fun h' e => c_X5_copyFrom l G h h' v3 v4 e) rfl rfl (Nat.le_of_ble_eq_true rfl) (zRm_of rfl (Nat.zero_le _) (Nat.zero_le _)) dX7_weakest_42 (fun h5 H locs hf E => ?_)
    refine lv_aload_n Z.x Z.b dX7_weakest_45 rfl (lv_at hl 0 rfl) ?_
    refine z_getR Z E q_X7_24 dX7_weakest_46 hf (fun v6 hf => ?_)
    refine lv_iload Z.x Z.b dX7_weakest_49 (lv_at hl 4 rfl) ?_
    refine lv_iload_n Z.x Z.b dX7_weakest_51 rfl (lv_at hl 1 rfl) ?_
    refine z_Vi (As := [.int a4, .int a1]) Z E hl.1 k_X7_127 v_X5_fallSick hf (fun r h' e => c_X5_fallSick l G h5 h' v6 a4 a1 r e) rfl rfl (Nat.le_of_ble_eq_true rfl) (zRm_of rfl (Nat.zero_le _) (Nat.zero_le _)) dX7_weakest_52 (fun v7 h8 H locs hf E => ?_)
    refine lv_istore (lv' := [(5, .int v7), (0, .ref a0), (1, .int a1), (2, .int a2), (3, .int a3), (4, .int a4)]) Z.x Z.b dX7_weakest_55 hl (by decide) rfl (fun ls hl => ?_)
    refine lv_iload Z.x Z.b dX7_weakest_57 (lv_at hl 0 rfl) ?_
    refine lv_iload_n Z.x Z.b dX7_weakest_59 rfl (lv_at hl 4 rfl) ?_
    refine lv_icmp_le (tgt := 69) Z.x Z.b dX7_weakest_60 (by decide) (fun c => ?_) (fun c => ?_)
    · have hf := zit hf c
      exact t_X7_weakest_69 Z hr k22 hf E (lv_sub hl [1, 2, 3, 4, 5] rfl)
    · have hf := zif_ hf c
      refine lv_iload Z.x Z.b dX7_weakest_63 (lv_at hl 0 rfl) ?_
      refine lv_istore_n (lv' := [(3, .int v7), (5, .int v7), (0, .ref a0), (1, .int a1), (2, .int a2), (4, .int a4)]) Z.x Z.b dX7_weakest_65 rfl hl (by decide) rfl (fun ls hl => ?_)
      refine lv_iload Z.x Z.b dX7_weakest_66 (lv_at hl 5 rfl) ?_
      refine lv_istore_n (lv' := [(2, .int a4), (3, .int v7), (5, .int v7), (0, .ref a0), (1, .int a1), (4, .int a4)]) Z.x Z.b dX7_weakest_68 rfl hl (by decide) rfl (fun ls hl => ?_)
      exact t_X7_weakest_69 Z hr k22 hf E (lv_sub hl [3, 4, 0, 1, 5] rfl)
theorem t_X7_weakest_22 {p : Program} {l : Launch} {e : Env} {s : State} {m : MethodId} {args : Array Value} {below : List Frame} {meth : Method} {c : Code} {G : zG} (Z : zF p s m args c meth cX7_weakest 6 RX7 G) (hr : meth.sig.returnType = (some .int)) {out : Int32 × zHp} : ∀ (n : Nat), ∀ {a0 : Nat} {a1 : Int32} {a2 : Int32} {a3 : Int32} {a4 : Int32} {h : zHp} {H : Heap} {locs : List Loc} {ls : Array Slot}, f_X7_weakest_22 n a0 a1 a2 a3 a4 h = some out → zE G s h H locs → lv_has ls 6 [(0, .ref a0), (1, .int a1), (2, .int a2), (3, .int a3), (4, .int a4)] → W p l e rm_X7_weakest s m args below meth c H locs 0 0 (MQ below (zQi G out.1 out.2) args s 0 0 (zA G)) (F0 m 22 ls [])
  | 0 => fun hf => by cases hf
  | n + 1 => fun hf E hl => t_X7_weakest_22_body Z hr (r22 := f_X7_weakest_22 n) (t_X7_weakest_22 Z hr n) hf E hl
set_option maxHeartbeats 4000000 in
set_option maxRecDepth 20000 in
theorem t_X7_weakest {p : Program} {l : Launch} {e : Env} {s : State} {m : MethodId} {args : Array Value} {below : List Frame} {meth : Method} {c : Code} {G : zG} (Z : zF p s m args c meth cX7_weakest 6 RX7 G) (hr : meth.sig.returnType = (some .int)) {out : Int32 × zHp} {a0 : Nat} {a1 : Int32} {h : zHp} {H : Heap} {locs : List Loc} {ls : Array Slot} (hf : f_X7_weakest a0 a1 h = some out) (E : zE G s h H locs) (hl : lv_has ls 6 [(0, .ref a0), (1, .int a1)]) : W p l e rm_X7_weakest s m args below meth c H locs 0 0 (MQ below (zQi G out.1 out.2) args s 0 0 (zA G)) (F0 m 0 ls []) := by
  unfold f_X7_weakest at hf
  refine lv_iload_n Z.x Z.b dX7_weakest_0 rfl (lv_at hl 1 rfl) ?_
  refine lv_iconst (v := 1) Z.x Z.b dX7_weakest_1 (by decide) ?_
  refine lv_sipush (v := 400) Z.x Z.b dX7_weakest_2 (by decide) ?_
  refine z_Si (As := [.int a1, .int 1, .int 400]) Z E hl.1 k_X7_88 wt_X7_isWithin hf (fun r h' e => c_X7_isWithin l G h h' a1 1 400 r e) rfl rfl (Nat.le_of_ble_eq_true rfl) (zRm_of rfl (Nat.zero_le _) (Nat.zero_le _)) dX7_weakest_5 (fun v1 h2 H locs hf E => ?_)
  refine lv_if_ne (tgt := 14) Z.x Z.b dX7_weakest_8 (by decide) (fun c => ?_) (fun c => ?_)
  · have hf := zif_ hf c
    refine lv_bipush (v := (-5)) Z.x Z.b dX7_weakest_14 (by decide) ?_
    refine lv_istore_n (lv' := [(2, .int (-5)), (0, .ref a0), (1, .int a1)]) Z.x Z.b dX7_weakest_16 rfl hl (by decide) rfl (fun ls hl => ?_)
    refine lv_iconst (v := (-1)) Z.x Z.b dX7_weakest_17 (by decide) ?_
    refine lv_istore_n (lv' := [(3, .int (-1)), (2, .int (-5)), (0, .ref a0), (1, .int a1)]) Z.x Z.b dX7_weakest_18 rfl hl (by decide) rfl (fun ls hl => ?_)
    refine lv_iconst (v := 0) Z.x Z.b dX7_weakest_19 (by decide) ?_
    refine lv_istore (lv' := [(4, .int 0), (3, .int (-1)), (2, .int (-5)), (0, .ref a0), (1, .int a1)]) Z.x Z.b dX7_weakest_20 hl (by decide) rfl (fun ls hl => ?_)
    exact t_X7_weakest_22 Z hr zN hf E (lv_sub hl [3, 4, 2, 1, 0] rfl)
  · have hf := zit hf c
    refine lv_bipush (v := (-2)) Z.x Z.b dX7_weakest_11 (by decide) ?_
    exact z_iret Z E hr dX7_weakest_13 hf
set_option maxHeartbeats 4000000 in
set_option maxRecDepth 20000 in
theorem c_X7_weakest (l : Launch) (G : zG) (h : zHp) (h' : zHp) (a0 : Nat) (a1 : Int32) (r : Int32) (hf : f_X7_weakest a0 a1 h = some (r, h')) : zM0 l yX7_weakest cX7_weakest 6 (some .int) rm_X7_weakest G [.ref a0, .int a1] h (zQi G r h') := by
  refine Met.ofW (cc := cX7_weakest) (maxL := 6) (ret := (some .int)) (by decide) rfl ?_
  intro p e s m args below meth c s₁ B hml hv
  obtain ⟨rfl, hW⟩ := hv
  obtain ⟨Z, E, hr⟩ := zEnter (own := RX7) B hml rfl hW
  have hl := lv_entry ([.ref a0, .int a1]) (n := 6) (Nat.le_of_ble_eq_true rfl)
  rw [lg_entry_eq]
  generalize (lg_sl ([.ref a0, .int a1]) ++ List.replicate (6 - (lg_sl ([.ref a0, .int a1])).length) Slot.unset).toArray = ls at hl ⊢
  have hl : lv_has ls 6 [(0, .ref a0), (1, .int a1)] := hl
  exact t_X7_weakest (out := (r, h')) Z hr hf E hl
/-! FerryCrews.atRisk()I -/
theorem dX7_atRisk_0 : decode cX7_atRisk 0 = .ok (.aload_n 0, 1) := by decide +kernel
theorem dX7_atRisk_1 : decode cX7_atRisk 1 = .ok (.getfield 17, 3) := by decide +kernel
theorem dX7_atRisk_4 : decode cX7_atRisk 4 = .ok (.invokevirtual 264, 3) := by decide +kernel
theorem dX7_atRisk_7 : decode cX7_atRisk 7 = .ok (.ireturn, 1) := by decide +kernel
set_option maxRecDepth 20000 in
theorem wc_X5_firstSailingWithFreePlace : Cond.code yX5_firstSailingWithFreePlace cX5_firstSailingWithFreePlace 5 (some .int) ∈ zB := List.mem_filter.mpr ⟨List.mem_of_getElem? (i := 780) (by decide +kernel), by decide +kernel⟩
set_option maxRecDepth 20000 in
theorem wm_X7_264 : Cond.methodLink RX7 264 yX5_firstSailingWithFreePlace ∈ zB := List.mem_filter.mpr ⟨List.mem_of_getElem? (i := 777) (by decide +kernel), by decide +kernel⟩
theorem k_X7_264 : zCal RX7 264 yX5_firstSailingWithFreePlace cX5_firstSailingWithFreePlace 5 (some .int) 0 := ⟨wm_X7_264, wi_X5, wc_X5_firstSailingWithFreePlace, by decide +kernel, by decide +kernel, by decide +kernel⟩
set_option maxRecDepth 20000 in
theorem wn_X5_firstSailingWithFreePlace : Cond.instanceMethod yX5_firstSailingWithFreePlace ∈ zB := List.mem_filter.mpr ⟨List.mem_of_getElem? (i := 778) (by decide +kernel), by decide +kernel⟩
set_option maxRecDepth 20000 in
theorem ws_X5_firstSailingWithFreePlace : Cond.selects RX5 yX5_firstSailingWithFreePlace yX5_firstSailingWithFreePlace ∈ zB := List.mem_filter.mpr ⟨List.mem_of_getElem? (i := 779) (by decide +kernel), by decide +kernel⟩
theorem v_X5_firstSailingWithFreePlace : zVir yX5_firstSailingWithFreePlace 5 := ⟨wn_X5_firstSailingWithFreePlace, ws_X5_firstSailingWithFreePlace, TX5, 8, rfl⟩
def rm_X7_atRisk : Room := { frames := 3, cells := 0, slots := 0, locals := 66 }
set_option maxHeartbeats 4000000 in
set_option maxRecDepth 20000 in
theorem t_X7_atRisk {p : Program} {l : Launch} {e : Env} {s : State} {m : MethodId} {args : Array Value} {below : List Frame} {meth : Method} {c : Code} {G : zG} (Z : zF p s m args c meth cX7_atRisk 1 RX7 G) (hr : meth.sig.returnType = (some .int)) {out : Int32 × zHp} {a0 : Nat} {h : zHp} {H : Heap} {locs : List Loc} {ls : Array Slot} (hf : f_X7_atRisk a0 h = some out) (E : zE G s h H locs) (hl : lv_has ls 1 [(0, .ref a0)]) : W p l e rm_X7_atRisk s m args below meth c H locs 0 0 (MQ below (zQi G out.1 out.2) args s 0 0 (zA G)) (F0 m 0 ls []) := by
  unfold f_X7_atRisk at hf
  refine lv_aload_n Z.x Z.b dX7_atRisk_0 rfl (lv_at hl 0 rfl) ?_
  refine z_getR Z E q_X7_17 dX7_atRisk_1 hf (fun v1 hf => ?_)
  refine z_Vi (As := []) Z E hl.1 k_X7_264 v_X5_firstSailingWithFreePlace hf (fun r h' e => c_X5_firstSailingWithFreePlace l G h h' v1 r e) rfl rfl (Nat.le_of_ble_eq_true rfl) (zRm_of rfl (Nat.zero_le _) (Nat.zero_le _)) dX7_atRisk_4 (fun v2 h3 H locs hf E => ?_)
  exact z_iret Z E hr dX7_atRisk_7 hf
set_option maxHeartbeats 4000000 in
set_option maxRecDepth 20000 in
theorem c_X7_atRisk (l : Launch) (G : zG) (h : zHp) (h' : zHp) (a0 : Nat) (r : Int32) (hf : f_X7_atRisk a0 h = some (r, h')) : zM0 l yX7_atRisk cX7_atRisk 1 (some .int) rm_X7_atRisk G [.ref a0] h (zQi G r h') := by
  refine Met.ofW (cc := cX7_atRisk) (maxL := 1) (ret := (some .int)) (by decide) rfl ?_
  intro p e s m args below meth c s₁ B hml hv
  obtain ⟨rfl, hW⟩ := hv
  obtain ⟨Z, E, hr⟩ := zEnter (own := RX7) B hml rfl hW
  have hl := lv_entry ([.ref a0]) (n := 1) (Nat.le_of_ble_eq_true rfl)
  rw [lg_entry_eq]
  generalize (lg_sl ([.ref a0]) ++ List.replicate (1 - (lg_sl ([.ref a0])).length) Slot.unset).toArray = ls at hl ⊢
  have hl : lv_has ls 1 [(0, .ref a0)] := hl
  exact t_X7_atRisk (out := (r, h')) Z hr hf E hl
/-! FerryCrews.cancelledIn(I)I -/
theorem dX7_cancelledIn_0 : decode cX7_cancelledIn 0 = .ok (.iload_n 1, 1) := by decide +kernel
theorem dX7_cancelledIn_1 : decode cX7_cancelledIn 1 = .ok (.iconst 1, 1) := by decide +kernel
theorem dX7_cancelledIn_2 : decode cX7_cancelledIn 2 = .ok (.sipush 1000, 3) := by decide +kernel
theorem dX7_cancelledIn_5 : decode cX7_cancelledIn 5 = .ok (.invokestatic 88, 3) := by decide +kernel
theorem dX7_cancelledIn_8 : decode cX7_cancelledIn 8 = .ok (.ifCond .ne 6, 3) := by decide +kernel
theorem dX7_cancelledIn_11 : decode cX7_cancelledIn 11 = .ok (.bipush (-2), 2) := by decide +kernel
theorem dX7_cancelledIn_13 : decode cX7_cancelledIn 13 = .ok (.ireturn, 1) := by decide +kernel
theorem dX7_cancelledIn_14 : decode cX7_cancelledIn 14 = .ok (.aload_n 0, 1) := by decide +kernel
theorem dX7_cancelledIn_15 : decode cX7_cancelledIn 15 = .ok (.getfield 17, 3) := by decide +kernel
theorem dX7_cancelledIn_18 : decode cX7_cancelledIn 18 = .ok (.aload_n 0, 1) := by decide +kernel
theorem dX7_cancelledIn_19 : decode cX7_cancelledIn 19 = .ok (.getfield 17, 3) := by decide +kernel
theorem dX7_cancelledIn_22 : decode cX7_cancelledIn 22 = .ok (.getfield 133, 3) := by decide +kernel
theorem dX7_cancelledIn_25 : decode cX7_cancelledIn 25 = .ok (.iload_n 1, 1) := by decide +kernel
theorem dX7_cancelledIn_26 : decode cX7_cancelledIn 26 = .ok (.iadd, 1) := by decide +kernel
theorem dX7_cancelledIn_27 : decode cX7_cancelledIn 27 = .ok (.invokevirtual 267, 3) := by decide +kernel
theorem dX7_cancelledIn_30 : decode cX7_cancelledIn 30 = .ok (.ireturn, 1) := by decide +kernel
set_option maxRecDepth 20000 in
theorem wc_X5_sailingsToBeCancelledBefore : Cond.code yX5_sailingsToBeCancelledBefore cX5_sailingsToBeCancelledBefore 7 (some .int) ∈ zB := List.mem_filter.mpr ⟨List.mem_of_getElem? (i := 788) (by decide +kernel), by decide +kernel⟩
set_option maxRecDepth 20000 in
theorem wm_X7_267 : Cond.methodLink RX7 267 yX5_sailingsToBeCancelledBefore ∈ zB := List.mem_filter.mpr ⟨List.mem_of_getElem? (i := 785) (by decide +kernel), by decide +kernel⟩
theorem k_X7_267 : zCal RX7 267 yX5_sailingsToBeCancelledBefore cX5_sailingsToBeCancelledBefore 7 (some .int) 1 := ⟨wm_X7_267, wi_X5, wc_X5_sailingsToBeCancelledBefore, by decide +kernel, by decide +kernel, by decide +kernel⟩
set_option maxRecDepth 20000 in
theorem wn_X5_sailingsToBeCancelledBefore : Cond.instanceMethod yX5_sailingsToBeCancelledBefore ∈ zB := List.mem_filter.mpr ⟨List.mem_of_getElem? (i := 786) (by decide +kernel), by decide +kernel⟩
set_option maxRecDepth 20000 in
theorem ws_X5_sailingsToBeCancelledBefore : Cond.selects RX5 yX5_sailingsToBeCancelledBefore yX5_sailingsToBeCancelledBefore ∈ zB := List.mem_filter.mpr ⟨List.mem_of_getElem? (i := 787) (by decide +kernel), by decide +kernel⟩
theorem v_X5_sailingsToBeCancelledBefore : zVir yX5_sailingsToBeCancelledBefore 5 := ⟨wn_X5_sailingsToBeCancelledBefore, ws_X5_sailingsToBeCancelledBefore, TX5, 8, rfl⟩
def rm_X7_cancelledIn : Room := { frames := 3, cells := 0, slots := 0, locals := 68 }
set_option maxHeartbeats 4000000 in
set_option maxRecDepth 20000 in
theorem t_X7_cancelledIn {p : Program} {l : Launch} {e : Env} {s : State} {m : MethodId} {args : Array Value} {below : List Frame} {meth : Method} {c : Code} {G : zG} (Z : zF p s m args c meth cX7_cancelledIn 2 RX7 G) (hr : meth.sig.returnType = (some .int)) {out : Int32 × zHp} {a0 : Nat} {a1 : Int32} {h : zHp} {H : Heap} {locs : List Loc} {ls : Array Slot} (hf : f_X7_cancelledIn a0 a1 h = some out) (E : zE G s h H locs) (hl : lv_has ls 2 [(0, .ref a0), (1, .int a1)]) : W p l e rm_X7_cancelledIn s m args below meth c H locs 0 0 (MQ below (zQi G out.1 out.2) args s 0 0 (zA G)) (F0 m 0 ls []) := by
  unfold f_X7_cancelledIn at hf
  refine lv_iload_n Z.x Z.b dX7_cancelledIn_0 rfl (lv_at hl 1 rfl) ?_
  refine lv_iconst (v := 1) Z.x Z.b dX7_cancelledIn_1 (by decide) ?_
  refine lv_sipush (v := 1000) Z.x Z.b dX7_cancelledIn_2 (by decide) ?_
  refine z_Si (As := [.int a1, .int 1, .int 1000]) Z E hl.1 k_X7_88 wt_X7_isWithin hf (fun r h' e => c_X7_isWithin l G h h' a1 1 1000 r e) rfl rfl (Nat.le_of_ble_eq_true rfl) (zRm_of rfl (Nat.zero_le _) (Nat.zero_le _)) dX7_cancelledIn_5 (fun v1 h2 H locs hf E => ?_)
  refine lv_if_ne (tgt := 14) Z.x Z.b dX7_cancelledIn_8 (by decide) (fun c => ?_) (fun c => ?_)
  · have hf := zif_ hf c
    refine lv_aload_n Z.x Z.b dX7_cancelledIn_14 rfl (lv_at hl 0 rfl) ?_
    refine z_getR Z E q_X7_17 dX7_cancelledIn_15 hf (fun v3 hf => ?_)
    refine lv_aload_n Z.x Z.b dX7_cancelledIn_18 rfl (lv_at hl 0 rfl) ?_
    refine z_getR Z E q_X7_17 dX7_cancelledIn_19 hf (fun v4 hf => ?_)
    refine z_getI Z E q_X7_133 dX7_cancelledIn_22 hf (fun v5 hf => ?_)
    refine lv_iload_n Z.x Z.b dX7_cancelledIn_25 rfl (lv_at hl 1 rfl) ?_
    refine lv_iadd Z.x Z.b dX7_cancelledIn_26 ?_
    refine z_Vi (As := [.int (v5 + a1)]) Z E hl.1 k_X7_267 v_X5_sailingsToBeCancelledBefore hf (fun r h' e => c_X5_sailingsToBeCancelledBefore l G h2 h' v3 (v5 + a1) r e) rfl rfl (Nat.le_of_ble_eq_true rfl) (zRm_of rfl (Nat.zero_le _) (Nat.zero_le _)) dX7_cancelledIn_27 (fun v6 h7 H locs hf E => ?_)
    exact z_iret Z E hr dX7_cancelledIn_30 hf
  · have hf := zit hf c
    refine lv_bipush (v := (-2)) Z.x Z.b dX7_cancelledIn_11 (by decide) ?_
    exact z_iret Z E hr dX7_cancelledIn_13 hf
set_option maxHeartbeats 4000000 in
set_option maxRecDepth 20000 in
theorem c_X7_cancelledIn (l : Launch) (G : zG) (h : zHp) (h' : zHp) (a0 : Nat) (a1 : Int32) (r : Int32) (hf : f_X7_cancelledIn a0 a1 h = some (r, h')) : zM0 l yX7_cancelledIn cX7_cancelledIn 2 (some .int) rm_X7_cancelledIn G [.ref a0, .int a1] h (zQi G r h') := by
  refine Met.ofW (cc := cX7_cancelledIn) (maxL := 2) (ret := (some .int)) (by decide) rfl ?_
  intro p e s m args below meth c s₁ B hml hv
  obtain ⟨rfl, hW⟩ := hv
  obtain ⟨Z, E, hr⟩ := zEnter (own := RX7) B hml rfl hW
  have hl := lv_entry ([.ref a0, .int a1]) (n := 2) (Nat.le_of_ble_eq_true rfl)
  rw [lg_entry_eq]
  generalize (lg_sl ([.ref a0, .int a1]) ++ List.replicate (2 - (lg_sl ([.ref a0, .int a1])).length) Slot.unset).toArray = ls at hl ⊢
  have hl : lv_has ls 2 [(0, .ref a0), (1, .int a1)] := hl
  exact t_X7_cancelledIn (out := (r, h')) Z hr hf E hl
/-! FerryCrews.freshest()I -/
theorem dX7_freshest_0 : decode cX7_freshest 0 = .ok (.bipush (-5), 2) := by decide +kernel
theorem dX7_freshest_2 : decode cX7_freshest 2 = .ok (.istore_n 1, 1) := by decide +kernel
theorem dX7_freshest_3 : decode cX7_freshest 3 = .ok (.iconst 0, 1) := by decide +kernel
theorem dX7_freshest_4 : decode cX7_freshest 4 = .ok (.istore_n 2, 1) := by decide +kernel
theorem dX7_freshest_5 : decode cX7_freshest 5 = .ok (.iconst 0, 1) := by decide +kernel
theorem dX7_freshest_6 : decode cX7_freshest 6 = .ok (.istore_n 3, 1) := by decide +kernel
theorem dX7_freshest_7 : decode cX7_freshest 7 = .ok (.iload_n 3, 1) := by decide +kernel
theorem dX7_freshest_8 : decode cX7_freshest 8 = .ok (.aload_n 0, 1) := by decide +kernel
theorem dX7_freshest_9 : decode cX7_freshest 9 = .ok (.getfield 17, 3) := by decide +kernel
theorem dX7_freshest_12 : decode cX7_freshest 12 = .ok (.getfield 92, 3) := by decide +kernel
theorem dX7_freshest_15 : decode cX7_freshest 15 = .ok (.if_icmp .ge 40, 3) := by decide +kernel
theorem dX7_freshest_18 : decode cX7_freshest 18 = .ok (.aload_n 0, 1) := by decide +kernel
theorem dX7_freshest_19 : decode cX7_freshest 19 = .ok (.getfield 17, 3) := by decide +kernel
theorem dX7_freshest_22 : decode cX7_freshest 22 = .ok (.iload_n 3, 1) := by decide +kernel
theorem dX7_freshest_23 : decode cX7_freshest 23 = .ok (.aconst_null, 1) := by decide +kernel
theorem dX7_freshest_24 : decode cX7_freshest 24 = .ok (.invokevirtual 207, 3) := by decide +kernel
theorem dX7_freshest_27 : decode cX7_freshest 27 = .ok (.getfield 220, 3) := by decide +kernel
theorem dX7_freshest_30 : decode cX7_freshest 30 = .ok (.istore 4, 2) := by decide +kernel
theorem dX7_freshest_32 : decode cX7_freshest 32 = .ok (.iload_n 1, 1) := by decide +kernel
theorem dX7_freshest_33 : decode cX7_freshest 33 = .ok (.bipush (-5), 2) := by decide +kernel
theorem dX7_freshest_35 : decode cX7_freshest 35 = .ok (.if_icmp .eq 9, 3) := by decide +kernel
theorem dX7_freshest_38 : decode cX7_freshest 38 = .ok (.iload 4, 2) := by decide +kernel
theorem dX7_freshest_40 : decode cX7_freshest 40 = .ok (.iload_n 2, 1) := by decide +kernel
theorem dX7_freshest_41 : decode cX7_freshest 41 = .ok (.if_icmp .ge 8, 3) := by decide +kernel
theorem dX7_freshest_44 : decode cX7_freshest 44 = .ok (.iload 4, 2) := by decide +kernel
theorem dX7_freshest_46 : decode cX7_freshest 46 = .ok (.istore_n 2, 1) := by decide +kernel
theorem dX7_freshest_47 : decode cX7_freshest 47 = .ok (.iload_n 3, 1) := by decide +kernel
theorem dX7_freshest_48 : decode cX7_freshest 48 = .ok (.istore_n 1, 1) := by decide +kernel
theorem dX7_freshest_49 : decode cX7_freshest 49 = .ok (.iinc 3 1, 3) := by decide +kernel
theorem dX7_freshest_52 : decode cX7_freshest 52 = .ok (.goto (-45), 3) := by decide +kernel
theorem dX7_freshest_55 : decode cX7_freshest 55 = .ok (.iload_n 1, 1) := by decide +kernel
theorem dX7_freshest_56 : decode cX7_freshest 56 = .ok (.ireturn, 1) := by decide +kernel
def rm_X7_freshest : Room := { frames := 4, cells := 0, slots := 0, locals := 88 }
set_option maxHeartbeats 4000000 in
set_option maxRecDepth 20000 in
theorem t_X7_freshest_49 {p : Program} {l : Launch} {e : Env} {s : State} {m : MethodId} {args : Array Value} {below : List Frame} {meth : Method} {c : Code} {G : zG} (Z : zF p s m args c meth cX7_freshest 5 RX7 G) (hr : meth.sig.returnType = (some .int)) {out : Int32 × zHp} {r7 : Nat → Int32 → Int32 → Int32 → zHp → Option (Int32 × zHp)} (k7 : ∀ {a0 : Nat} {a1 : Int32} {a2 : Int32} {a3 : Int32} {h : zHp} {H : Heap} {locs : List Loc} {ls : Array Slot}, r7 a0 a1 a2 a3 h = some out → zE G s h H locs → lv_has ls 5 [(0, .ref a0), (1, .int a1), (2, .int a2), (3, .int a3)] → W p l e rm_X7_freshest s m args below meth c H locs 0 0 (MQ below (zQi G out.1 out.2) args s 0 0 (zA G)) (F0 m 7 ls [])) {a0 : Nat} {a1 : Int32} {a2 : Int32} {a3 : Int32} {h : zHp} {H : Heap} {locs : List Loc} {ls : Array Slot} (hf : f_X7_freshest_49 r7 a0 a1 a2 a3 h = some out) (E : zE G s h H locs) (hl : lv_has ls 5 [(0, .ref a0), (1, .int a1), (2, .int a2), (3, .int a3)]) : W p l e rm_X7_freshest s m args below meth c H locs 0 0 (MQ below (zQi G out.1 out.2) args s 0 0 (zA G)) (F0 m 49 ls []) := by
  unfold f_X7_freshest_49 at hf
  refine lv_iinc (v := (a3 + 1)) (lv' := [(3, .int (a3 + 1)), (0, .ref a0), (1, .int a1), (2, .int a2)]) Z.x Z.b dX7_freshest_49 hl (k := 3) rfl rfl (by decide) rfl (fun ls hl => ?_)
  refine lv_goto (tgt := 7) Z.x Z.b dX7_freshest_52 (by decide) ?_
  exact k7 hf E (lv_sub hl [1, 2, 3, 0] rfl)
set_option maxHeartbeats 4000000 in
set_option maxRecDepth 20000 in
theorem t_X7_freshest_44 {p : Program} {l : Launch} {e : Env} {s : State} {m : MethodId} {args : Array Value} {below : List Frame} {meth : Method} {c : Code} {G : zG} (Z : zF p s m args c meth cX7_freshest 5 RX7 G) (hr : meth.sig.returnType = (some .int)) {out : Int32 × zHp} {r7 : Nat → Int32 → Int32 → Int32 → zHp → Option (Int32 × zHp)} (k7 : ∀ {a0 : Nat} {a1 : Int32} {a2 : Int32} {a3 : Int32} {h : zHp} {H : Heap} {locs : List Loc} {ls : Array Slot}, r7 a0 a1 a2 a3 h = some out → zE G s h H locs → lv_has ls 5 [(0, .ref a0), (1, .int a1), (2, .int a2), (3, .int a3)] → W p l e rm_X7_freshest s m args below meth c H locs 0 0 (MQ below (zQi G out.1 out.2) args s 0 0 (zA G)) (F0 m 7 ls [])) {a0 : Nat} {a3 : Int32} {a4 : Int32} {h : zHp} {H : Heap} {locs : List Loc} {ls : Array Slot} (hf : f_X7_freshest_44 r7 a0 a3 a4 h = some out) (E : zE G s h H locs) (hl : lv_has ls 5 [(0, .ref a0), (3, .int a3), (4, .int a4)]) : W p l e rm_X7_freshest s m args below meth c H locs 0 0 (MQ below (zQi G out.1 out.2) args s 0 0 (zA G)) (F0 m 44 ls []) := by
  unfold f_X7_freshest_44 at hf
  refine lv_iload Z.x Z.b dX7_freshest_44 (lv_at hl 2 rfl) ?_
  refine lv_istore_n (lv' := [(2, .int a4), (0, .ref a0), (3, .int a3), (4, .int a4)]) Z.x Z.b dX7_freshest_46 rfl hl (by decide) rfl (fun ls hl => ?_)
  refine lv_iload_n Z.x Z.b dX7_freshest_47 rfl (lv_at hl 2 rfl) ?_
  refine lv_istore_n (lv' := [(1, .int a3), (2, .int a4), (0, .ref a0), (3, .int a3), (4, .int a4)]) Z.x Z.b dX7_freshest_48 rfl hl (by decide) rfl (fun ls hl => ?_)
  exact t_X7_freshest_49 Z hr k7 hf E (lv_sub hl [2, 0, 1, 3] rfl)
set_option maxHeartbeats 4000000 in
set_option maxRecDepth 20000 in
theorem t_X7_freshest_7_body {p : Program} {l : Launch} {e : Env} {s : State} {m : MethodId} {args : Array Value} {below : List Frame} {meth : Method} {c : Code} {G : zG} (Z : zF p s m args c meth cX7_freshest 5 RX7 G) (hr : meth.sig.returnType = (some .int)) {out : Int32 × zHp} {r7 : Nat → Int32 → Int32 → Int32 → zHp → Option (Int32 × zHp)} (k7 : ∀ {a0 : Nat} {a1 : Int32} {a2 : Int32} {a3 : Int32} {h : zHp} {H : Heap} {locs : List Loc} {ls : Array Slot}, r7 a0 a1 a2 a3 h = some out → zE G s h H locs → lv_has ls 5 [(0, .ref a0), (1, .int a1), (2, .int a2), (3, .int a3)] → W p l e rm_X7_freshest s m args below meth c H locs 0 0 (MQ below (zQi G out.1 out.2) args s 0 0 (zA G)) (F0 m 7 ls [])) {a0 : Nat} {a1 : Int32} {a2 : Int32} {a3 : Int32} {h : zHp} {H : Heap} {locs : List Loc} {ls : Array Slot} (hf : f_X7_freshest_7_body r7 a0 a1 a2 a3 h = some out) (E : zE G s h H locs) (hl : lv_has ls 5 [(0, .ref a0), (1, .int a1), (2, .int a2), (3, .int a3)]) : W p l e rm_X7_freshest s m args below meth c H locs 0 0 (MQ below (zQi G out.1 out.2) args s 0 0 (zA G)) (F0 m 7 ls []) := by
  unfold f_X7_freshest_7_body at hf
  refine lv_iload_n Z.x Z.b dX7_freshest_7 rfl (lv_at hl 3 rfl) ?_
  refine lv_aload_n Z.x Z.b dX7_freshest_8 rfl (lv_at hl 0 rfl) ?_
  refine z_getR Z E q_X7_17 dX7_freshest_9 hf (fun v1 hf => ?_)
  refine z_getI Z E q_X7_92 dX7_freshest_12 hf (fun v2 hf => ?_)
  refine lv_icmp_ge (tgt := 55) Z.x Z.b dX7_freshest_15 (by decide) (fun c => ?_) (fun c => ?_)
  · have hf := zit hf c
    refine lv_iload_n Z.x Z.b dX7_freshest_55 rfl (lv_at hl 1 rfl) ?_
    exact z_iret Z E hr dX7_freshest_56 hf
  · have hf := zif_ hf c
    refine lv_aload_n Z.x Z.b dX7_freshest_18 rfl (lv_at hl 0 rfl) ?_
    refine z_getR Z E q_X7_17 dX7_freshest_19 hf (fun v3 hf => ?_)
    refine lv_iload_n Z.x Z.b dX7_freshest_22 rfl (lv_at hl 3 rfl) ?_
    refine lv_null Z.x Z.b dX7_freshest_23 ?_
    refine z_Vq (As := [.int a3, va_rf none]) Z E hl.1 k_X7_207 v_X5_dutiesOf hf (fun r h' e => c_X5_dutiesOf l G h h' v3 a3 none r e) rfl rfl (Nat.le_of_ble_eq_true rfl) (zRm_of rfl (Nat.zero_le _) (Nat.zero_le _)) dX7_freshest_24 (fun w4 h5 H locs hf E => ?_)
    obtain ⟨v6, ex, h8_24⟩ := zopt_inv hf
    subst ex
    have hf := h8_24
    refine z_getI Z E q_X7_220 dX7_freshest_27 hf (fun v7 hf => ?_)
    refine lv_istore (lv' := [(4, .int v7), (0, .ref a0), (1, .int a1), (2, .int a2), (3, .int a3)]) Z.x Z.b dX7_freshest_30 hl (by decide) rfl (fun ls hl => ?_)
    refine lv_iload_n Z.x Z.b dX7_freshest_32 rfl (lv_at hl 2 rfl) ?_
    refine lv_bipush (v := (-5)) Z.x Z.b dX7_freshest_33 (by decide) ?_
    refine lv_icmp_eq (tgt := 44) Z.x Z.b dX7_freshest_35 (by decide) (fun c => ?_) (fun c => ?_)
    · have hf := zit hf c
      exact t_X7_freshest_44 Z hr k7 hf E (lv_sub hl [1, 4, 0] rfl)
    · have hf := zif_ hf c
      refine lv_iload Z.x Z.b dX7_freshest_38 (lv_at hl 0 rfl) ?_
      refine lv_iload_n Z.x Z.b dX7_freshest_40 rfl (lv_at hl 3 rfl) ?_
      refine lv_icmp_ge (tgt := 49) Z.x Z.b dX7_freshest_41 (by decide) (fun c => ?_) (fun c => ?_)
      · have hf := zit hf c
        exact t_X7_freshest_49 Z hr k7 hf E (lv_sub hl [1, 2, 3, 4] rfl)
      · have hf := zif_ hf c
        exact t_X7_freshest_44 Z hr k7 hf E (lv_sub hl [1, 4, 0] rfl)
theorem t_X7_freshest_7 {p : Program} {l : Launch} {e : Env} {s : State} {m : MethodId} {args : Array Value} {below : List Frame} {meth : Method} {c : Code} {G : zG} (Z : zF p s m args c meth cX7_freshest 5 RX7 G) (hr : meth.sig.returnType = (some .int)) {out : Int32 × zHp} : ∀ (n : Nat), ∀ {a0 : Nat} {a1 : Int32} {a2 : Int32} {a3 : Int32} {h : zHp} {H : Heap} {locs : List Loc} {ls : Array Slot}, f_X7_freshest_7 n a0 a1 a2 a3 h = some out → zE G s h H locs → lv_has ls 5 [(0, .ref a0), (1, .int a1), (2, .int a2), (3, .int a3)] → W p l e rm_X7_freshest s m args below meth c H locs 0 0 (MQ below (zQi G out.1 out.2) args s 0 0 (zA G)) (F0 m 7 ls [])
  | 0 => fun hf => by cases hf
  | n + 1 => fun hf E hl => t_X7_freshest_7_body Z hr (r7 := f_X7_freshest_7 n) (t_X7_freshest_7 Z hr n) hf E hl
set_option maxHeartbeats 4000000 in
set_option maxRecDepth 20000 in
theorem t_X7_freshest {p : Program} {l : Launch} {e : Env} {s : State} {m : MethodId} {args : Array Value} {below : List Frame} {meth : Method} {c : Code} {G : zG} (Z : zF p s m args c meth cX7_freshest 5 RX7 G) (hr : meth.sig.returnType = (some .int)) {out : Int32 × zHp} {a0 : Nat} {h : zHp} {H : Heap} {locs : List Loc} {ls : Array Slot} (hf : f_X7_freshest a0 h = some out) (E : zE G s h H locs) (hl : lv_has ls 5 [(0, .ref a0)]) : W p l e rm_X7_freshest s m args below meth c H locs 0 0 (MQ below (zQi G out.1 out.2) args s 0 0 (zA G)) (F0 m 0 ls []) := by
  unfold f_X7_freshest at hf
  refine lv_bipush (v := (-5)) Z.x Z.b dX7_freshest_0 (by decide) ?_
  refine lv_istore_n (lv' := [(1, .int (-5)), (0, .ref a0)]) Z.x Z.b dX7_freshest_2 rfl hl (by decide) rfl (fun ls hl => ?_)
  refine lv_iconst (v := 0) Z.x Z.b dX7_freshest_3 (by decide) ?_
  refine lv_istore_n (lv' := [(2, .int 0), (1, .int (-5)), (0, .ref a0)]) Z.x Z.b dX7_freshest_4 rfl hl (by decide) rfl (fun ls hl => ?_)
  refine lv_iconst (v := 0) Z.x Z.b dX7_freshest_5 (by decide) ?_
  refine lv_istore_n (lv' := [(3, .int 0), (2, .int 0), (1, .int (-5)), (0, .ref a0)]) Z.x Z.b dX7_freshest_6 rfl hl (by decide) rfl (fun ls hl => ?_)
  exact t_X7_freshest_7 Z hr zN hf E (lv_sub hl [3, 2, 1, 0] rfl)
set_option maxHeartbeats 4000000 in
set_option maxRecDepth 20000 in
theorem c_X7_freshest (l : Launch) (G : zG) (h : zHp) (h' : zHp) (a0 : Nat) (r : Int32) (hf : f_X7_freshest a0 h = some (r, h')) : zM0 l yX7_freshest cX7_freshest 5 (some .int) rm_X7_freshest G [.ref a0] h (zQi G r h') := by
  refine Met.ofW (cc := cX7_freshest) (maxL := 5) (ret := (some .int)) (by decide) rfl ?_
  intro p e s m args below meth c s₁ B hml hv
  obtain ⟨rfl, hW⟩ := hv
  obtain ⟨Z, E, hr⟩ := zEnter (own := RX7) B hml rfl hW
  have hl := lv_entry ([.ref a0]) (n := 5) (Nat.le_of_ble_eq_true rfl)
  rw [lg_entry_eq]
  generalize (lg_sl ([.ref a0]) ++ List.replicate (5 - (lg_sl ([.ref a0])).length) Slot.unset).toArray = ls at hl ⊢
  have hl : lv_has ls 5 [(0, .ref a0)] := hl
  exact t_X7_freshest (out := (r, h')) Z hr hf E hl
/-! FerryCrewsModel.<init>()V -/
theorem dX8_init_0 : decode cX8_init 0 = .ok (.aload_n 0, 1) := by decide +kernel
theorem dX8_init_1 : decode cX8_init 1 = .ok (.invokespecial 1, 3) := by decide +kernel
theorem dX8_init_4 : decode cX8_init 4 = .ok (.aload_n 0, 1) := by decide +kernel
theorem dX8_init_5 : decode cX8_init 5 = .ok (.sipush 1093, 3) := by decide +kernel
theorem dX8_init_8 : decode cX8_init 8 = .ok (.newarray .int, 2) := by decide +kernel
theorem dX8_init_10 : decode cX8_init 10 = .ok (.putfield 7, 3) := by decide +kernel
theorem dX8_init_13 : decode cX8_init 13 = .ok (.aload_n 0, 1) := by decide +kernel
theorem dX8_init_14 : decode cX8_init 14 = .ok (.sipush 1093, 3) := by decide +kernel
theorem dX8_init_17 : decode cX8_init 17 = .ok (.newarray .int, 2) := by decide +kernel
theorem dX8_init_19 : decode cX8_init 19 = .ok (.putfield 13, 3) := by decide +kernel
theorem dX8_init_22 : decode cX8_init 22 = .ok (.aload_n 0, 1) := by decide +kernel
theorem dX8_init_23 : decode cX8_init 23 = .ok (.sipush 1093, 3) := by decide +kernel
theorem dX8_init_26 : decode cX8_init 26 = .ok (.newarray .int, 2) := by decide +kernel
theorem dX8_init_28 : decode cX8_init 28 = .ok (.putfield 16, 3) := by decide +kernel
theorem dX8_init_31 : decode cX8_init 31 = .ok (.aload_n 0, 1) := by decide +kernel
theorem dX8_init_32 : decode cX8_init 32 = .ok (.sipush 4372, 3) := by decide +kernel
theorem dX8_init_35 : decode cX8_init 35 = .ok (.newarray .int, 2) := by decide +kernel
theorem dX8_init_37 : decode cX8_init 37 = .ok (.putfield 19, 3) := by decide +kernel
theorem dX8_init_40 : decode cX8_init 40 = .ok (.aload_n 0, 1) := by decide +kernel
theorem dX8_init_41 : decode cX8_init 41 = .ok (.bipush 60, 2) := by decide +kernel
theorem dX8_init_43 : decode cX8_init 43 = .ok (.newarray .int, 2) := by decide +kernel
theorem dX8_init_45 : decode cX8_init 45 = .ok (.putfield 22, 3) := by decide +kernel
theorem dX8_init_48 : decode cX8_init 48 = .ok (.aload_n 0, 1) := by decide +kernel
theorem dX8_init_49 : decode cX8_init 49 = .ok (.iconst 4, 1) := by decide +kernel
theorem dX8_init_50 : decode cX8_init 50 = .ok (.newarray .int, 2) := by decide +kernel
theorem dX8_init_52 : decode cX8_init 52 = .ok (.putfield 25, 3) := by decide +kernel
theorem dX8_init_55 : decode cX8_init 55 = .ok (.aload_n 0, 1) := by decide +kernel
theorem dX8_init_56 : decode cX8_init 56 = .ok (.sipush 1200, 3) := by decide +kernel
theorem dX8_init_59 : decode cX8_init 59 = .ok (.newarray .int, 2) := by decide +kernel
theorem dX8_init_61 : decode cX8_init 61 = .ok (.putfield 28, 3) := by decide +kernel
theorem dX8_init_64 : decode cX8_init 64 = .ok (.aload_n 0, 1) := by decide +kernel
theorem dX8_init_65 : decode cX8_init 65 = .ok (.bipush 48, 2) := by decide +kernel
theorem dX8_init_67 : decode cX8_init 67 = .ok (.newarray .int, 2) := by decide +kernel
theorem dX8_init_69 : decode cX8_init 69 = .ok (.putfield 31, 3) := by decide +kernel
theorem dX8_init_72 : decode cX8_init 72 = .ok (.aload_n 0, 1) := by decide +kernel
theorem dX8_init_73 : decode cX8_init 73 = .ok (.getfield 7, 3) := by decide +kernel
theorem dX8_init_76 : decode cX8_init 76 = .ok (.iconst 4, 1) := by decide +kernel
theorem dX8_init_77 : decode cX8_init 77 = .ok (.bipush 10, 2) := by decide +kernel
theorem dX8_init_79 : decode cX8_init 79 = .ok (.iastore, 1) := by decide +kernel
theorem dX8_init_80 : decode cX8_init 80 = .ok (.aload_n 0, 1) := by decide +kernel
theorem dX8_init_81 : decode cX8_init 81 = .ok (.getfield 7, 3) := by decide +kernel
theorem dX8_init_84 : decode cX8_init 84 = .ok (.iconst 5, 1) := by decide +kernel
theorem dX8_init_85 : decode cX8_init 85 = .ok (.bipush 6, 2) := by decide +kernel
theorem dX8_init_87 : decode cX8_init 87 = .ok (.iastore, 1) := by decide +kernel
theorem dX8_init_88 : decode cX8_init 88 = .ok (.aload_n 0, 1) := by decide +kernel
theorem dX8_init_89 : decode cX8_init 89 = .ok (.getfield 7, 3) := by decide +kernel
theorem dX8_init_92 : decode cX8_init 92 = .ok (.bipush 6, 2) := by decide +kernel
theorem dX8_init_94 : decode cX8_init 94 = .ok (.bipush 77, 2) := by decide +kernel
theorem dX8_init_96 : decode cX8_init 96 = .ok (.iastore, 1) := by decide +kernel
theorem dX8_init_97 : decode cX8_init 97 = .ok (.aload_n 0, 1) := by decide +kernel
theorem dX8_init_98 : decode cX8_init 98 = .ok (.getfield 7, 3) := by decide +kernel
theorem dX8_init_101 : decode cX8_init 101 = .ok (.bipush 7, 2) := by decide +kernel
theorem dX8_init_103 : decode cX8_init 103 = .ok (.iconst 1, 1) := by decide +kernel
theorem dX8_init_104 : decode cX8_init 104 = .ok (.iastore, 1) := by decide +kernel
theorem dX8_init_105 : decode cX8_init 105 = .ok (.aload_n 0, 1) := by decide +kernel
theorem dX8_init_106 : decode cX8_init 106 = .ok (.getfield 7, 3) := by decide +kernel
theorem dX8_init_109 : decode cX8_init 109 = .ok (.bipush 8, 2) := by decide +kernel
theorem dX8_init_111 : decode cX8_init 111 = .ok (.bipush 48, 2) := by decide +kernel
theorem dX8_init_113 : decode cX8_init 113 = .ok (.iastore, 1) := by decide +kernel
theorem dX8_init_114 : decode cX8_init 114 = .ok (.return_, 1) := by decide +kernel
set_option maxRecDepth 20000 in
theorem wo_X8_1 : Cond.methodLink RX8 1 objectInit ∈ zB := List.mem_filter.mpr ⟨List.mem_of_getElem? (i := 798) (by decide +kernel), by decide +kernel⟩
set_option maxRecDepth 20000 in
theorem wf_X8_7 : Cond.fieldLink RX8 7 RX8 "now" "[I" ∈ zB := List.mem_filter.mpr ⟨List.mem_of_getElem? (i := 799) (by decide +kernel), by decide +kernel⟩
theorem p_X8_7 : zPut RX8 7 8 0 true (.array .int) := ⟨RX8, TX8, 12, tyX8, rfl, by decide, iX8, wf_X8_7, rfl, tyX8_ok, nmX8, rfl, by decide +kernel, fun _ => rfl⟩
set_option maxRecDepth 20000 in
theorem wf_X8_13 : Cond.fieldLink RX8 13 RX8 "slot" "[I" ∈ zB := List.mem_filter.mpr ⟨List.mem_of_getElem? (i := 800) (by decide +kernel), by decide +kernel⟩
theorem p_X8_13 : zPut RX8 13 8 1 true (.array .int) := ⟨RX8, TX8, 12, tyX8, rfl, by decide, iX8, wf_X8_13, rfl, tyX8_ok, nmX8, rfl, by decide +kernel, fun _ => rfl⟩
set_option maxRecDepth 20000 in
theorem wf_X8_16 : Cond.fieldLink RX8 16 RX8 "beside" "[I" ∈ zB := List.mem_filter.mpr ⟨List.mem_of_getElem? (i := 801) (by decide +kernel), by decide +kernel⟩
theorem p_X8_16 : zPut RX8 16 8 2 true (.array .int) := ⟨RX8, TX8, 12, tyX8, rfl, by decide, iX8, wf_X8_16, rfl, tyX8_ok, nmX8, rfl, by decide +kernel, fun _ => rfl⟩
set_option maxRecDepth 20000 in
theorem wf_X8_19 : Cond.fieldLink RX8 19 RX8 "history" "[I" ∈ zB := List.mem_filter.mpr ⟨List.mem_of_getElem? (i := 802) (by decide +kernel), by decide +kernel⟩
theorem p_X8_19 : zPut RX8 19 8 3 true (.array .int) := ⟨RX8, TX8, 12, tyX8, rfl, by decide, iX8, wf_X8_19, rfl, tyX8_ok, nmX8, rfl, by decide +kernel, fun _ => rfl⟩
set_option maxRecDepth 20000 in
theorem wf_X8_22 : Cond.fieldLink RX8 22 RX8 "text" "[I" ∈ zB := List.mem_filter.mpr ⟨List.mem_of_getElem? (i := 803) (by decide +kernel), by decide +kernel⟩
theorem p_X8_22 : zPut RX8 22 8 4 true (.array .int) := ⟨RX8, TX8, 12, tyX8, rfl, by decide, iX8, wf_X8_22, rfl, tyX8_ok, nmX8, rfl, by decide +kernel, fun _ => rfl⟩
set_option maxRecDepth 20000 in
theorem wf_X8_25 : Cond.fieldLink RX8 25 RX8 "read" "[I" ∈ zB := List.mem_filter.mpr ⟨List.mem_of_getElem? (i := 804) (by decide +kernel), by decide +kernel⟩
theorem p_X8_25 : zPut RX8 25 8 5 true (.array .int) := ⟨RX8, TX8, 12, tyX8, rfl, by decide, iX8, wf_X8_25, rfl, tyX8_ok, nmX8, rfl, by decide +kernel, fun _ => rfl⟩
set_option maxRecDepth 20000 in
theorem wf_X8_28 : Cond.fieldLink RX8 28 RX8 "duty" "[I" ∈ zB := List.mem_filter.mpr ⟨List.mem_of_getElem? (i := 805) (by decide +kernel), by decide +kernel⟩
theorem p_X8_28 : zPut RX8 28 8 6 true (.array .int) := ⟨RX8, TX8, 12, tyX8, rfl, by decide, iX8, wf_X8_28, rfl, tyX8_ok, nmX8, rfl, by decide +kernel, fun _ => rfl⟩
set_option maxRecDepth 20000 in
theorem wf_X8_31 : Cond.fieldLink RX8 31 RX8 "gaveUp" "[I" ∈ zB := List.mem_filter.mpr ⟨List.mem_of_getElem? (i := 806) (by decide +kernel), by decide +kernel⟩
theorem p_X8_31 : zPut RX8 31 8 7 true (.array .int) := ⟨RX8, TX8, 12, tyX8, rfl, by decide, iX8, wf_X8_31, rfl, tyX8_ok, nmX8, rfl, by decide +kernel, fun _ => rfl⟩
theorem q_X8_7 : zFld RX8 7 8 0 := ⟨RX8, TX8, 12, rfl, by decide, iX8, wf_X8_7, rfl⟩
def rm_X8_init : Room := { frames := 1, cells := 8, slots := 8963, locals := 20 }
set_option maxHeartbeats 4000000 in
set_option maxRecDepth 20000 in
theorem t_X8_init {p : Program} {l : Launch} {e : Env} {s : State} {m : MethodId} {args : Array Value} {below : List Frame} {meth : Method} {c : Code} {G : zG} (Z : zF p s m args c meth cX8_init 1 RX8 G) (hr : meth.sig.returnType = none) (hin : meth.name = "<init>") {out : zHp} {a0 : Nat} {h : zHp} {H : Heap} {locs : List Loc} {ls : Array Slot} {cells slots : Nat} (hf : f_X8_init a0 h = some out) (E : zE G s h H locs) (hl : lv_has ls 1 [(0, .ref a0)]) (hc : cells + 8 ≤ 8) (hs : slots + 8963 ≤ 8963) : W p l e rm_X8_init s m args below meth c H locs cells slots (MQ below (zQv G out) args s 8 8963 (zA G)) (F0 m 0 ls []) := by
  unfold f_X8_init at hf
  refine lv_aload_n Z.x Z.b dX8_init_0 rfl (lv_at hl 0 rfl) ?_
  refine z_obj Z E hl.1 wo_X8_1 wo_inst wo_code dX8_init_1 (by decide) (by decide) ?_
  refine lv_aload_n Z.x Z.b dX8_init_4 rfl (lv_at hl 0 rfl) ?_
  refine lv_sipush (v := 1093) Z.x Z.b dX8_init_5 (by decide) ?_
  refine z_newi (N := 1093) Z E wr_0 (by decide) (by decide) (by decide) (show _ ≤ 8 by omega) (show _ ≤ 8963 by omega) dX8_init_8 hf (fun q1 h2 H hf E => ?_)
  refine z_putF Z E hin p_X8_7 rfl rfl dX8_init_10 hf (fun h3 H locs hf E => ?_)
  refine lv_aload_n Z.x Z.b dX8_init_13 rfl (lv_at hl 0 rfl) ?_
  refine lv_sipush (v := 1093) Z.x Z.b dX8_init_14 (by decide) ?_
  refine z_newi (N := 1093) Z E wr_0 (by decide) (by decide) (by decide) (show _ ≤ 8 by omega) (show _ ≤ 8963 by omega) dX8_init_17 hf (fun q4 h5 H hf E => ?_)
  refine z_putF Z E hin p_X8_13 rfl rfl dX8_init_19 hf (fun h6 H locs hf E => ?_)
  refine lv_aload_n Z.x Z.b dX8_init_22 rfl (lv_at hl 0 rfl) ?_
  refine lv_sipush (v := 1093) Z.x Z.b dX8_init_23 (by decide) ?_
  refine z_newi (N := 1093) Z E wr_0 (by decide) (by decide) (by decide) (show _ ≤ 8 by omega) (show _ ≤ 8963 by omega) dX8_init_26 hf (fun q7 h8 H hf E => ?_)
  refine z_putF Z E hin p_X8_16 rfl rfl dX8_init_28 hf (fun h9 H locs hf E => ?_)
  refine lv_aload_n Z.x Z.b dX8_init_31 rfl (lv_at hl 0 rfl) ?_
  refine lv_sipush (v := 4372) Z.x Z.b dX8_init_32 (by decide) ?_
  refine z_newi (N := 4372) Z E wr_0 (by decide) (by decide) (by decide) (show _ ≤ 8 by omega) (show _ ≤ 8963 by omega) dX8_init_35 hf (fun q10 h11 H hf E => ?_)
  refine z_putF Z E hin p_X8_19 rfl rfl dX8_init_37 hf (fun h12 H locs hf E => ?_)
  refine lv_aload_n Z.x Z.b dX8_init_40 rfl (lv_at hl 0 rfl) ?_
  refine lv_bipush (v := 60) Z.x Z.b dX8_init_41 (by decide) ?_
  refine z_newi (N := 60) Z E wr_0 (by decide) (by decide) (by decide) (show _ ≤ 8 by omega) (show _ ≤ 8963 by omega) dX8_init_43 hf (fun q13 h14 H hf E => ?_)
  refine z_putF Z E hin p_X8_22 rfl rfl dX8_init_45 hf (fun h15 H locs hf E => ?_)
  refine lv_aload_n Z.x Z.b dX8_init_48 rfl (lv_at hl 0 rfl) ?_
  refine lv_iconst (v := 4) Z.x Z.b dX8_init_49 (by decide) ?_
  refine z_newi (N := 4) Z E wr_0 (by decide) (by decide) (by decide) (show _ ≤ 8 by omega) (show _ ≤ 8963 by omega) dX8_init_50 hf (fun q16 h17 H hf E => ?_)
  refine z_putF Z E hin p_X8_25 rfl rfl dX8_init_52 hf (fun h18 H locs hf E => ?_)
  refine lv_aload_n Z.x Z.b dX8_init_55 rfl (lv_at hl 0 rfl) ?_
  refine lv_sipush (v := 1200) Z.x Z.b dX8_init_56 (by decide) ?_
  refine z_newi (N := 1200) Z E wr_0 (by decide) (by decide) (by decide) (show _ ≤ 8 by omega) (show _ ≤ 8963 by omega) dX8_init_59 hf (fun q19 h20 H hf E => ?_)
  refine z_putF Z E hin p_X8_28 rfl rfl dX8_init_61 hf (fun h21 H locs hf E => ?_)
  refine lv_aload_n Z.x Z.b dX8_init_64 rfl (lv_at hl 0 rfl) ?_
  refine lv_bipush (v := 48) Z.x Z.b dX8_init_65 (by decide) ?_
  refine z_newi (N := 48) Z E wr_0 (by decide) (by decide) (by decide) (show _ ≤ 8 by omega) (show _ ≤ 8963 by omega) dX8_init_67 hf (fun q22 h23 H hf E => ?_)
  refine z_putF Z E hin p_X8_31 rfl rfl dX8_init_69 hf (fun h24 H locs hf E => ?_)
  refine lv_aload_n Z.x Z.b dX8_init_72 rfl (lv_at hl 0 rfl) ?_
  refine z_getR Z E q_X8_7 dX8_init_73 hf (fun v25 hf => ?_)
  refine lv_iconst (v := 4) Z.x Z.b dX8_init_76 (by decide) ?_
  refine lv_bipush (v := 10) Z.x Z.b dX8_init_77 (by decide) ?_
  refine z_iast Z E dX8_init_79 hf (fun h26 H locs hf E => ?_)
  refine lv_aload_n Z.x Z.b dX8_init_80 rfl (lv_at hl 0 rfl) ?_
  refine z_getR Z E q_X8_7 dX8_init_81 hf (fun v27 hf => ?_)
  refine lv_iconst (v := 5) Z.x Z.b dX8_init_84 (by decide) ?_
  refine lv_bipush (v := 6) Z.x Z.b dX8_init_85 (by decide) ?_
  refine z_iast Z E dX8_init_87 hf (fun h28 H locs hf E => ?_)
  refine lv_aload_n Z.x Z.b dX8_init_88 rfl (lv_at hl 0 rfl) ?_
  refine z_getR Z E q_X8_7 dX8_init_89 hf (fun v29 hf => ?_)
  refine lv_bipush (v := 6) Z.x Z.b dX8_init_92 (by decide) ?_
  refine lv_bipush (v := 77) Z.x Z.b dX8_init_94 (by decide) ?_
  refine z_iast Z E dX8_init_96 hf (fun h30 H locs hf E => ?_)
  refine lv_aload_n Z.x Z.b dX8_init_97 rfl (lv_at hl 0 rfl) ?_
  refine z_getR Z E q_X8_7 dX8_init_98 hf (fun v31 hf => ?_)
  refine lv_bipush (v := 7) Z.x Z.b dX8_init_101 (by decide) ?_
  refine lv_iconst (v := 1) Z.x Z.b dX8_init_103 (by decide) ?_
  refine z_iast Z E dX8_init_104 hf (fun h32 H locs hf E => ?_)
  refine lv_aload_n Z.x Z.b dX8_init_105 rfl (lv_at hl 0 rfl) ?_
  refine z_getR Z E q_X8_7 dX8_init_106 hf (fun v33 hf => ?_)
  refine lv_bipush (v := 8) Z.x Z.b dX8_init_109 (by decide) ?_
  refine lv_bipush (v := 48) Z.x Z.b dX8_init_111 (by decide) ?_
  refine z_iast Z E dX8_init_113 hf (fun h34 H locs hf E => ?_)
  refine W.widen (k := 8) (n := 8963) (by omega) (by omega) ?_
  exact z_vret Z E hr dX8_init_114 hf
set_option maxHeartbeats 4000000 in
set_option maxRecDepth 20000 in
theorem c_X8_init (l : Launch) (G : zG) (h : zHp) (h' : zHp) (a0 : Nat) (hf : f_X8_init a0 h = some h') : zMn l yX8_init cX8_init 1 rm_X8_init 8 8963 G [.ref a0] h h' := by
  refine Met.ofW (cc := cX8_init) (maxL := 1) (ret := none) (by decide) rfl ?_
  intro p e s m args below meth c s₁ B hml hv
  obtain ⟨rfl, hW⟩ := hv
  obtain ⟨Z, E, hr⟩ := zEnter (own := RX8) B hml rfl hW
  have hin : meth.name = "<init>" := (name_of_methodNamed B.named B.method).1
  have hl := lv_entry ([.ref a0]) (n := 1) (Nat.le_of_ble_eq_true rfl)
  rw [lg_entry_eq]
  generalize (lg_sl ([.ref a0]) ++ List.replicate (1 - (lg_sl ([.ref a0])).length) Slot.unset).toArray = ls at hl ⊢
  have hl : lv_has ls 1 [(0, .ref a0)] := hl
  exact t_X8_init (out := h') Z hr hin hf E hl (by decide) (by decide)
/-! FerryCrewsModel.in(III)Z -/
theorem dX8_in_0 : decode cX8_in 0 = .ok (.iload_n 0, 1) := by decide +kernel
theorem dX8_in_1 : decode cX8_in 1 = .ok (.iload_n 1, 1) := by decide +kernel
theorem dX8_in_2 : decode cX8_in 2 = .ok (.if_icmp .lt 12, 3) := by decide +kernel
theorem dX8_in_5 : decode cX8_in 5 = .ok (.iload_n 0, 1) := by decide +kernel
theorem dX8_in_6 : decode cX8_in 6 = .ok (.iload_n 2, 1) := by decide +kernel
theorem dX8_in_7 : decode cX8_in 7 = .ok (.if_icmp .gt 7, 3) := by decide +kernel
theorem dX8_in_10 : decode cX8_in 10 = .ok (.iconst 1, 1) := by decide +kernel
theorem dX8_in_11 : decode cX8_in 11 = .ok (.goto 4, 3) := by decide +kernel
theorem dX8_in_14 : decode cX8_in 14 = .ok (.iconst 0, 1) := by decide +kernel
theorem dX8_in_15 : decode cX8_in 15 = .ok (.ireturn, 1) := by decide +kernel
def rm_X8_in : Room := { frames := 0, cells := 0, slots := 0, locals := 0 }
set_option maxHeartbeats 4000000 in
set_option maxRecDepth 20000 in
theorem t_X8_in_14 {p : Program} {l : Launch} {e : Env} {s : State} {m : MethodId} {args : Array Value} {below : List Frame} {meth : Method} {c : Code} {G : zG} (Z : zF p s m args c meth cX8_in 3 RX8 G) (hr : meth.sig.returnType = (some .boolean)) {out : Int32 × zHp} {h : zHp} {H : Heap} {locs : List Loc} {ls : Array Slot} (hf : f_X8_in_14 h = some out) (E : zE G s h H locs) (hl : lv_has ls 3 []) : W p l e rm_X8_in s m args below meth c H locs 0 0 (MQ below (zQi G out.1 out.2) args s 0 0 (zA G)) (F0 m 14 ls []) := by
  unfold f_X8_in_14 at hf
  refine lv_iconst (v := 0) Z.x Z.b dX8_in_14 (by decide) ?_
  exact z_zret Z E hr dX8_in_15 hf
set_option maxHeartbeats 4000000 in
set_option maxRecDepth 20000 in
theorem t_X8_in {p : Program} {l : Launch} {e : Env} {s : State} {m : MethodId} {args : Array Value} {below : List Frame} {meth : Method} {c : Code} {G : zG} (Z : zF p s m args c meth cX8_in 3 RX8 G) (hr : meth.sig.returnType = (some .boolean)) {out : Int32 × zHp} {a0 : Int32} {a1 : Int32} {a2 : Int32} {h : zHp} {H : Heap} {locs : List Loc} {ls : Array Slot} (hf : f_X8_in a0 a1 a2 h = some out) (E : zE G s h H locs) (hl : lv_has ls 3 [(0, .int a0), (1, .int a1), (2, .int a2)]) : W p l e rm_X8_in s m args below meth c H locs 0 0 (MQ below (zQi G out.1 out.2) args s 0 0 (zA G)) (F0 m 0 ls []) := by
  unfold f_X8_in at hf
  refine lv_iload_n Z.x Z.b dX8_in_0 rfl (lv_at hl 0 rfl) ?_
  refine lv_iload_n Z.x Z.b dX8_in_1 rfl (lv_at hl 1 rfl) ?_
  refine lv_icmp_lt (tgt := 14) Z.x Z.b dX8_in_2 (by decide) (fun c => ?_) (fun c => ?_)
  · have hf := zit hf c
    exact t_X8_in_14 Z hr hf E (lv_sub hl [] rfl)
  · have hf := zif_ hf c
    refine lv_iload_n Z.x Z.b dX8_in_5 rfl (lv_at hl 0 rfl) ?_
    refine lv_iload_n Z.x Z.b dX8_in_6 rfl (lv_at hl 2 rfl) ?_
    refine lv_icmp_gt (tgt := 14) Z.x Z.b dX8_in_7 (by decide) (fun c => ?_) (fun c => ?_)
    · have hf := zit hf c
      exact t_X8_in_14 Z hr hf E (lv_sub hl [] rfl)
    · have hf := zif_ hf c
      refine lv_iconst (v := 1) Z.x Z.b dX8_in_10 (by decide) ?_
      refine lv_goto (tgt := 15) Z.x Z.b dX8_in_11 (by decide) ?_
      exact z_zret Z E hr dX8_in_15 hf
set_option maxHeartbeats 4000000 in
set_option maxRecDepth 20000 in
theorem c_X8_in (l : Launch) (G : zG) (h : zHp) (h' : zHp) (a0 : Int32) (a1 : Int32) (a2 : Int32) (r : Int32) (hf : f_X8_in a0 a1 a2 h = some (r, h')) : zM0 l yX8_in cX8_in 3 (some .boolean) rm_X8_in G [.int a0, .int a1, .int a2] h (zQi G r h') := by
  refine Met.ofW (cc := cX8_in) (maxL := 3) (ret := (some .boolean)) (by decide) rfl ?_
  intro p e s m args below meth c s₁ B hml hv
  obtain ⟨rfl, hW⟩ := hv
  obtain ⟨Z, E, hr⟩ := zEnter (own := RX8) B hml rfl hW
  have hl := lv_entry ([.int a0, .int a1, .int a2]) (n := 3) (Nat.le_of_ble_eq_true rfl)
  rw [lg_entry_eq]
  generalize (lg_sl ([.int a0, .int a1, .int a2]) ++ List.replicate (3 - (lg_sl ([.int a0, .int a1, .int a2])).length) Slot.unset).toArray = ls at hl ⊢
  have hl : lv_has ls 3 [(0, .int a0), (1, .int a1), (2, .int a2)] := hl
  exact t_X8_in (out := (r, h')) Z hr hf E hl
/-! FerryCrewsModel.record()V -/
theorem dX8_record_0 : decode cX8_record 0 = .ok (.aload_n 0, 1) := by decide +kernel
theorem dX8_record_1 : decode cX8_record 1 = .ok (.getfield 34, 3) := by decide +kernel
theorem dX8_record_4 : decode cX8_record 4 = .ok (.iconst 4, 1) := by decide +kernel
theorem dX8_record_5 : decode cX8_record 5 = .ok (.if_icmp .ne 44, 3) := by decide +kernel
theorem dX8_record_8 : decode cX8_record 8 = .ok (.iconst 0, 1) := by decide +kernel
theorem dX8_record_9 : decode cX8_record 9 = .ok (.istore_n 1, 1) := by decide +kernel
theorem dX8_record_10 : decode cX8_record 10 = .ok (.iload_n 1, 1) := by decide +kernel
theorem dX8_record_11 : decode cX8_record 11 = .ok (.sipush 3279, 3) := by decide +kernel
theorem dX8_record_14 : decode cX8_record 14 = .ok (.if_icmp .ge 25, 3) := by decide +kernel
theorem dX8_record_17 : decode cX8_record 17 = .ok (.aload_n 0, 1) := by decide +kernel
theorem dX8_record_18 : decode cX8_record 18 = .ok (.getfield 19, 3) := by decide +kernel
theorem dX8_record_21 : decode cX8_record 21 = .ok (.iload_n 1, 1) := by decide +kernel
theorem dX8_record_22 : decode cX8_record 22 = .ok (.aload_n 0, 1) := by decide +kernel
theorem dX8_record_23 : decode cX8_record 23 = .ok (.getfield 19, 3) := by decide +kernel
theorem dX8_record_26 : decode cX8_record 26 = .ok (.iload_n 1, 1) := by decide +kernel
theorem dX8_record_27 : decode cX8_record 27 = .ok (.sipush 1093, 3) := by decide +kernel
theorem dX8_record_30 : decode cX8_record 30 = .ok (.iadd, 1) := by decide +kernel
theorem dX8_record_31 : decode cX8_record 31 = .ok (.iaload, 1) := by decide +kernel
theorem dX8_record_32 : decode cX8_record 32 = .ok (.iastore, 1) := by decide +kernel
theorem dX8_record_33 : decode cX8_record 33 = .ok (.iinc 1 1, 3) := by decide +kernel
theorem dX8_record_36 : decode cX8_record 36 = .ok (.goto (-26), 3) := by decide +kernel
theorem dX8_record_39 : decode cX8_record 39 = .ok (.aload_n 0, 1) := by decide +kernel
theorem dX8_record_40 : decode cX8_record 40 = .ok (.dup, 1) := by decide +kernel
theorem dX8_record_41 : decode cX8_record 41 = .ok (.getfield 34, 3) := by decide +kernel
theorem dX8_record_44 : decode cX8_record 44 = .ok (.iconst 1, 1) := by decide +kernel
theorem dX8_record_45 : decode cX8_record 45 = .ok (.isub, 1) := by decide +kernel
theorem dX8_record_46 : decode cX8_record 46 = .ok (.putfield 34, 3) := by decide +kernel
theorem dX8_record_49 : decode cX8_record 49 = .ok (.iconst 0, 1) := by decide +kernel
theorem dX8_record_50 : decode cX8_record 50 = .ok (.istore_n 1, 1) := by decide +kernel
theorem dX8_record_51 : decode cX8_record 51 = .ok (.iload_n 1, 1) := by decide +kernel
theorem dX8_record_52 : decode cX8_record 52 = .ok (.sipush 1093, 3) := by decide +kernel
theorem dX8_record_55 : decode cX8_record 55 = .ok (.if_icmp .ge 30, 3) := by decide +kernel
theorem dX8_record_58 : decode cX8_record 58 = .ok (.aload_n 0, 1) := by decide +kernel
theorem dX8_record_59 : decode cX8_record 59 = .ok (.getfield 19, 3) := by decide +kernel
theorem dX8_record_62 : decode cX8_record 62 = .ok (.sipush 1093, 3) := by decide +kernel
theorem dX8_record_65 : decode cX8_record 65 = .ok (.aload_n 0, 1) := by decide +kernel
theorem dX8_record_66 : decode cX8_record 66 = .ok (.getfield 34, 3) := by decide +kernel
theorem dX8_record_69 : decode cX8_record 69 = .ok (.imul, 1) := by decide +kernel
theorem dX8_record_70 : decode cX8_record 70 = .ok (.iload_n 1, 1) := by decide +kernel
theorem dX8_record_71 : decode cX8_record 71 = .ok (.iadd, 1) := by decide +kernel
theorem dX8_record_72 : decode cX8_record 72 = .ok (.aload_n 0, 1) := by decide +kernel
theorem dX8_record_73 : decode cX8_record 73 = .ok (.getfield 7, 3) := by decide +kernel
theorem dX8_record_76 : decode cX8_record 76 = .ok (.iload_n 1, 1) := by decide +kernel
theorem dX8_record_77 : decode cX8_record 77 = .ok (.iaload, 1) := by decide +kernel
theorem dX8_record_78 : decode cX8_record 78 = .ok (.iastore, 1) := by decide +kernel
theorem dX8_record_79 : decode cX8_record 79 = .ok (.iinc 1 1, 3) := by decide +kernel
theorem dX8_record_82 : decode cX8_record 82 = .ok (.goto (-31), 3) := by decide +kernel
theorem dX8_record_85 : decode cX8_record 85 = .ok (.aload_n 0, 1) := by decide +kernel
theorem dX8_record_86 : decode cX8_record 86 = .ok (.dup, 1) := by decide +kernel
theorem dX8_record_87 : decode cX8_record 87 = .ok (.getfield 34, 3) := by decide +kernel
theorem dX8_record_90 : decode cX8_record 90 = .ok (.iconst 1, 1) := by decide +kernel
theorem dX8_record_91 : decode cX8_record 91 = .ok (.iadd, 1) := by decide +kernel
theorem dX8_record_92 : decode cX8_record 92 = .ok (.putfield 34, 3) := by decide +kernel
theorem dX8_record_95 : decode cX8_record 95 = .ok (.return_, 1) := by decide +kernel
set_option maxRecDepth 20000 in
theorem wf_X8_34 : Cond.fieldLink RX8 34 RX8 "kept" "I" ∈ zB := List.mem_filter.mpr ⟨List.mem_of_getElem? (i := 808) (by decide +kernel), by decide +kernel⟩
theorem q_X8_34 : zFld RX8 34 8 9 := ⟨RX8, TX8, 12, rfl, by decide, iX8, wf_X8_34, rfl⟩
theorem p_X8_34 : zPut RX8 34 8 9 false .int := ⟨RX8, TX8, 12, tyX8, rfl, by decide, iX8, wf_X8_34, rfl, tyX8_ok, nmX8, rfl, by decide +kernel, fun _ => rfl⟩
theorem q_X8_19 : zFld RX8 19 8 3 := ⟨RX8, TX8, 12, rfl, by decide, iX8, wf_X8_19, rfl⟩
def rm_X8_record : Room := { frames := 0, cells := 0, slots := 0, locals := 0 }
set_option maxHeartbeats 4000000 in
set_option maxRecDepth 20000 in
theorem t_X8_record_51_body {p : Program} {l : Launch} {e : Env} {s : State} {m : MethodId} {args : Array Value} {below : List Frame} {meth : Method} {c : Code} {G : zG} (Z : zF p s m args c meth cX8_record 2 RX8 G) (hr : meth.sig.returnType = none) {out : zHp} {r51 : Nat → Int32 → zHp → Option (zHp)} (k51 : ∀ {a0 : Nat} {a1 : Int32} {h : zHp} {H : Heap} {locs : List Loc} {ls : Array Slot}, r51 a0 a1 h = some out → zE G s h H locs → lv_has ls 2 [(0, .ref a0), (1, .int a1)] → W p l e rm_X8_record s m args below meth c H locs 0 0 (MQ below (zQv G out) args s 0 0 (zA G)) (F0 m 51 ls [])) {a0 : Nat} {a1 : Int32} {h : zHp} {H : Heap} {locs : List Loc} {ls : Array Slot} (hf : f_X8_record_51_body r51 a0 a1 h = some out) (E : zE G s h H locs) (hl : lv_has ls 2 [(0, .ref a0), (1, .int a1)]) : W p l e rm_X8_record s m args below meth c H locs 0 0 (MQ below (zQv G out) args s 0 0 (zA G)) (F0 m 51 ls []) := by
  unfold f_X8_record_51_body at hf
  refine lv_iload_n Z.x Z.b dX8_record_51 rfl (lv_at hl 1 rfl) ?_
  refine lv_sipush (v := 1093) Z.x Z.b dX8_record_52 (by decide) ?_
  refine lv_icmp_ge (tgt := 85) Z.x Z.b dX8_record_55 (by decide) (fun c => ?_) (fun c => ?_)
  · have hf := zit hf c
    refine lv_aload_n Z.x Z.b dX8_record_85 rfl (lv_at hl 0 rfl) ?_
    refine lv_dup Z.x Z.b dX8_record_86 rfl ?_
    refine z_getI Z E q_X8_34 dX8_record_87 hf (fun v1 hf => ?_)
    refine lv_iconst (v := 1) Z.x Z.b dX8_record_90 (by decide) ?_
    refine lv_iadd Z.x Z.b dX8_record_91 ?_
    refine z_put Z E p_X8_34 rfl rfl dX8_record_92 hf (fun h2 H locs hf E => ?_)
    exact z_vret Z E hr dX8_record_95 hf
  · have hf := zif_ hf c
    refine lv_aload_n Z.x Z.b dX8_record_58 rfl (lv_at hl 0 rfl) ?_
    refine z_getR Z E q_X8_19 dX8_record_59 hf (fun v3 hf => ?_)
    refine lv_sipush (v := 1093) Z.x Z.b dX8_record_62 (by decide) ?_
    refine lv_aload_n Z.x Z.b dX8_record_65 rfl (lv_at hl 0 rfl) ?_
    refine z_getI Z E q_X8_34 dX8_record_66 hf (fun v4 hf => ?_)
    refine lv_imul Z.x Z.b dX8_record_69 ?_
    refine lv_iload_n Z.x Z.b dX8_record_70 rfl (lv_at hl 1 rfl) ?_
    refine lv_iadd Z.x Z.b dX8_record_71 ?_
    refine lv_aload_n Z.x Z.b dX8_record_72 rfl (lv_at hl 0 rfl) ?_
    refine z_getR Z E q_X8_7 dX8_record_73 hf (fun v5 hf => ?_)
    refine lv_iload_n Z.x Z.b dX8_record_76 rfl (lv_at hl 1 rfl) ?_
    refine z_iald Z E dX8_record_77 hf (fun v6 hf => ?_)
    refine z_iast Z E dX8_record_78 hf (fun h7 H locs hf E => ?_)
    refine lv_iinc (v := (a1 + 1)) (lv' := [(1, .int (a1 + 1)), (0, .ref a0)]) Z.x Z.b dX8_record_79 hl (k := 1) rfl rfl (by decide) rfl (fun ls hl => ?_)
    refine lv_goto (tgt := 51) Z.x Z.b dX8_record_82 (by decide) ?_
    exact k51 hf E (lv_sub hl [1, 0] rfl)
theorem t_X8_record_51 {p : Program} {l : Launch} {e : Env} {s : State} {m : MethodId} {args : Array Value} {below : List Frame} {meth : Method} {c : Code} {G : zG} (Z : zF p s m args c meth cX8_record 2 RX8 G) (hr : meth.sig.returnType = none) {out : zHp} : ∀ (n : Nat), ∀ {a0 : Nat} {a1 : Int32} {h : zHp} {H : Heap} {locs : List Loc} {ls : Array Slot}, f_X8_record_51 n a0 a1 h = some out → zE G s h H locs → lv_has ls 2 [(0, .ref a0), (1, .int a1)] → W p l e rm_X8_record s m args below meth c H locs 0 0 (MQ below (zQv G out) args s 0 0 (zA G)) (F0 m 51 ls [])
  | 0 => fun hf => by cases hf
  | n + 1 => fun hf E hl => t_X8_record_51_body Z hr (r51 := f_X8_record_51 n) (t_X8_record_51 Z hr n) hf E hl
set_option maxHeartbeats 4000000 in
set_option maxRecDepth 20000 in
theorem t_X8_record_49 {p : Program} {l : Launch} {e : Env} {s : State} {m : MethodId} {args : Array Value} {below : List Frame} {meth : Method} {c : Code} {G : zG} (Z : zF p s m args c meth cX8_record 2 RX8 G) (hr : meth.sig.returnType = none) {out : zHp} {a0 : Nat} {h : zHp} {H : Heap} {locs : List Loc} {ls : Array Slot} (hf : f_X8_record_49 a0 h = some out) (E : zE G s h H locs) (hl : lv_has ls 2 [(0, .ref a0)]) : W p l e rm_X8_record s m args below meth c H locs 0 0 (MQ below (zQv G out) args s 0 0 (zA G)) (F0 m 49 ls []) := by
  unfold f_X8_record_49 at hf
  refine lv_iconst (v := 0) Z.x Z.b dX8_record_49 (by decide) ?_
  refine lv_istore_n (lv' := [(1, .int 0), (0, .ref a0)]) Z.x Z.b dX8_record_50 rfl hl (by decide) rfl (fun ls hl => ?_)
  exact t_X8_record_51 Z hr zN hf E (lv_sub hl [1, 0] rfl)
set_option maxHeartbeats 4000000 in
set_option maxRecDepth 20000 in
theorem t_X8_record_10_body {p : Program} {l : Launch} {e : Env} {s : State} {m : MethodId} {args : Array Value} {below : List Frame} {meth : Method} {c : Code} {G : zG} (Z : zF p s m args c meth cX8_record 2 RX8 G) (hr : meth.sig.returnType = none) {out : zHp} {r10 : Nat → Int32 → zHp → Option (zHp)} (k10 : ∀ {a0 : Nat} {a1 : Int32} {h : zHp} {H : Heap} {locs : List Loc} {ls : Array Slot}, r10 a0 a1 h = some out → zE G s h H locs → lv_has ls 2 [(0, .ref a0), (1, .int a1)] → W p l e rm_X8_record s m args below meth c H locs 0 0 (MQ below (zQv G out) args s 0 0 (zA G)) (F0 m 10 ls [])) {a0 : Nat} {a1 : Int32} {h : zHp} {H : Heap} {locs : List Loc} {ls : Array Slot} (hf : f_X8_record_10_body r10 a0 a1 h = some out) (E : zE G s h H locs) (hl : lv_has ls 2 [(0, .ref a0), (1, .int a1)]) : W p l e rm_X8_record s m args below meth c H locs 0 0 (MQ below (zQv G out) args s 0 0 (zA G)) (F0 m 10 ls []) := by
  unfold f_X8_record_10_body at hf
  refine lv_iload_n Z.x Z.b dX8_record_10 rfl (lv_at hl 1 rfl) ?_
  refine lv_sipush (v := 3279) Z.x Z.b dX8_record_11 (by decide) ?_
  refine lv_icmp_ge (tgt := 39) Z.x Z.b dX8_record_14 (by decide) (fun c => ?_) (fun c => ?_)
  · have hf := zit hf c
    refine lv_aload_n Z.x Z.b dX8_record_39 rfl (lv_at hl 0 rfl) ?_
    refine lv_dup Z.x Z.b dX8_record_40 rfl ?_
    refine z_getI Z E q_X8_34 dX8_record_41 hf (fun v1 hf => ?_)
    refine lv_iconst (v := 1) Z.x Z.b dX8_record_44 (by decide) ?_
    refine lv_isub Z.x Z.b dX8_record_45 ?_
    refine z_put Z E p_X8_34 rfl rfl dX8_record_46 hf (fun h2 H locs hf E => ?_)
    exact t_X8_record_49 Z hr hf E (lv_sub hl [0] rfl)
  · have hf := zif_ hf c
    refine lv_aload_n Z.x Z.b dX8_record_17 rfl (lv_at hl 0 rfl) ?_
    refine z_getR Z E q_X8_19 dX8_record_18 hf (fun v3 hf => ?_)
    refine lv_iload_n Z.x Z.b dX8_record_21 rfl (lv_at hl 1 rfl) ?_
    refine lv_aload_n Z.x Z.b dX8_record_22 rfl (lv_at hl 0 rfl) ?_
    refine z_getR Z E q_X8_19 dX8_record_23 hf (fun v4 hf => ?_)
    refine lv_iload_n Z.x Z.b dX8_record_26 rfl (lv_at hl 1 rfl) ?_
    refine lv_sipush (v := 1093) Z.x Z.b dX8_record_27 (by decide) ?_
    refine lv_iadd Z.x Z.b dX8_record_30 ?_
    refine z_iald Z E dX8_record_31 hf (fun v5 hf => ?_)
    refine z_iast Z E dX8_record_32 hf (fun h6 H locs hf E => ?_)
    refine lv_iinc (v := (a1 + 1)) (lv' := [(1, .int (a1 + 1)), (0, .ref a0)]) Z.x Z.b dX8_record_33 hl (k := 1) rfl rfl (by decide) rfl (fun ls hl => ?_)
    refine lv_goto (tgt := 10) Z.x Z.b dX8_record_36 (by decide) ?_
    exact k10 hf E (lv_sub hl [1, 0] rfl)
theorem t_X8_record_10 {p : Program} {l : Launch} {e : Env} {s : State} {m : MethodId} {args : Array Value} {below : List Frame} {meth : Method} {c : Code} {G : zG} (Z : zF p s m args c meth cX8_record 2 RX8 G) (hr : meth.sig.returnType = none) {out : zHp} : ∀ (n : Nat), ∀ {a0 : Nat} {a1 : Int32} {h : zHp} {H : Heap} {locs : List Loc} {ls : Array Slot}, f_X8_record_10 n a0 a1 h = some out → zE G s h H locs → lv_has ls 2 [(0, .ref a0), (1, .int a1)] → W p l e rm_X8_record s m args below meth c H locs 0 0 (MQ below (zQv G out) args s 0 0 (zA G)) (F0 m 10 ls [])
  | 0 => fun hf => by cases hf
  | n + 1 => fun hf E hl => t_X8_record_10_body Z hr (r10 := f_X8_record_10 n) (t_X8_record_10 Z hr n) hf E hl
set_option maxHeartbeats 4000000 in
set_option maxRecDepth 20000 in
theorem t_X8_record {p : Program} {l : Launch} {e : Env} {s : State} {m : MethodId} {args : Array Value} {below : List Frame} {meth : Method} {c : Code} {G : zG} (Z : zF p s m args c meth cX8_record 2 RX8 G) (hr : meth.sig.returnType = none) {out : zHp} {a0 : Nat} {h : zHp} {H : Heap} {locs : List Loc} {ls : Array Slot} (hf : f_X8_record a0 h = some out) (E : zE G s h H locs) (hl : lv_has ls 2 [(0, .ref a0)]) : W p l e rm_X8_record s m args below meth c H locs 0 0 (MQ below (zQv G out) args s 0 0 (zA G)) (F0 m 0 ls []) := by
  unfold f_X8_record at hf
  refine lv_aload_n Z.x Z.b dX8_record_0 rfl (lv_at hl 0 rfl) ?_
  refine z_getI Z E q_X8_34 dX8_record_1 hf (fun v1 hf => ?_)
  refine lv_iconst (v := 4) Z.x Z.b dX8_record_4 (by decide) ?_
  refine lv_icmp_ne (tgt := 49) Z.x Z.b dX8_record_5 (by decide) (fun c => ?_) (fun c => ?_)
  · have hf := zif_ hf c
    exact t_X8_record_49 Z hr hf E (lv_sub hl [0] rfl)
  · have hf := zit hf c
    refine lv_iconst (v := 0) Z.x Z.b dX8_record_8 (by decide) ?_
    refine lv_istore_n (lv' := [(1, .int 0), (0, .ref a0)]) Z.x Z.b dX8_record_9 rfl hl (by decide) rfl (fun ls hl => ?_)
    exact t_X8_record_10 Z hr zN hf E (lv_sub hl [1, 0] rfl)
set_option maxHeartbeats 4000000 in
set_option maxRecDepth 20000 in
theorem c_X8_record (l : Launch) (G : zG) (h : zHp) (h' : zHp) (a0 : Nat) (hf : f_X8_record a0 h = some h') : zM0 l yX8_record cX8_record 2 none rm_X8_record G [.ref a0] h (zQv G h') := by
  refine Met.ofW (cc := cX8_record) (maxL := 2) (ret := none) (by decide) rfl ?_
  intro p e s m args below meth c s₁ B hml hv
  obtain ⟨rfl, hW⟩ := hv
  obtain ⟨Z, E, hr⟩ := zEnter (own := RX8) B hml rfl hW
  have hl := lv_entry ([.ref a0]) (n := 2) (Nat.le_of_ble_eq_true rfl)
  rw [lg_entry_eq]
  generalize (lg_sl ([.ref a0]) ++ List.replicate (2 - (lg_sl ([.ref a0])).length) Slot.unset).toArray = ls at hl ⊢
  have hl : lv_has ls 2 [(0, .ref a0)] := hl
  exact t_X8_record (out := h') Z hr hf E hl
/-! FerryCrewsModel.lay()V -/
theorem dX8_lay_0 : decode cX8_lay 0 = .ok (.iconst 0, 1) := by decide +kernel
theorem dX8_lay_1 : decode cX8_lay 1 = .ok (.istore_n 1, 1) := by decide +kernel
theorem dX8_lay_2 : decode cX8_lay 2 = .ok (.iload_n 1, 1) := by decide +kernel
theorem dX8_lay_3 : decode cX8_lay 3 = .ok (.sipush 1093, 3) := by decide +kernel
theorem dX8_lay_6 : decode cX8_lay 6 = .ok (.if_icmp .ge 21, 3) := by decide +kernel
theorem dX8_lay_9 : decode cX8_lay 9 = .ok (.aload_n 0, 1) := by decide +kernel
theorem dX8_lay_10 : decode cX8_lay 10 = .ok (.getfield 16, 3) := by decide +kernel
theorem dX8_lay_13 : decode cX8_lay 13 = .ok (.iload_n 1, 1) := by decide +kernel
theorem dX8_lay_14 : decode cX8_lay 14 = .ok (.aload_n 0, 1) := by decide +kernel
theorem dX8_lay_15 : decode cX8_lay 15 = .ok (.getfield 7, 3) := by decide +kernel
theorem dX8_lay_18 : decode cX8_lay 18 = .ok (.iload_n 1, 1) := by decide +kernel
theorem dX8_lay_19 : decode cX8_lay 19 = .ok (.iaload, 1) := by decide +kernel
theorem dX8_lay_20 : decode cX8_lay 20 = .ok (.iastore, 1) := by decide +kernel
theorem dX8_lay_21 : decode cX8_lay 21 = .ok (.iinc 1 1, 3) := by decide +kernel
theorem dX8_lay_24 : decode cX8_lay 24 = .ok (.goto (-22), 3) := by decide +kernel
theorem dX8_lay_27 : decode cX8_lay 27 = .ok (.return_, 1) := by decide +kernel
theorem q_X8_16 : zFld RX8 16 8 2 := ⟨RX8, TX8, 12, rfl, by decide, iX8, wf_X8_16, rfl⟩
def rm_X8_lay : Room := { frames := 0, cells := 0, slots := 0, locals := 0 }
set_option maxHeartbeats 4000000 in
set_option maxRecDepth 20000 in
theorem t_X8_lay_2_body {p : Program} {l : Launch} {e : Env} {s : State} {m : MethodId} {args : Array Value} {below : List Frame} {meth : Method} {c : Code} {G : zG} (Z : zF p s m args c meth cX8_lay 2 RX8 G) (hr : meth.sig.returnType = none) {out : zHp} {r2 : Nat → Int32 → zHp → Option (zHp)} (k2 : ∀ {a0 : Nat} {a1 : Int32} {h : zHp} {H : Heap} {locs : List Loc} {ls : Array Slot}, r2 a0 a1 h = some out → zE G s h H locs → lv_has ls 2 [(0, .ref a0), (1, .int a1)] → W p l e rm_X8_lay s m args below meth c H locs 0 0 (MQ below (zQv G out) args s 0 0 (zA G)) (F0 m 2 ls [])) {a0 : Nat} {a1 : Int32} {h : zHp} {H : Heap} {locs : List Loc} {ls : Array Slot} (hf : f_X8_lay_2_body r2 a0 a1 h = some out) (E : zE G s h H locs) (hl : lv_has ls 2 [(0, .ref a0), (1, .int a1)]) : W p l e rm_X8_lay s m args below meth c H locs 0 0 (MQ below (zQv G out) args s 0 0 (zA G)) (F0 m 2 ls []) := by
  unfold f_X8_lay_2_body at hf
  refine lv_iload_n Z.x Z.b dX8_lay_2 rfl (lv_at hl 1 rfl) ?_
  refine lv_sipush (v := 1093) Z.x Z.b dX8_lay_3 (by decide) ?_
  refine lv_icmp_ge (tgt := 27) Z.x Z.b dX8_lay_6 (by decide) (fun c => ?_) (fun c => ?_)
  · have hf := zit hf c
    exact z_vret Z E hr dX8_lay_27 hf
  · have hf := zif_ hf c
    refine lv_aload_n Z.x Z.b dX8_lay_9 rfl (lv_at hl 0 rfl) ?_
    refine z_getR Z E q_X8_16 dX8_lay_10 hf (fun v1 hf => ?_)
    refine lv_iload_n Z.x Z.b dX8_lay_13 rfl (lv_at hl 1 rfl) ?_
    refine lv_aload_n Z.x Z.b dX8_lay_14 rfl (lv_at hl 0 rfl) ?_
    refine z_getR Z E q_X8_7 dX8_lay_15 hf (fun v2 hf => ?_)
    refine lv_iload_n Z.x Z.b dX8_lay_18 rfl (lv_at hl 1 rfl) ?_
    refine z_iald Z E dX8_lay_19 hf (fun v3 hf => ?_)
    refine z_iast Z E dX8_lay_20 hf (fun h4 H locs hf E => ?_)
    refine lv_iinc (v := (a1 + 1)) (lv' := [(1, .int (a1 + 1)), (0, .ref a0)]) Z.x Z.b dX8_lay_21 hl (k := 1) rfl rfl (by decide) rfl (fun ls hl => ?_)
    refine lv_goto (tgt := 2) Z.x Z.b dX8_lay_24 (by decide) ?_
    exact k2 hf E (lv_sub hl [1, 0] rfl)
theorem t_X8_lay_2 {p : Program} {l : Launch} {e : Env} {s : State} {m : MethodId} {args : Array Value} {below : List Frame} {meth : Method} {c : Code} {G : zG} (Z : zF p s m args c meth cX8_lay 2 RX8 G) (hr : meth.sig.returnType = none) {out : zHp} : ∀ (n : Nat), ∀ {a0 : Nat} {a1 : Int32} {h : zHp} {H : Heap} {locs : List Loc} {ls : Array Slot}, f_X8_lay_2 n a0 a1 h = some out → zE G s h H locs → lv_has ls 2 [(0, .ref a0), (1, .int a1)] → W p l e rm_X8_lay s m args below meth c H locs 0 0 (MQ below (zQv G out) args s 0 0 (zA G)) (F0 m 2 ls [])
  | 0 => fun hf => by cases hf
  | n + 1 => fun hf E hl => t_X8_lay_2_body Z hr (r2 := f_X8_lay_2 n) (t_X8_lay_2 Z hr n) hf E hl
set_option maxHeartbeats 4000000 in
set_option maxRecDepth 20000 in
theorem t_X8_lay {p : Program} {l : Launch} {e : Env} {s : State} {m : MethodId} {args : Array Value} {below : List Frame} {meth : Method} {c : Code} {G : zG} (Z : zF p s m args c meth cX8_lay 2 RX8 G) (hr : meth.sig.returnType = none) {out : zHp} {a0 : Nat} {h : zHp} {H : Heap} {locs : List Loc} {ls : Array Slot} (hf : f_X8_lay a0 h = some out) (E : zE G s h H locs) (hl : lv_has ls 2 [(0, .ref a0)]) : W p l e rm_X8_lay s m args below meth c H locs 0 0 (MQ below (zQv G out) args s 0 0 (zA G)) (F0 m 0 ls []) := by
  unfold f_X8_lay at hf
  refine lv_iconst (v := 0) Z.x Z.b dX8_lay_0 (by decide) ?_
  refine lv_istore_n (lv' := [(1, .int 0), (0, .ref a0)]) Z.x Z.b dX8_lay_1 rfl hl (by decide) rfl (fun ls hl => ?_)
  exact t_X8_lay_2 Z hr zN hf E (lv_sub hl [1, 0] rfl)
set_option maxHeartbeats 4000000 in
set_option maxRecDepth 20000 in
theorem c_X8_lay (l : Launch) (G : zG) (h : zHp) (h' : zHp) (a0 : Nat) (hf : f_X8_lay a0 h = some h') : zM0 l yX8_lay cX8_lay 2 none rm_X8_lay G [.ref a0] h (zQv G h') := by
  refine Met.ofW (cc := cX8_lay) (maxL := 2) (ret := none) (by decide) rfl ?_
  intro p e s m args below meth c s₁ B hml hv
  obtain ⟨rfl, hW⟩ := hv
  obtain ⟨Z, E, hr⟩ := zEnter (own := RX8) B hml rfl hW
  have hl := lv_entry ([.ref a0]) (n := 2) (Nat.le_of_ble_eq_true rfl)
  rw [lg_entry_eq]
  generalize (lg_sl ([.ref a0]) ++ List.replicate (2 - (lg_sl ([.ref a0])).length) Slot.unset).toArray = ls at hl ⊢
  have hl : lv_has ls 2 [(0, .ref a0)] := hl
  exact t_X8_lay (out := h') Z hr hf E hl
/-! FerryCrewsModel.takeBack()V -/
theorem dX8_takeBack_0 : decode cX8_takeBack 0 = .ok (.iconst 0, 1) := by decide +kernel
theorem dX8_takeBack_1 : decode cX8_takeBack 1 = .ok (.istore_n 1, 1) := by decide +kernel
theorem dX8_takeBack_2 : decode cX8_takeBack 2 = .ok (.iload_n 1, 1) := by decide +kernel
theorem dX8_takeBack_3 : decode cX8_takeBack 3 = .ok (.sipush 1093, 3) := by decide +kernel
theorem dX8_takeBack_6 : decode cX8_takeBack 6 = .ok (.if_icmp .ge 21, 3) := by decide +kernel
theorem dX8_takeBack_9 : decode cX8_takeBack 9 = .ok (.aload_n 0, 1) := by decide +kernel
theorem dX8_takeBack_10 : decode cX8_takeBack 10 = .ok (.getfield 7, 3) := by decide +kernel
theorem dX8_takeBack_13 : decode cX8_takeBack 13 = .ok (.iload_n 1, 1) := by decide +kernel
theorem dX8_takeBack_14 : decode cX8_takeBack 14 = .ok (.aload_n 0, 1) := by decide +kernel
theorem dX8_takeBack_15 : decode cX8_takeBack 15 = .ok (.getfield 16, 3) := by decide +kernel
theorem dX8_takeBack_18 : decode cX8_takeBack 18 = .ok (.iload_n 1, 1) := by decide +kernel
theorem dX8_takeBack_19 : decode cX8_takeBack 19 = .ok (.iaload, 1) := by decide +kernel
theorem dX8_takeBack_20 : decode cX8_takeBack 20 = .ok (.iastore, 1) := by decide +kernel
theorem dX8_takeBack_21 : decode cX8_takeBack 21 = .ok (.iinc 1 1, 3) := by decide +kernel
theorem dX8_takeBack_24 : decode cX8_takeBack 24 = .ok (.goto (-22), 3) := by decide +kernel
theorem dX8_takeBack_27 : decode cX8_takeBack 27 = .ok (.return_, 1) := by decide +kernel
def rm_X8_takeBack : Room := { frames := 0, cells := 0, slots := 0, locals := 0 }
set_option maxHeartbeats 4000000 in
set_option maxRecDepth 20000 in
theorem t_X8_takeBack_2_body {p : Program} {l : Launch} {e : Env} {s : State} {m : MethodId} {args : Array Value} {below : List Frame} {meth : Method} {c : Code} {G : zG} (Z : zF p s m args c meth cX8_takeBack 2 RX8 G) (hr : meth.sig.returnType = none) {out : zHp} {r2 : Nat → Int32 → zHp → Option (zHp)} (k2 : ∀ {a0 : Nat} {a1 : Int32} {h : zHp} {H : Heap} {locs : List Loc} {ls : Array Slot}, r2 a0 a1 h = some out → zE G s h H locs → lv_has ls 2 [(0, .ref a0), (1, .int a1)] → W p l e rm_X8_takeBack s m args below meth c H locs 0 0 (MQ below (zQv G out) args s 0 0 (zA G)) (F0 m 2 ls [])) {a0 : Nat} {a1 : Int32} {h : zHp} {H : Heap} {locs : List Loc} {ls : Array Slot} (hf : f_X8_takeBack_2_body r2 a0 a1 h = some out) (E : zE G s h H locs) (hl : lv_has ls 2 [(0, .ref a0), (1, .int a1)]) : W p l e rm_X8_takeBack s m args below meth c H locs 0 0 (MQ below (zQv G out) args s 0 0 (zA G)) (F0 m 2 ls []) := by
  unfold f_X8_takeBack_2_body at hf
  refine lv_iload_n Z.x Z.b dX8_takeBack_2 rfl (lv_at hl 1 rfl) ?_
  refine lv_sipush (v := 1093) Z.x Z.b dX8_takeBack_3 (by decide) ?_
  refine lv_icmp_ge (tgt := 27) Z.x Z.b dX8_takeBack_6 (by decide) (fun c => ?_) (fun c => ?_)
  · have hf := zit hf c
    exact z_vret Z E hr dX8_takeBack_27 hf
  · have hf := zif_ hf c
    refine lv_aload_n Z.x Z.b dX8_takeBack_9 rfl (lv_at hl 0 rfl) ?_
    refine z_getR Z E q_X8_7 dX8_takeBack_10 hf (fun v1 hf => ?_)
    refine lv_iload_n Z.x Z.b dX8_takeBack_13 rfl (lv_at hl 1 rfl) ?_
    refine lv_aload_n Z.x Z.b dX8_takeBack_14 rfl (lv_at hl 0 rfl) ?_
    refine z_getR Z E q_X8_16 dX8_takeBack_15 hf (fun v2 hf => ?_)
    refine lv_iload_n Z.x Z.b dX8_takeBack_18 rfl (lv_at hl 1 rfl) ?_
    refine z_iald Z E dX8_takeBack_19 hf (fun v3 hf => ?_)
    refine z_iast Z E dX8_takeBack_20 hf (fun h4 H locs hf E => ?_)
    refine lv_iinc (v := (a1 + 1)) (lv' := [(1, .int (a1 + 1)), (0, .ref a0)]) Z.x Z.b dX8_takeBack_21 hl (k := 1) rfl rfl (by decide) rfl (fun ls hl => ?_)
    refine lv_goto (tgt := 2) Z.x Z.b dX8_takeBack_24 (by decide) ?_
    exact k2 hf E (lv_sub hl [1, 0] rfl)
theorem t_X8_takeBack_2 {p : Program} {l : Launch} {e : Env} {s : State} {m : MethodId} {args : Array Value} {below : List Frame} {meth : Method} {c : Code} {G : zG} (Z : zF p s m args c meth cX8_takeBack 2 RX8 G) (hr : meth.sig.returnType = none) {out : zHp} : ∀ (n : Nat), ∀ {a0 : Nat} {a1 : Int32} {h : zHp} {H : Heap} {locs : List Loc} {ls : Array Slot}, f_X8_takeBack_2 n a0 a1 h = some out → zE G s h H locs → lv_has ls 2 [(0, .ref a0), (1, .int a1)] → W p l e rm_X8_takeBack s m args below meth c H locs 0 0 (MQ below (zQv G out) args s 0 0 (zA G)) (F0 m 2 ls [])
  | 0 => fun hf => by cases hf
  | n + 1 => fun hf E hl => t_X8_takeBack_2_body Z hr (r2 := f_X8_takeBack_2 n) (t_X8_takeBack_2 Z hr n) hf E hl
set_option maxHeartbeats 4000000 in
set_option maxRecDepth 20000 in
theorem t_X8_takeBack {p : Program} {l : Launch} {e : Env} {s : State} {m : MethodId} {args : Array Value} {below : List Frame} {meth : Method} {c : Code} {G : zG} (Z : zF p s m args c meth cX8_takeBack 2 RX8 G) (hr : meth.sig.returnType = none) {out : zHp} {a0 : Nat} {h : zHp} {H : Heap} {locs : List Loc} {ls : Array Slot} (hf : f_X8_takeBack a0 h = some out) (E : zE G s h H locs) (hl : lv_has ls 2 [(0, .ref a0)]) : W p l e rm_X8_takeBack s m args below meth c H locs 0 0 (MQ below (zQv G out) args s 0 0 (zA G)) (F0 m 0 ls []) := by
  unfold f_X8_takeBack at hf
  refine lv_iconst (v := 0) Z.x Z.b dX8_takeBack_0 (by decide) ?_
  refine lv_istore_n (lv' := [(1, .int 0), (0, .ref a0)]) Z.x Z.b dX8_takeBack_1 rfl hl (by decide) rfl (fun ls hl => ?_)
  exact t_X8_takeBack_2 Z hr zN hf E (lv_sub hl [1, 0] rfl)
set_option maxHeartbeats 4000000 in
set_option maxRecDepth 20000 in
theorem c_X8_takeBack (l : Launch) (G : zG) (h : zHp) (h' : zHp) (a0 : Nat) (hf : f_X8_takeBack a0 h = some h') : zM0 l yX8_takeBack cX8_takeBack 2 none rm_X8_takeBack G [.ref a0] h (zQv G h') := by
  refine Met.ofW (cc := cX8_takeBack) (maxL := 2) (ret := none) (by decide) rfl ?_
  intro p e s m args below meth c s₁ B hml hv
  obtain ⟨rfl, hW⟩ := hv
  obtain ⟨Z, E, hr⟩ := zEnter (own := RX8) B hml rfl hW
  have hl := lv_entry ([.ref a0]) (n := 2) (Nat.le_of_ble_eq_true rfl)
  rw [lg_entry_eq]
  generalize (lg_sl ([.ref a0]) ++ List.replicate (2 - (lg_sl ([.ref a0])).length) Slot.unset).toArray = ls at hl ⊢
  have hl : lv_has ls 2 [(0, .ref a0)] := hl
  exact t_X8_takeBack (out := h') Z hr hf E hl
/-! FerryCrewsModel.of(II)I -/
theorem dX8_of_0 : decode cX8_of 0 = .ok (.aload_n 0, 1) := by decide +kernel
theorem dX8_of_1 : decode cX8_of 1 = .ok (.getfield 7, 3) := by decide +kernel
theorem dX8_of_4 : decode cX8_of 4 = .ok (.bipush 9, 2) := by decide +kernel
theorem dX8_of_6 : decode cX8_of 6 = .ok (.bipush 8, 2) := by decide +kernel
theorem dX8_of_8 : decode cX8_of 8 = .ok (.iload_n 1, 1) := by decide +kernel
theorem dX8_of_9 : decode cX8_of 9 = .ok (.imul, 1) := by decide +kernel
theorem dX8_of_10 : decode cX8_of 10 = .ok (.iadd, 1) := by decide +kernel
theorem dX8_of_11 : decode cX8_of 11 = .ok (.iload_n 2, 1) := by decide +kernel
theorem dX8_of_12 : decode cX8_of 12 = .ok (.iadd, 1) := by decide +kernel
theorem dX8_of_13 : decode cX8_of 13 = .ok (.iaload, 1) := by decide +kernel
theorem dX8_of_14 : decode cX8_of 14 = .ok (.ireturn, 1) := by decide +kernel
def rm_X8_of : Room := { frames := 0, cells := 0, slots := 0, locals := 0 }
set_option maxHeartbeats 4000000 in
set_option maxRecDepth 20000 in
theorem t_X8_of {p : Program} {l : Launch} {e : Env} {s : State} {m : MethodId} {args : Array Value} {below : List Frame} {meth : Method} {c : Code} {G : zG} (Z : zF p s m args c meth cX8_of 3 RX8 G) (hr : meth.sig.returnType = (some .int)) {out : Int32 × zHp} {a0 : Nat} {a1 : Int32} {a2 : Int32} {h : zHp} {H : Heap} {locs : List Loc} {ls : Array Slot} (hf : f_X8_of a0 a1 a2 h = some out) (E : zE G s h H locs) (hl : lv_has ls 3 [(0, .ref a0), (1, .int a1), (2, .int a2)]) : W p l e rm_X8_of s m args below meth c H locs 0 0 (MQ below (zQi G out.1 out.2) args s 0 0 (zA G)) (F0 m 0 ls []) := by
  unfold f_X8_of at hf
  refine lv_aload_n Z.x Z.b dX8_of_0 rfl (lv_at hl 0 rfl) ?_
  refine z_getR Z E q_X8_7 dX8_of_1 hf (fun v1 hf => ?_)
  refine lv_bipush (v := 9) Z.x Z.b dX8_of_4 (by decide) ?_
  refine lv_bipush (v := 8) Z.x Z.b dX8_of_6 (by decide) ?_
  refine lv_iload_n Z.x Z.b dX8_of_8 rfl (lv_at hl 1 rfl) ?_
  refine lv_imul Z.x Z.b dX8_of_9 ?_
  refine lv_iadd Z.x Z.b dX8_of_10 ?_
  refine lv_iload_n Z.x Z.b dX8_of_11 rfl (lv_at hl 2 rfl) ?_
  refine lv_iadd Z.x Z.b dX8_of_12 ?_
  refine z_iald Z E dX8_of_13 hf (fun v2 hf => ?_)
  exact z_iret Z E hr dX8_of_14 hf
set_option maxHeartbeats 4000000 in
set_option maxRecDepth 20000 in
theorem c_X8_of (l : Launch) (G : zG) (h : zHp) (h' : zHp) (a0 : Nat) (a1 : Int32) (a2 : Int32) (r : Int32) (hf : f_X8_of a0 a1 a2 h = some (r, h')) : zM0 l yX8_of cX8_of 3 (some .int) rm_X8_of G [.ref a0, .int a1, .int a2] h (zQi G r h') := by
  refine Met.ofW (cc := cX8_of) (maxL := 3) (ret := (some .int)) (by decide) rfl ?_
  intro p e s m args below meth c s₁ B hml hv
  obtain ⟨rfl, hW⟩ := hv
  obtain ⟨Z, E, hr⟩ := zEnter (own := RX8) B hml rfl hW
  have hl := lv_entry ([.ref a0, .int a1, .int a2]) (n := 3) (Nat.le_of_ble_eq_true rfl)
  rw [lg_entry_eq]
  generalize (lg_sl ([.ref a0, .int a1, .int a2]) ++ List.replicate (3 - (lg_sl ([.ref a0, .int a1, .int a2])).length) Slot.unset).toArray = ls at hl ⊢
  have hl : lv_has ls 3 [(0, .ref a0), (1, .int a1), (2, .int a2)] := hl
  exact t_X8_of (out := (r, h')) Z hr hf E hl
/-! FerryCrewsModel.put(III)V -/
theorem dX8_put_0 : decode cX8_put 0 = .ok (.aload_n 0, 1) := by decide +kernel
theorem dX8_put_1 : decode cX8_put 1 = .ok (.getfield 7, 3) := by decide +kernel
theorem dX8_put_4 : decode cX8_put 4 = .ok (.bipush 9, 2) := by decide +kernel
theorem dX8_put_6 : decode cX8_put 6 = .ok (.bipush 8, 2) := by decide +kernel
theorem dX8_put_8 : decode cX8_put 8 = .ok (.iload_n 1, 1) := by decide +kernel
theorem dX8_put_9 : decode cX8_put 9 = .ok (.imul, 1) := by decide +kernel
theorem dX8_put_10 : decode cX8_put 10 = .ok (.iadd, 1) := by decide +kernel
theorem dX8_put_11 : decode cX8_put 11 = .ok (.iload_n 2, 1) := by decide +kernel
theorem dX8_put_12 : decode cX8_put 12 = .ok (.iadd, 1) := by decide +kernel
theorem dX8_put_13 : decode cX8_put 13 = .ok (.iload_n 3, 1) := by decide +kernel
theorem dX8_put_14 : decode cX8_put 14 = .ok (.iastore, 1) := by decide +kernel
theorem dX8_put_15 : decode cX8_put 15 = .ok (.return_, 1) := by decide +kernel
def rm_X8_put : Room := { frames := 0, cells := 0, slots := 0, locals := 0 }
set_option maxHeartbeats 4000000 in
set_option maxRecDepth 20000 in
theorem t_X8_put {p : Program} {l : Launch} {e : Env} {s : State} {m : MethodId} {args : Array Value} {below : List Frame} {meth : Method} {c : Code} {G : zG} (Z : zF p s m args c meth cX8_put 4 RX8 G) (hr : meth.sig.returnType = none) {out : zHp} {a0 : Nat} {a1 : Int32} {a2 : Int32} {a3 : Int32} {h : zHp} {H : Heap} {locs : List Loc} {ls : Array Slot} (hf : f_X8_put a0 a1 a2 a3 h = some out) (E : zE G s h H locs) (hl : lv_has ls 4 [(0, .ref a0), (1, .int a1), (2, .int a2), (3, .int a3)]) : W p l e rm_X8_put s m args below meth c H locs 0 0 (MQ below (zQv G out) args s 0 0 (zA G)) (F0 m 0 ls []) := by
  unfold f_X8_put at hf
  refine lv_aload_n Z.x Z.b dX8_put_0 rfl (lv_at hl 0 rfl) ?_
  refine z_getR Z E q_X8_7 dX8_put_1 hf (fun v1 hf => ?_)
  refine lv_bipush (v := 9) Z.x Z.b dX8_put_4 (by decide) ?_
  refine lv_bipush (v := 8) Z.x Z.b dX8_put_6 (by decide) ?_
  refine lv_iload_n Z.x Z.b dX8_put_8 rfl (lv_at hl 1 rfl) ?_
  refine lv_imul Z.x Z.b dX8_put_9 ?_
  refine lv_iadd Z.x Z.b dX8_put_10 ?_
  refine lv_iload_n Z.x Z.b dX8_put_11 rfl (lv_at hl 2 rfl) ?_
  refine lv_iadd Z.x Z.b dX8_put_12 ?_
  refine lv_iload_n Z.x Z.b dX8_put_13 rfl (lv_at hl 3 rfl) ?_
  refine z_iast Z E dX8_put_14 hf (fun h2 H locs hf E => ?_)
  exact z_vret Z E hr dX8_put_15 hf
set_option maxHeartbeats 4000000 in
set_option maxRecDepth 20000 in
theorem c_X8_put (l : Launch) (G : zG) (h : zHp) (h' : zHp) (a0 : Nat) (a1 : Int32) (a2 : Int32) (a3 : Int32) (hf : f_X8_put a0 a1 a2 a3 h = some h') : zM0 l yX8_put cX8_put 4 none rm_X8_put G [.ref a0, .int a1, .int a2, .int a3] h (zQv G h') := by
  refine Met.ofW (cc := cX8_put) (maxL := 4) (ret := none) (by decide) rfl ?_
  intro p e s m args below meth c s₁ B hml hv
  obtain ⟨rfl, hW⟩ := hv
  obtain ⟨Z, E, hr⟩ := zEnter (own := RX8) B hml rfl hW
  have hl := lv_entry ([.ref a0, .int a1, .int a2, .int a3]) (n := 4) (Nat.le_of_ble_eq_true rfl)
  rw [lg_entry_eq]
  generalize (lg_sl ([.ref a0, .int a1, .int a2, .int a3]) ++ List.replicate (4 - (lg_sl ([.ref a0, .int a1, .int a2, .int a3])).length) Slot.unset).toArray = ls at hl ⊢
  have hl : lv_has ls 4 [(0, .ref a0), (1, .int a1), (2, .int a2), (3, .int a3)] := hl
  exact t_X8_put (out := h') Z hr hf E hl
