/-! FerryCrewsModel.end(I)I -/
theorem dX8_end_0 : decode cX8_end 0 = .ok (.aload_n 0, 1) := by decide +kernel
theorem dX8_end_1 : decode cX8_end 1 = .ok (.iload_n 1, 1) := by decide +kernel
theorem dX8_end_2 : decode cX8_end 2 = .ok (.iconst 2, 1) := by decide +kernel
theorem dX8_end_3 : decode cX8_end 3 = .ok (.invokevirtual 38, 3) := by decide +kernel
theorem dX8_end_6 : decode cX8_end 6 = .ok (.aload_n 0, 1) := by decide +kernel
theorem dX8_end_7 : decode cX8_end 7 = .ok (.iload_n 1, 1) := by decide +kernel
theorem dX8_end_8 : decode cX8_end 8 = .ok (.iconst 3, 1) := by decide +kernel
theorem dX8_end_9 : decode cX8_end 9 = .ok (.invokevirtual 38, 3) := by decide +kernel
theorem dX8_end_12 : decode cX8_end 12 = .ok (.iadd, 1) := by decide +kernel
theorem dX8_end_13 : decode cX8_end 13 = .ok (.ireturn, 1) := by decide +kernel
set_option maxRecDepth 20000 in
theorem wi_X8 : Cond.initialized RX8 ∈ zB := List.mem_filter.mpr ⟨List.mem_of_getElem? (i := 69) (by decide +kernel), by decide +kernel⟩
set_option maxRecDepth 20000 in
theorem wc_X8_of : Cond.code yX8_of cX8_of 3 (some .int) ∈ zB := List.mem_filter.mpr ⟨List.mem_of_getElem? (i := 860) (by decide +kernel), by decide +kernel⟩
set_option maxRecDepth 20000 in
theorem wm_X8_38 : Cond.methodLink RX8 38 yX8_of ∈ zB := List.mem_filter.mpr ⟨List.mem_of_getElem? (i := 857) (by decide +kernel), by decide +kernel⟩
theorem k_X8_38 : zCal RX8 38 yX8_of cX8_of 3 (some .int) 2 := ⟨wm_X8_38, wi_X8, wc_X8_of, by decide +kernel, by decide +kernel, by decide +kernel⟩
set_option maxRecDepth 20000 in
theorem wn_X8_of : Cond.instanceMethod yX8_of ∈ zB := List.mem_filter.mpr ⟨List.mem_of_getElem? (i := 859) (by decide +kernel), by decide +kernel⟩
set_option maxRecDepth 20000 in
theorem ws_X8_of : Cond.selects RX8 yX8_of yX8_of ∈ zB := List.mem_filter.mpr ⟨List.mem_of_getElem? (i := 14) (by decide +kernel), by decide +kernel⟩
theorem v_X8_of : zVir yX8_of 8 := ⟨wn_X8_of, ws_X8_of, TX8, 12, rfl⟩
def rm_X8_end : Room := { frames := 1, cells := 0, slots := 0, locals := 22 }
set_option maxHeartbeats 4000000 in
set_option maxRecDepth 20000 in
theorem t_X8_end {p : Program} {l : Launch} {e : Env} {s : State} {m : MethodId} {args : Array Value} {below : List Frame} {meth : Method} {c : Code} {G : zG} (Z : zF p s m args c meth cX8_end 2 RX8 G) (hr : meth.sig.returnType = (some .int)) {out : Int32 × zHp} {a0 : Nat} {a1 : Int32} {h : zHp} {H : Heap} {locs : List Loc} {ls : Array Slot} (hf : f_X8_end a0 a1 h = some out) (E : zE G s h H locs) (hl : lv_has ls 2 [(0, .ref a0), (1, .int a1)]) : W p l e rm_X8_end s m args below meth c H locs 0 0 (MQ below (zQi G out.1 out.2) args s 0 0 (zA G)) (F0 m 0 ls []) := by
  unfold f_X8_end at hf
  refine lv_aload_n Z.x Z.b dX8_end_0 rfl (lv_at hl 0 rfl) ?_
  refine lv_iload_n Z.x Z.b dX8_end_1 rfl (lv_at hl 1 rfl) ?_
  refine lv_iconst (v := 2) Z.x Z.b dX8_end_2 (by decide) ?_
  refine z_Vi (As := [.int a1, .int 2]) Z E hl.1 k_X8_38 v_X8_of hf (fun r h' e => c_X8_of l G h h' a0 a1 2 r e) rfl rfl (Nat.le_of_ble_eq_true rfl) (zRm_of rfl (Nat.zero_le _) (Nat.zero_le _)) dX8_end_3 (fun v1 h2 H locs hf E => ?_)
  refine lv_aload_n Z.x Z.b dX8_end_6 rfl (lv_at hl 0 rfl) ?_
  refine lv_iload_n Z.x Z.b dX8_end_7 rfl (lv_at hl 1 rfl) ?_
  refine lv_iconst (v := 3) Z.x Z.b dX8_end_8 (by decide) ?_
  refine z_Vi (As := [.int a1, .int 3]) Z E hl.1 k_X8_38 v_X8_of hf (fun r h' e => c_X8_of l G h2 h' a0 a1 3 r e) rfl rfl (Nat.le_of_ble_eq_true rfl) (zRm_of rfl (Nat.zero_le _) (Nat.zero_le _)) dX8_end_9 (fun v3 h4 H locs hf E => ?_)
  refine lv_iadd Z.x Z.b dX8_end_12 ?_
  exact z_iret Z E hr dX8_end_13 hf
set_option maxHeartbeats 4000000 in
set_option maxRecDepth 20000 in
theorem c_X8_end (l : Launch) (G : zG) (h : zHp) (h' : zHp) (a0 : Nat) (a1 : Int32) (r : Int32) (hf : f_X8_end a0 a1 h = some (r, h')) : zM0 l yX8_end cX8_end 2 (some .int) rm_X8_end G [.ref a0, .int a1] h (zQi G r h') := by
  refine Met.ofW (cc := cX8_end) (maxL := 2) (ret := (some .int)) (by decide) rfl ?_
  intro p e s m args below meth c s₁ B hml hv
  obtain ⟨rfl, hW⟩ := hv
  obtain ⟨Z, E, hr⟩ := zEnter (own := RX8) B hml rfl hW
  have hl := lv_entry ([.ref a0, .int a1]) (n := 2) (Nat.le_of_ble_eq_true rfl)
  rw [lg_entry_eq]
  generalize (lg_sl ([.ref a0, .int a1]) ++ List.replicate (2 - (lg_sl ([.ref a0, .int a1])).length) Slot.unset).toArray = ls at hl ⊢
  have hl : lv_has ls 2 [(0, .ref a0), (1, .int a1)] := hl
  exact t_X8_end (out := (r, h')) Z hr hf E hl
/-! FerryCrewsModel.is(II)Z -/
theorem dX8_is_0 : decode cX8_is 0 = .ok (.aload_n 0, 1) := by decide +kernel
theorem dX8_is_1 : decode cX8_is 1 = .ok (.iload_n 1, 1) := by decide +kernel
theorem dX8_is_2 : decode cX8_is 2 = .ok (.iconst 0, 1) := by decide +kernel
theorem dX8_is_3 : decode cX8_is 3 = .ok (.invokevirtual 38, 3) := by decide +kernel
theorem dX8_is_6 : decode cX8_is 6 = .ok (.iload_n 2, 1) := by decide +kernel
theorem dX8_is_7 : decode cX8_is 7 = .ok (.if_icmp .ne 7, 3) := by decide +kernel
theorem dX8_is_10 : decode cX8_is 10 = .ok (.iconst 1, 1) := by decide +kernel
theorem dX8_is_11 : decode cX8_is 11 = .ok (.goto 4, 3) := by decide +kernel
theorem dX8_is_14 : decode cX8_is 14 = .ok (.iconst 0, 1) := by decide +kernel
theorem dX8_is_15 : decode cX8_is 15 = .ok (.ireturn, 1) := by decide +kernel
def rm_X8_is : Room := { frames := 1, cells := 0, slots := 0, locals := 22 }
set_option maxHeartbeats 4000000 in
set_option maxRecDepth 20000 in
theorem t_X8_is {p : Program} {l : Launch} {e : Env} {s : State} {m : MethodId} {args : Array Value} {below : List Frame} {meth : Method} {c : Code} {G : zG} (Z : zF p s m args c meth cX8_is 3 RX8 G) (hr : meth.sig.returnType = (some .boolean)) {out : Int32 × zHp} {a0 : Nat} {a1 : Int32} {a2 : Int32} {h : zHp} {H : Heap} {locs : List Loc} {ls : Array Slot} (hf : f_X8_is a0 a1 a2 h = some out) (E : zE G s h H locs) (hl : lv_has ls 3 [(0, .ref a0), (1, .int a1), (2, .int a2)]) : W p l e rm_X8_is s m args below meth c H locs 0 0 (MQ below (zQi G out.1 out.2) args s 0 0 (zA G)) (F0 m 0 ls []) := by
  unfold f_X8_is at hf
  refine lv_aload_n Z.x Z.b dX8_is_0 rfl (lv_at hl 0 rfl) ?_
  refine lv_iload_n Z.x Z.b dX8_is_1 rfl (lv_at hl 1 rfl) ?_
  refine lv_iconst (v := 0) Z.x Z.b dX8_is_2 (by decide) ?_
  refine z_Vi (As := [.int a1, .int 0]) Z E hl.1 k_X8_38 v_X8_of hf (fun r h' e => c_X8_of l G h h' a0 a1 0 r e) rfl rfl (Nat.le_of_ble_eq_true rfl) (zRm_of rfl (Nat.zero_le _) (Nat.zero_le _)) dX8_is_3 (fun v1 h2 H locs hf E => ?_)
  refine lv_iload_n Z.x Z.b dX8_is_6 rfl (lv_at hl 2 rfl) ?_
  refine lv_icmp_ne (tgt := 14) Z.x Z.b dX8_is_7 (by decide) (fun c => ?_) (fun c => ?_)
  · have hf := zif_ hf c
    refine lv_iconst (v := 0) Z.x Z.b dX8_is_14 (by decide) ?_
    exact z_zret Z E hr dX8_is_15 hf
  · have hf := zit hf c
    refine lv_iconst (v := 1) Z.x Z.b dX8_is_10 (by decide) ?_
    refine lv_goto (tgt := 15) Z.x Z.b dX8_is_11 (by decide) ?_
    exact z_zret Z E hr dX8_is_15 hf
set_option maxHeartbeats 4000000 in
set_option maxRecDepth 20000 in
theorem c_X8_is (l : Launch) (G : zG) (h : zHp) (h' : zHp) (a0 : Nat) (a1 : Int32) (a2 : Int32) (r : Int32) (hf : f_X8_is a0 a1 a2 h = some (r, h')) : zM0 l yX8_is cX8_is 3 (some .boolean) rm_X8_is G [.ref a0, .int a1, .int a2] h (zQi G r h') := by
  refine Met.ofW (cc := cX8_is) (maxL := 3) (ret := (some .boolean)) (by decide) rfl ?_
  intro p e s m args below meth c s₁ B hml hv
  obtain ⟨rfl, hW⟩ := hv
  obtain ⟨Z, E, hr⟩ := zEnter (own := RX8) B hml rfl hW
  have hl := lv_entry ([.ref a0, .int a1, .int a2]) (n := 3) (Nat.le_of_ble_eq_true rfl)
  rw [lg_entry_eq]
  generalize (lg_sl ([.ref a0, .int a1, .int a2]) ++ List.replicate (3 - (lg_sl ([.ref a0, .int a1, .int a2])).length) Slot.unset).toArray = ls at hl ⊢
  have hl : lv_has ls 3 [(0, .ref a0), (1, .int a1), (2, .int a2)] := hl
  exact t_X8_is (out := (r, h')) Z hr hf E hl
/-! FerryCrewsModel.isSailing(I)Z -/
theorem dX8_isSailing_0 : decode cX8_isSailing 0 = .ok (.iload_n 1, 1) := by decide +kernel
theorem dX8_isSailing_1 : decode cX8_isSailing 1 = .ok (.iconst 0, 1) := by decide +kernel
theorem dX8_isSailing_2 : decode cX8_isSailing 2 = .ok (.aload_n 0, 1) := by decide +kernel
theorem dX8_isSailing_3 : decode cX8_isSailing 3 = .ok (.getfield 7, 3) := by decide +kernel
theorem dX8_isSailing_6 : decode cX8_isSailing 6 = .ok (.iconst 1, 1) := by decide +kernel
theorem dX8_isSailing_7 : decode cX8_isSailing 7 = .ok (.iaload, 1) := by decide +kernel
theorem dX8_isSailing_8 : decode cX8_isSailing 8 = .ok (.iconst 1, 1) := by decide +kernel
theorem dX8_isSailing_9 : decode cX8_isSailing 9 = .ok (.isub, 1) := by decide +kernel
theorem dX8_isSailing_10 : decode cX8_isSailing 10 = .ok (.invokestatic 42, 3) := by decide +kernel
theorem dX8_isSailing_13 : decode cX8_isSailing 13 = .ok (.ireturn, 1) := by decide +kernel
set_option maxRecDepth 20000 in
theorem wc_X8_in : Cond.code yX8_in cX8_in 3 (some .boolean) ∈ zB := List.mem_filter.mpr ⟨List.mem_of_getElem? (i := 846) (by decide +kernel), by decide +kernel⟩
set_option maxRecDepth 20000 in
theorem wm_X8_42 : Cond.methodLink RX8 42 yX8_in ∈ zB := List.mem_filter.mpr ⟨List.mem_of_getElem? (i := 844) (by decide +kernel), by decide +kernel⟩
theorem k_X8_42 : zCal RX8 42 yX8_in cX8_in 3 (some .boolean) 3 := ⟨wm_X8_42, wi_X8, wc_X8_in, by decide +kernel, by decide +kernel, by decide +kernel⟩
set_option maxRecDepth 20000 in
theorem wt_X8_in : Cond.static yX8_in ∈ zB := List.mem_filter.mpr ⟨List.mem_of_getElem? (i := 845) (by decide +kernel), by decide +kernel⟩
def rm_X8_isSailing : Room := { frames := 1, cells := 0, slots := 0, locals := 22 }
set_option maxHeartbeats 4000000 in
set_option maxRecDepth 20000 in
theorem t_X8_isSailing {p : Program} {l : Launch} {e : Env} {s : State} {m : MethodId} {args : Array Value} {below : List Frame} {meth : Method} {c : Code} {G : zG} (Z : zF p s m args c meth cX8_isSailing 2 RX8 G) (hr : meth.sig.returnType = (some .boolean)) {out : Int32 × zHp} {a0 : Nat} {a1 : Int32} {h : zHp} {H : Heap} {locs : List Loc} {ls : Array Slot} (hf : f_X8_isSailing a0 a1 h = some out) (E : zE G s h H locs) (hl : lv_has ls 2 [(0, .ref a0), (1, .int a1)]) : W p l e rm_X8_isSailing s m args below meth c H locs 0 0 (MQ below (zQi G out.1 out.2) args s 0 0 (zA G)) (F0 m 0 ls []) := by
  unfold f_X8_isSailing at hf
  refine lv_iload_n Z.x Z.b dX8_isSailing_0 rfl (lv_at hl 1 rfl) ?_
  refine lv_iconst (v := 0) Z.x Z.b dX8_isSailing_1 (by decide) ?_
  refine lv_aload_n Z.x Z.b dX8_isSailing_2 rfl (lv_at hl 0 rfl) ?_
  refine z_getR Z E q_X8_7 dX8_isSailing_3 hf (fun v1 hf => ?_)
  refine lv_iconst (v := 1) Z.x Z.b dX8_isSailing_6 (by decide) ?_
  refine z_iald Z E dX8_isSailing_7 hf (fun v2 hf => ?_)
  refine lv_iconst (v := 1) Z.x Z.b dX8_isSailing_8 (by decide) ?_
  refine lv_isub Z.x Z.b dX8_isSailing_9 ?_
  refine z_Si (As := [.int a1, .int 0, .int (v2 - 1)]) Z E hl.1 k_X8_42 wt_X8_in hf (fun r h' e => c_X8_in l G h h' a1 0 (v2 - 1) r e) rfl rfl (Nat.le_of_ble_eq_true rfl) (zRm_of rfl (Nat.zero_le _) (Nat.zero_le _)) dX8_isSailing_10 (fun v3 h4 H locs hf E => ?_)
  exact z_zret Z E hr dX8_isSailing_13 hf
set_option maxHeartbeats 4000000 in
set_option maxRecDepth 20000 in
theorem c_X8_isSailing (l : Launch) (G : zG) (h : zHp) (h' : zHp) (a0 : Nat) (a1 : Int32) (r : Int32) (hf : f_X8_isSailing a0 a1 h = some (r, h')) : zM0 l yX8_isSailing cX8_isSailing 2 (some .boolean) rm_X8_isSailing G [.ref a0, .int a1] h (zQi G r h') := by
  refine Met.ofW (cc := cX8_isSailing) (maxL := 2) (ret := (some .boolean)) (by decide) rfl ?_
  intro p e s m args below meth c s₁ B hml hv
  obtain ⟨rfl, hW⟩ := hv
  obtain ⟨Z, E, hr⟩ := zEnter (own := RX8) B hml rfl hW
  have hl := lv_entry ([.ref a0, .int a1]) (n := 2) (Nat.le_of_ble_eq_true rfl)
  rw [lg_entry_eq]
  generalize (lg_sl ([.ref a0, .int a1]) ++ List.replicate (2 - (lg_sl ([.ref a0, .int a1])).length) Slot.unset).toArray = ls at hl ⊢
  have hl : lv_has ls 2 [(0, .ref a0), (1, .int a1)] := hl
  exact t_X8_isSailing (out := (r, h')) Z hr hf E hl
/-! FerryCrewsModel.isMember(I)Z -/
theorem dX8_isMember_0 : decode cX8_isMember 0 = .ok (.iload_n 1, 1) := by decide +kernel
theorem dX8_isMember_1 : decode cX8_isMember 1 = .ok (.iconst 0, 1) := by decide +kernel
theorem dX8_isMember_2 : decode cX8_isMember 2 = .ok (.aload_n 0, 1) := by decide +kernel
theorem dX8_isMember_3 : decode cX8_isMember 3 = .ok (.getfield 7, 3) := by decide +kernel
theorem dX8_isMember_6 : decode cX8_isMember 6 = .ok (.iconst 2, 1) := by decide +kernel
theorem dX8_isMember_7 : decode cX8_isMember 7 = .ok (.iaload, 1) := by decide +kernel
theorem dX8_isMember_8 : decode cX8_isMember 8 = .ok (.iconst 1, 1) := by decide +kernel
theorem dX8_isMember_9 : decode cX8_isMember 9 = .ok (.isub, 1) := by decide +kernel
theorem dX8_isMember_10 : decode cX8_isMember 10 = .ok (.invokestatic 42, 3) := by decide +kernel
theorem dX8_isMember_13 : decode cX8_isMember 13 = .ok (.ireturn, 1) := by decide +kernel
def rm_X8_isMember : Room := { frames := 1, cells := 0, slots := 0, locals := 22 }
set_option maxHeartbeats 4000000 in
set_option maxRecDepth 20000 in
theorem t_X8_isMember {p : Program} {l : Launch} {e : Env} {s : State} {m : MethodId} {args : Array Value} {below : List Frame} {meth : Method} {c : Code} {G : zG} (Z : zF p s m args c meth cX8_isMember 2 RX8 G) (hr : meth.sig.returnType = (some .boolean)) {out : Int32 × zHp} {a0 : Nat} {a1 : Int32} {h : zHp} {H : Heap} {locs : List Loc} {ls : Array Slot} (hf : f_X8_isMember a0 a1 h = some out) (E : zE G s h H locs) (hl : lv_has ls 2 [(0, .ref a0), (1, .int a1)]) : W p l e rm_X8_isMember s m args below meth c H locs 0 0 (MQ below (zQi G out.1 out.2) args s 0 0 (zA G)) (F0 m 0 ls []) := by
  unfold f_X8_isMember at hf
  refine lv_iload_n Z.x Z.b dX8_isMember_0 rfl (lv_at hl 1 rfl) ?_
  refine lv_iconst (v := 0) Z.x Z.b dX8_isMember_1 (by decide) ?_
  refine lv_aload_n Z.x Z.b dX8_isMember_2 rfl (lv_at hl 0 rfl) ?_
  refine z_getR Z E q_X8_7 dX8_isMember_3 hf (fun v1 hf => ?_)
  refine lv_iconst (v := 2) Z.x Z.b dX8_isMember_6 (by decide) ?_
  refine z_iald Z E dX8_isMember_7 hf (fun v2 hf => ?_)
  refine lv_iconst (v := 1) Z.x Z.b dX8_isMember_8 (by decide) ?_
  refine lv_isub Z.x Z.b dX8_isMember_9 ?_
  refine z_Si (As := [.int a1, .int 0, .int (v2 - 1)]) Z E hl.1 k_X8_42 wt_X8_in hf (fun r h' e => c_X8_in l G h h' a1 0 (v2 - 1) r e) rfl rfl (Nat.le_of_ble_eq_true rfl) (zRm_of rfl (Nat.zero_le _) (Nat.zero_le _)) dX8_isMember_10 (fun v3 h4 H locs hf E => ?_)
  exact z_zret Z E hr dX8_isMember_13 hf
set_option maxHeartbeats 4000000 in
set_option maxRecDepth 20000 in
theorem c_X8_isMember (l : Launch) (G : zG) (h : zHp) (h' : zHp) (a0 : Nat) (a1 : Int32) (r : Int32) (hf : f_X8_isMember a0 a1 h = some (r, h')) : zM0 l yX8_isMember cX8_isMember 2 (some .boolean) rm_X8_isMember G [.ref a0, .int a1] h (zQi G r h') := by
  refine Met.ofW (cc := cX8_isMember) (maxL := 2) (ret := (some .boolean)) (by decide) rfl ?_
  intro p e s m args below meth c s₁ B hml hv
  obtain ⟨rfl, hW⟩ := hv
  obtain ⟨Z, E, hr⟩ := zEnter (own := RX8) B hml rfl hW
  have hl := lv_entry ([.ref a0, .int a1]) (n := 2) (Nat.le_of_ble_eq_true rfl)
  rw [lg_entry_eq]
  generalize (lg_sl ([.ref a0, .int a1]) ++ List.replicate (2 - (lg_sl ([.ref a0, .int a1])).length) Slot.unset).toArray = ls at hl ⊢
  have hl : lv_has ls 2 [(0, .ref a0), (1, .int a1)] := hl
  exact t_X8_isMember (out := (r, h')) Z hr hf E hl
/-! FerryCrewsModel.isRole(I)Z -/
theorem dX8_isRole_0 : decode cX8_isRole 0 = .ok (.iload_n 0, 1) := by decide +kernel
theorem dX8_isRole_1 : decode cX8_isRole 1 = .ok (.iconst 0, 1) := by decide +kernel
theorem dX8_isRole_2 : decode cX8_isRole 2 = .ok (.iconst 3, 1) := by decide +kernel
theorem dX8_isRole_3 : decode cX8_isRole 3 = .ok (.invokestatic 42, 3) := by decide +kernel
theorem dX8_isRole_6 : decode cX8_isRole 6 = .ok (.ireturn, 1) := by decide +kernel
def rm_X8_isRole : Room := { frames := 1, cells := 0, slots := 0, locals := 22 }
set_option maxHeartbeats 4000000 in
set_option maxRecDepth 20000 in
theorem t_X8_isRole {p : Program} {l : Launch} {e : Env} {s : State} {m : MethodId} {args : Array Value} {below : List Frame} {meth : Method} {c : Code} {G : zG} (Z : zF p s m args c meth cX8_isRole 1 RX8 G) (hr : meth.sig.returnType = (some .boolean)) {out : Int32 × zHp} {a0 : Int32} {h : zHp} {H : Heap} {locs : List Loc} {ls : Array Slot} (hf : f_X8_isRole a0 h = some out) (E : zE G s h H locs) (hl : lv_has ls 1 [(0, .int a0)]) : W p l e rm_X8_isRole s m args below meth c H locs 0 0 (MQ below (zQi G out.1 out.2) args s 0 0 (zA G)) (F0 m 0 ls []) := by
  unfold f_X8_isRole at hf
  refine lv_iload_n Z.x Z.b dX8_isRole_0 rfl (lv_at hl 0 rfl) ?_
  refine lv_iconst (v := 0) Z.x Z.b dX8_isRole_1 (by decide) ?_
  refine lv_iconst (v := 3) Z.x Z.b dX8_isRole_2 (by decide) ?_
  refine z_Si (As := [.int a0, .int 0, .int 3]) Z E hl.1 k_X8_42 wt_X8_in hf (fun r h' e => c_X8_in l G h h' a0 0 3 r e) rfl rfl (Nat.le_of_ble_eq_true rfl) (zRm_of rfl (Nat.zero_le _) (Nat.zero_le _)) dX8_isRole_3 (fun v1 h2 H locs hf E => ?_)
  exact z_zret Z E hr dX8_isRole_6 hf
set_option maxHeartbeats 4000000 in
set_option maxRecDepth 20000 in
theorem c_X8_isRole (l : Launch) (G : zG) (h : zHp) (h' : zHp) (a0 : Int32) (r : Int32) (hf : f_X8_isRole a0 h = some (r, h')) : zM0 l yX8_isRole cX8_isRole 1 (some .boolean) rm_X8_isRole G [.int a0] h (zQi G r h') := by
  refine Met.ofW (cc := cX8_isRole) (maxL := 1) (ret := (some .boolean)) (by decide) rfl ?_
  intro p e s m args below meth c s₁ B hml hv
  obtain ⟨rfl, hW⟩ := hv
  obtain ⟨Z, E, hr⟩ := zEnter (own := RX8) B hml rfl hW
  have hl := lv_entry ([.int a0]) (n := 1) (Nat.le_of_ble_eq_true rfl)
  rw [lg_entry_eq]
  generalize (lg_sl ([.int a0]) ++ List.replicate (1 - (lg_sl ([.int a0])).length) Slot.unset).toArray = ls at hl ⊢
  have hl : lv_has ls 1 [(0, .int a0)] := hl
  exact t_X8_isRole (out := (r, h')) Z hr hf E hl
/-! FerryCrewsModel.placeOf(II)I -/
theorem dX8_placeOf_0 : decode cX8_placeOf 0 = .ok (.aload_n 0, 1) := by decide +kernel
theorem dX8_placeOf_1 : decode cX8_placeOf 1 = .ok (.getfield 7, 3) := by decide +kernel
theorem dX8_placeOf_4 : decode cX8_placeOf 4 = .ok (.sipush 393, 3) := by decide +kernel
theorem dX8_placeOf_7 : decode cX8_placeOf 7 = .ok (.bipush 12, 2) := by decide +kernel
theorem dX8_placeOf_9 : decode cX8_placeOf 9 = .ok (.iload_n 1, 1) := by decide +kernel
theorem dX8_placeOf_10 : decode cX8_placeOf 10 = .ok (.imul, 1) := by decide +kernel
theorem dX8_placeOf_11 : decode cX8_placeOf 11 = .ok (.iadd, 1) := by decide +kernel
theorem dX8_placeOf_12 : decode cX8_placeOf 12 = .ok (.iload_n 2, 1) := by decide +kernel
theorem dX8_placeOf_13 : decode cX8_placeOf 13 = .ok (.iadd, 1) := by decide +kernel
theorem dX8_placeOf_14 : decode cX8_placeOf 14 = .ok (.iaload, 1) := by decide +kernel
theorem dX8_placeOf_15 : decode cX8_placeOf 15 = .ok (.ireturn, 1) := by decide +kernel
def rm_X8_placeOf : Room := { frames := 0, cells := 0, slots := 0, locals := 0 }
set_option maxHeartbeats 4000000 in
set_option maxRecDepth 20000 in
theorem t_X8_placeOf {p : Program} {l : Launch} {e : Env} {s : State} {m : MethodId} {args : Array Value} {below : List Frame} {meth : Method} {c : Code} {G : zG} (Z : zF p s m args c meth cX8_placeOf 3 RX8 G) (hr : meth.sig.returnType = (some .int)) {out : Int32 × zHp} {a0 : Nat} {a1 : Int32} {a2 : Int32} {h : zHp} {H : Heap} {locs : List Loc} {ls : Array Slot} (hf : f_X8_placeOf a0 a1 a2 h = some out) (E : zE G s h H locs) (hl : lv_has ls 3 [(0, .ref a0), (1, .int a1), (2, .int a2)]) : W p l e rm_X8_placeOf s m args below meth c H locs 0 0 (MQ below (zQi G out.1 out.2) args s 0 0 (zA G)) (F0 m 0 ls []) := by
  unfold f_X8_placeOf at hf
  refine lv_aload_n Z.x Z.b dX8_placeOf_0 rfl (lv_at hl 0 rfl) ?_
  refine z_getR Z E q_X8_7 dX8_placeOf_1 hf (fun v1 hf => ?_)
  refine lv_sipush (v := 393) Z.x Z.b dX8_placeOf_4 (by decide) ?_
  refine lv_bipush (v := 12) Z.x Z.b dX8_placeOf_7 (by decide) ?_
  refine lv_iload_n Z.x Z.b dX8_placeOf_9 rfl (lv_at hl 1 rfl) ?_
  refine lv_imul Z.x Z.b dX8_placeOf_10 ?_
  refine lv_iadd Z.x Z.b dX8_placeOf_11 ?_
  refine lv_iload_n Z.x Z.b dX8_placeOf_12 rfl (lv_at hl 2 rfl) ?_
  refine lv_iadd Z.x Z.b dX8_placeOf_13 ?_
  refine z_iald Z E dX8_placeOf_14 hf (fun v2 hf => ?_)
  exact z_iret Z E hr dX8_placeOf_15 hf
set_option maxHeartbeats 4000000 in
set_option maxRecDepth 20000 in
theorem c_X8_placeOf (l : Launch) (G : zG) (h : zHp) (h' : zHp) (a0 : Nat) (a1 : Int32) (a2 : Int32) (r : Int32) (hf : f_X8_placeOf a0 a1 a2 h = some (r, h')) : zM0 l yX8_placeOf cX8_placeOf 3 (some .int) rm_X8_placeOf G [.ref a0, .int a1, .int a2] h (zQi G r h') := by
  refine Met.ofW (cc := cX8_placeOf) (maxL := 3) (ret := (some .int)) (by decide) rfl ?_
  intro p e s m args below meth c s₁ B hml hv
  obtain ⟨rfl, hW⟩ := hv
  obtain ⟨Z, E, hr⟩ := zEnter (own := RX8) B hml rfl hW
  have hl := lv_entry ([.ref a0, .int a1, .int a2]) (n := 3) (Nat.le_of_ble_eq_true rfl)
  rw [lg_entry_eq]
  generalize (lg_sl ([.ref a0, .int a1, .int a2]) ++ List.replicate (3 - (lg_sl ([.ref a0, .int a1, .int a2])).length) Slot.unset).toArray = ls at hl ⊢
  have hl : lv_has ls 3 [(0, .ref a0), (1, .int a1), (2, .int a2)] := hl
  exact t_X8_placeOf (out := (r, h')) Z hr hf E hl
/-! FerryCrewsModel.setPlace(III)V -/
theorem dX8_setPlace_0 : decode cX8_setPlace 0 = .ok (.aload_n 0, 1) := by decide +kernel
theorem dX8_setPlace_1 : decode cX8_setPlace 1 = .ok (.getfield 7, 3) := by decide +kernel
theorem dX8_setPlace_4 : decode cX8_setPlace 4 = .ok (.sipush 393, 3) := by decide +kernel
theorem dX8_setPlace_7 : decode cX8_setPlace 7 = .ok (.bipush 12, 2) := by decide +kernel
theorem dX8_setPlace_9 : decode cX8_setPlace 9 = .ok (.iload_n 1, 1) := by decide +kernel
theorem dX8_setPlace_10 : decode cX8_setPlace 10 = .ok (.imul, 1) := by decide +kernel
theorem dX8_setPlace_11 : decode cX8_setPlace 11 = .ok (.iadd, 1) := by decide +kernel
theorem dX8_setPlace_12 : decode cX8_setPlace 12 = .ok (.iload_n 2, 1) := by decide +kernel
theorem dX8_setPlace_13 : decode cX8_setPlace 13 = .ok (.iadd, 1) := by decide +kernel
theorem dX8_setPlace_14 : decode cX8_setPlace 14 = .ok (.iload_n 3, 1) := by decide +kernel
theorem dX8_setPlace_15 : decode cX8_setPlace 15 = .ok (.iastore, 1) := by decide +kernel
theorem dX8_setPlace_16 : decode cX8_setPlace 16 = .ok (.return_, 1) := by decide +kernel
def rm_X8_setPlace : Room := { frames := 0, cells := 0, slots := 0, locals := 0 }
set_option maxHeartbeats 4000000 in
set_option maxRecDepth 20000 in
theorem t_X8_setPlace {p : Program} {l : Launch} {e : Env} {s : State} {m : MethodId} {args : Array Value} {below : List Frame} {meth : Method} {c : Code} {G : zG} (Z : zF p s m args c meth cX8_setPlace 4 RX8 G) (hr : meth.sig.returnType = none) {out : zHp} {a0 : Nat} {a1 : Int32} {a2 : Int32} {a3 : Int32} {h : zHp} {H : Heap} {locs : List Loc} {ls : Array Slot} (hf : f_X8_setPlace a0 a1 a2 a3 h = some out) (E : zE G s h H locs) (hl : lv_has ls 4 [(0, .ref a0), (1, .int a1), (2, .int a2), (3, .int a3)]) : W p l e rm_X8_setPlace s m args below meth c H locs 0 0 (MQ below (zQv G out) args s 0 0 (zA G)) (F0 m 0 ls []) := by
  unfold f_X8_setPlace at hf
  refine lv_aload_n Z.x Z.b dX8_setPlace_0 rfl (lv_at hl 0 rfl) ?_
  refine z_getR Z E q_X8_7 dX8_setPlace_1 hf (fun v1 hf => ?_)
  refine lv_sipush (v := 393) Z.x Z.b dX8_setPlace_4 (by decide) ?_
  refine lv_bipush (v := 12) Z.x Z.b dX8_setPlace_7 (by decide) ?_
  refine lv_iload_n Z.x Z.b dX8_setPlace_9 rfl (lv_at hl 1 rfl) ?_
  refine lv_imul Z.x Z.b dX8_setPlace_10 ?_
  refine lv_iadd Z.x Z.b dX8_setPlace_11 ?_
  refine lv_iload_n Z.x Z.b dX8_setPlace_12 rfl (lv_at hl 2 rfl) ?_
  refine lv_iadd Z.x Z.b dX8_setPlace_13 ?_
  refine lv_iload_n Z.x Z.b dX8_setPlace_14 rfl (lv_at hl 3 rfl) ?_
  refine z_iast Z E dX8_setPlace_15 hf (fun h2 H locs hf E => ?_)
  exact z_vret Z E hr dX8_setPlace_16 hf
set_option maxHeartbeats 4000000 in
set_option maxRecDepth 20000 in
theorem c_X8_setPlace (l : Launch) (G : zG) (h : zHp) (h' : zHp) (a0 : Nat) (a1 : Int32) (a2 : Int32) (a3 : Int32) (hf : f_X8_setPlace a0 a1 a2 a3 h = some h') : zM0 l yX8_setPlace cX8_setPlace 4 none rm_X8_setPlace G [.ref a0, .int a1, .int a2, .int a3] h (zQv G h') := by
  refine Met.ofW (cc := cX8_setPlace) (maxL := 4) (ret := none) (by decide) rfl ?_
  intro p e s m args below meth c s₁ B hml hv
  obtain ⟨rfl, hW⟩ := hv
  obtain ⟨Z, E, hr⟩ := zEnter (own := RX8) B hml rfl hW
  have hl := lv_entry ([.ref a0, .int a1, .int a2, .int a3]) (n := 4) (Nat.le_of_ble_eq_true rfl)
  rw [lg_entry_eq]
  generalize (lg_sl ([.ref a0, .int a1, .int a2, .int a3]) ++ List.replicate (4 - (lg_sl ([.ref a0, .int a1, .int a2, .int a3])).length) Slot.unset).toArray = ls at hl ⊢
  have hl : lv_has ls 4 [(0, .ref a0), (1, .int a1), (2, .int a2), (3, .int a3)] := hl
  exact t_X8_setPlace (out := h') Z hr hf E hl
/-! FerryCrewsModel.has(II)I -/
theorem dX8_has_0 : decode cX8_has 0 = .ok (.aload_n 0, 1) := by decide +kernel
theorem dX8_has_1 : decode cX8_has 1 = .ok (.getfield 7, 3) := by decide +kernel
theorem dX8_has_4 : decode cX8_has 4 = .ok (.sipush 969, 3) := by decide +kernel
theorem dX8_has_7 : decode cX8_has 7 = .ok (.bipush 6, 2) := by decide +kernel
theorem dX8_has_9 : decode cX8_has 9 = .ok (.iload_n 1, 1) := by decide +kernel
theorem dX8_has_10 : decode cX8_has 10 = .ok (.imul, 1) := by decide +kernel
theorem dX8_has_11 : decode cX8_has 11 = .ok (.iadd, 1) := by decide +kernel
theorem dX8_has_12 : decode cX8_has 12 = .ok (.iload_n 2, 1) := by decide +kernel
theorem dX8_has_13 : decode cX8_has 13 = .ok (.iadd, 1) := by decide +kernel
theorem dX8_has_14 : decode cX8_has 14 = .ok (.iaload, 1) := by decide +kernel
theorem dX8_has_15 : decode cX8_has 15 = .ok (.ireturn, 1) := by decide +kernel
def rm_X8_has : Room := { frames := 0, cells := 0, slots := 0, locals := 0 }
set_option maxHeartbeats 4000000 in
set_option maxRecDepth 20000 in
theorem t_X8_has {p : Program} {l : Launch} {e : Env} {s : State} {m : MethodId} {args : Array Value} {below : List Frame} {meth : Method} {c : Code} {G : zG} (Z : zF p s m args c meth cX8_has 3 RX8 G) (hr : meth.sig.returnType = (some .int)) {out : Int32 × zHp} {a0 : Nat} {a1 : Int32} {a2 : Int32} {h : zHp} {H : Heap} {locs : List Loc} {ls : Array Slot} (hf : f_X8_has a0 a1 a2 h = some out) (E : zE G s h H locs) (hl : lv_has ls 3 [(0, .ref a0), (1, .int a1), (2, .int a2)]) : W p l e rm_X8_has s m args below meth c H locs 0 0 (MQ below (zQi G out.1 out.2) args s 0 0 (zA G)) (F0 m 0 ls []) := by
  unfold f_X8_has at hf
  refine lv_aload_n Z.x Z.b dX8_has_0 rfl (lv_at hl 0 rfl) ?_
  refine z_getR Z E q_X8_7 dX8_has_1 hf (fun v1 hf => ?_)
  refine lv_sipush (v := 969) Z.x Z.b dX8_has_4 (by decide) ?_
  refine lv_bipush (v := 6) Z.x Z.b dX8_has_7 (by decide) ?_
  refine lv_iload_n Z.x Z.b dX8_has_9 rfl (lv_at hl 1 rfl) ?_
  refine lv_imul Z.x Z.b dX8_has_10 ?_
  refine lv_iadd Z.x Z.b dX8_has_11 ?_
  refine lv_iload_n Z.x Z.b dX8_has_12 rfl (lv_at hl 2 rfl) ?_
  refine lv_iadd Z.x Z.b dX8_has_13 ?_
  refine z_iald Z E dX8_has_14 hf (fun v2 hf => ?_)
  exact z_iret Z E hr dX8_has_15 hf
set_option maxHeartbeats 4000000 in
set_option maxRecDepth 20000 in
theorem c_X8_has (l : Launch) (G : zG) (h : zHp) (h' : zHp) (a0 : Nat) (a1 : Int32) (a2 : Int32) (r : Int32) (hf : f_X8_has a0 a1 a2 h = some (r, h')) : zM0 l yX8_has cX8_has 3 (some .int) rm_X8_has G [.ref a0, .int a1, .int a2] h (zQi G r h') := by
  refine Met.ofW (cc := cX8_has) (maxL := 3) (ret := (some .int)) (by decide) rfl ?_
  intro p e s m args below meth c s₁ B hml hv
  obtain ⟨rfl, hW⟩ := hv
  obtain ⟨Z, E, hr⟩ := zEnter (own := RX8) B hml rfl hW
  have hl := lv_entry ([.ref a0, .int a1, .int a2]) (n := 3) (Nat.le_of_ble_eq_true rfl)
  rw [lg_entry_eq]
  generalize (lg_sl ([.ref a0, .int a1, .int a2]) ++ List.replicate (3 - (lg_sl ([.ref a0, .int a1, .int a2])).length) Slot.unset).toArray = ls at hl ⊢
  have hl : lv_has ls 3 [(0, .ref a0), (1, .int a1), (2, .int a2)] := hl
  exact t_X8_has (out := (r, h')) Z hr hf E hl
/-! FerryCrewsModel.note(III)V -/
theorem dX8_note_0 : decode cX8_note 0 = .ok (.aload_n 0, 1) := by decide +kernel
theorem dX8_note_1 : decode cX8_note 1 = .ok (.getfield 7, 3) := by decide +kernel
theorem dX8_note_4 : decode cX8_note 4 = .ok (.sipush 969, 3) := by decide +kernel
theorem dX8_note_7 : decode cX8_note 7 = .ok (.bipush 6, 2) := by decide +kernel
theorem dX8_note_9 : decode cX8_note 9 = .ok (.iload_n 1, 1) := by decide +kernel
theorem dX8_note_10 : decode cX8_note 10 = .ok (.imul, 1) := by decide +kernel
theorem dX8_note_11 : decode cX8_note 11 = .ok (.iadd, 1) := by decide +kernel
theorem dX8_note_12 : decode cX8_note 12 = .ok (.iload_n 2, 1) := by decide +kernel
theorem dX8_note_13 : decode cX8_note 13 = .ok (.iadd, 1) := by decide +kernel
theorem dX8_note_14 : decode cX8_note 14 = .ok (.iload_n 3, 1) := by decide +kernel
theorem dX8_note_15 : decode cX8_note 15 = .ok (.iastore, 1) := by decide +kernel
theorem dX8_note_16 : decode cX8_note 16 = .ok (.return_, 1) := by decide +kernel
def rm_X8_note : Room := { frames := 0, cells := 0, slots := 0, locals := 0 }
set_option maxHeartbeats 4000000 in
set_option maxRecDepth 20000 in
theorem t_X8_note {p : Program} {l : Launch} {e : Env} {s : State} {m : MethodId} {args : Array Value} {below : List Frame} {meth : Method} {c : Code} {G : zG} (Z : zF p s m args c meth cX8_note 4 RX8 G) (hr : meth.sig.returnType = none) {out : zHp} {a0 : Nat} {a1 : Int32} {a2 : Int32} {a3 : Int32} {h : zHp} {H : Heap} {locs : List Loc} {ls : Array Slot} (hf : f_X8_note a0 a1 a2 a3 h = some out) (E : zE G s h H locs) (hl : lv_has ls 4 [(0, .ref a0), (1, .int a1), (2, .int a2), (3, .int a3)]) : W p l e rm_X8_note s m args below meth c H locs 0 0 (MQ below (zQv G out) args s 0 0 (zA G)) (F0 m 0 ls []) := by
  unfold f_X8_note at hf
  refine lv_aload_n Z.x Z.b dX8_note_0 rfl (lv_at hl 0 rfl) ?_
  refine z_getR Z E q_X8_7 dX8_note_1 hf (fun v1 hf => ?_)
  refine lv_sipush (v := 969) Z.x Z.b dX8_note_4 (by decide) ?_
  refine lv_bipush (v := 6) Z.x Z.b dX8_note_7 (by decide) ?_
  refine lv_iload_n Z.x Z.b dX8_note_9 rfl (lv_at hl 1 rfl) ?_
  refine lv_imul Z.x Z.b dX8_note_10 ?_
  refine lv_iadd Z.x Z.b dX8_note_11 ?_
  refine lv_iload_n Z.x Z.b dX8_note_12 rfl (lv_at hl 2 rfl) ?_
  refine lv_iadd Z.x Z.b dX8_note_13 ?_
  refine lv_iload_n Z.x Z.b dX8_note_14 rfl (lv_at hl 3 rfl) ?_
  refine z_iast Z E dX8_note_15 hf (fun h2 H locs hf E => ?_)
  exact z_vret Z E hr dX8_note_16 hf
set_option maxHeartbeats 4000000 in
set_option maxRecDepth 20000 in
theorem c_X8_note (l : Launch) (G : zG) (h : zHp) (h' : zHp) (a0 : Nat) (a1 : Int32) (a2 : Int32) (a3 : Int32) (hf : f_X8_note a0 a1 a2 a3 h = some h') : zM0 l yX8_note cX8_note 4 none rm_X8_note G [.ref a0, .int a1, .int a2, .int a3] h (zQv G h') := by
  refine Met.ofW (cc := cX8_note) (maxL := 4) (ret := none) (by decide) rfl ?_
  intro p e s m args below meth c s₁ B hml hv
  obtain ⟨rfl, hW⟩ := hv
  obtain ⟨Z, E, hr⟩ := zEnter (own := RX8) B hml rfl hW
  have hl := lv_entry ([.ref a0, .int a1, .int a2, .int a3]) (n := 4) (Nat.le_of_ble_eq_true rfl)
  rw [lg_entry_eq]
  generalize (lg_sl ([.ref a0, .int a1, .int a2, .int a3]) ++ List.replicate (4 - (lg_sl ([.ref a0, .int a1, .int a2, .int a3])).length) Slot.unset).toArray = ls at hl ⊢
  have hl : lv_has ls 4 [(0, .ref a0), (1, .int a1), (2, .int a2), (3, .int a3)] := hl
  exact t_X8_note (out := h') Z hr hf E hl
/-! FerryCrewsModel.taken(II)I -/
theorem dX8_taken_0 : decode cX8_taken 0 = .ok (.iconst 0, 1) := by decide +kernel
theorem dX8_taken_1 : decode cX8_taken 1 = .ok (.istore_n 3, 1) := by decide +kernel
theorem dX8_taken_2 : decode cX8_taken 2 = .ok (.iconst 0, 1) := by decide +kernel
theorem dX8_taken_3 : decode cX8_taken 3 = .ok (.istore 4, 2) := by decide +kernel
theorem dX8_taken_5 : decode cX8_taken 5 = .ok (.iload 4, 2) := by decide +kernel
theorem dX8_taken_7 : decode cX8_taken 7 = .ok (.aload_n 0, 1) := by decide +kernel
theorem dX8_taken_8 : decode cX8_taken 8 = .ok (.getfield 7, 3) := by decide +kernel
theorem dX8_taken_11 : decode cX8_taken 11 = .ok (.iconst 2, 1) := by decide +kernel
theorem dX8_taken_12 : decode cX8_taken 12 = .ok (.iaload, 1) := by decide +kernel
theorem dX8_taken_13 : decode cX8_taken 13 = .ok (.if_icmp .ge 30, 3) := by decide +kernel
theorem dX8_taken_16 : decode cX8_taken 16 = .ok (.iload_n 3, 1) := by decide +kernel
theorem dX8_taken_17 : decode cX8_taken 17 = .ok (.aload_n 0, 1) := by decide +kernel
theorem dX8_taken_18 : decode cX8_taken 18 = .ok (.iload_n 1, 1) := by decide +kernel
theorem dX8_taken_19 : decode cX8_taken 19 = .ok (.iload 4, 2) := by decide +kernel
theorem dX8_taken_21 : decode cX8_taken 21 = .ok (.invokevirtual 46, 3) := by decide +kernel
theorem dX8_taken_24 : decode cX8_taken 24 = .ok (.iload_n 2, 1) := by decide +kernel
theorem dX8_taken_25 : decode cX8_taken 25 = .ok (.iconst 1, 1) := by decide +kernel
theorem dX8_taken_26 : decode cX8_taken 26 = .ok (.iadd, 1) := by decide +kernel
theorem dX8_taken_27 : decode cX8_taken 27 = .ok (.if_icmp .ne 7, 3) := by decide +kernel
theorem dX8_taken_30 : decode cX8_taken 30 = .ok (.iconst 1, 1) := by decide +kernel
theorem dX8_taken_31 : decode cX8_taken 31 = .ok (.goto 4, 3) := by decide +kernel
theorem dX8_taken_34 : decode cX8_taken 34 = .ok (.iconst 0, 1) := by decide +kernel
theorem dX8_taken_35 : decode cX8_taken 35 = .ok (.iadd, 1) := by decide +kernel
theorem dX8_taken_36 : decode cX8_taken 36 = .ok (.istore_n 3, 1) := by decide +kernel
theorem dX8_taken_37 : decode cX8_taken 37 = .ok (.iinc 4 1, 3) := by decide +kernel
theorem dX8_taken_40 : decode cX8_taken 40 = .ok (.goto (-35), 3) := by decide +kernel
theorem dX8_taken_43 : decode cX8_taken 43 = .ok (.iload_n 3, 1) := by decide +kernel
theorem dX8_taken_44 : decode cX8_taken 44 = .ok (.ireturn, 1) := by decide +kernel
set_option maxRecDepth 20000 in
theorem wc_X8_placeOf : Cond.code yX8_placeOf cX8_placeOf 3 (some .int) ∈ zB := List.mem_filter.mpr ⟨List.mem_of_getElem? (i := 928) (by decide +kernel), by decide +kernel⟩
set_option maxRecDepth 20000 in
theorem wm_X8_46 : Cond.methodLink RX8 46 yX8_placeOf ∈ zB := List.mem_filter.mpr ⟨List.mem_of_getElem? (i := 925) (by decide +kernel), by decide +kernel⟩
theorem k_X8_46 : zCal RX8 46 yX8_placeOf cX8_placeOf 3 (some .int) 2 := ⟨wm_X8_46, wi_X8, wc_X8_placeOf, by decide +kernel, by decide +kernel, by decide +kernel⟩
set_option maxRecDepth 20000 in
theorem wn_X8_placeOf : Cond.instanceMethod yX8_placeOf ∈ zB := List.mem_filter.mpr ⟨List.mem_of_getElem? (i := 927) (by decide +kernel), by decide +kernel⟩
set_option maxRecDepth 20000 in
theorem ws_X8_placeOf : Cond.selects RX8 yX8_placeOf yX8_placeOf ∈ zB := List.mem_filter.mpr ⟨List.mem_of_getElem? (i := 29) (by decide +kernel), by decide +kernel⟩
theorem v_X8_placeOf : zVir yX8_placeOf 8 := ⟨wn_X8_placeOf, ws_X8_placeOf, TX8, 12, rfl⟩
def rm_X8_taken : Room := { frames := 1, cells := 0, slots := 0, locals := 22 }
set_option maxHeartbeats 4000000 in
set_option maxRecDepth 20000 in
theorem t_X8_taken_35 {p : Program} {l : Launch} {e : Env} {s : State} {m : MethodId} {args : Array Value} {below : List Frame} {meth : Method} {c : Code} {G : zG} (Z : zF p s m args c meth cX8_taken 5 RX8 G) (hr : meth.sig.returnType = (some .int)) {out : Int32 × zHp} {r5 : Nat → Int32 → Int32 → Int32 → Int32 → zHp → Option (Int32 × zHp)} (k5 : ∀ {a0 : Nat} {a1 : Int32} {a2 : Int32} {a3 : Int32} {a4 : Int32} {h : zHp} {H : Heap} {locs : List Loc} {ls : Array Slot}, r5 a0 a1 a2 a3 a4 h = some out → zE G s h H locs → lv_has ls 5 [(0, .ref a0), (1, .int a1), (2, .int a2), (3, .int a3), (4, .int a4)] → W p l e rm_X8_taken s m args below meth c H locs 0 0 (MQ below (zQi G out.1 out.2) args s 0 0 (zA G)) (F0 m 5 ls [])) {a0 : Nat} {a1 : Int32} {a2 : Int32} {a4 : Int32} {s0 : Int32} {s1 : Int32} {h : zHp} {H : Heap} {locs : List Loc} {ls : Array Slot} (hf : f_X8_taken_35 r5 a0 a1 a2 a4 s0 s1 h = some out) (E : zE G s h H locs) (hl : lv_has ls 5 [(0, .ref a0), (1, .int a1), (2, .int a2), (4, .int a4)]) : W p l e rm_X8_taken s m args below meth c H locs 0 0 (MQ below (zQi G out.1 out.2) args s 0 0 (zA G)) (F0 m 35 ls [.int s0, .int s1]) := by
  unfold f_X8_taken_35 at hf
  refine lv_iadd Z.x Z.b dX8_taken_35 ?_
  refine lv_istore_n (lv' := [(3, .int (s1 + s0)), (0, .ref a0), (1, .int a1), (2, .int a2), (4, .int a4)]) Z.x Z.b dX8_taken_36 rfl hl (by decide) rfl (fun ls hl => ?_)
  refine lv_iinc (v := (a4 + 1)) (lv' := [(4, .int (a4 + 1)), (3, .int (s1 + s0)), (0, .ref a0), (1, .int a1), (2, .int a2)]) Z.x Z.b dX8_taken_37 hl (k := 4) rfl rfl (by decide) rfl (fun ls hl => ?_)
  refine lv_goto (tgt := 5) Z.x Z.b dX8_taken_40 (by decide) ?_
  exact k5 hf E (lv_sub hl [2, 3, 4, 1, 0] rfl)
set_option maxHeartbeats 4000000 in
set_option maxRecDepth 20000 in
theorem t_X8_taken_5_body {p : Program} {l : Launch} {e : Env} {s : State} {m : MethodId} {args : Array Value} {below : List Frame} {meth : Method} {c : Code} {G : zG} (Z : zF p s m args c meth cX8_taken 5 RX8 G) (hr : meth.sig.returnType = (some .int)) {out : Int32 × zHp} {r5 : Nat → Int32 → Int32 → Int32 → Int32 → zHp → Option (Int32 × zHp)} (k5 : ∀ {a0 : Nat} {a1 : Int32} {a2 : Int32} {a3 : Int32} {a4 : Int32} {h : zHp} {H : Heap} {locs : List Loc} {ls : Array Slot}, r5 a0 a1 a2 a3 a4 h = some out → zE G s h H locs → lv_has ls 5 [(0, .ref a0), (1, .int a1), (2, .int a2), (3, .int a3), (4, .int a4)] → W p l e rm_X8_taken s m args below meth c H locs 0 0 (MQ below (zQi G out.1 out.2) args s 0 0 (zA G)) (F0 m 5 ls [])) {a0 : Nat} {a1 : Int32} {a2 : Int32} {a3 : Int32} {a4 : Int32} {h : zHp} {H : Heap} {locs : List Loc} {ls : Array Slot} (hf : f_X8_taken_5_body r5 a0 a1 a2 a3 a4 h = some out) (E : zE G s h H locs) (hl : lv_has ls 5 [(0, .ref a0), (1, .int a1), (2, .int a2), (3, .int a3), (4, .int a4)]) : W p l e rm_X8_taken s m args below meth c H locs 0 0 (MQ below (zQi G out.1 out.2) args s 0 0 (zA G)) (F0 m 5 ls []) := by
  unfold f_X8_taken_5_body at hf
  refine lv_iload Z.x Z.b dX8_taken_5 (lv_at hl 4 rfl) ?_
  refine lv_aload_n Z.x Z.b dX8_taken_7 rfl (lv_at hl 0 rfl) ?_
  refine z_getR Z E q_X8_7 dX8_taken_8 hf (fun v1 hf => ?_)
  refine lv_iconst (v := 2) Z.x Z.b dX8_taken_11 (by decide) ?_
  refine z_iald Z E dX8_taken_12 hf (fun v2 hf => ?_)
  refine lv_icmp_ge (tgt := 43) Z.x Z.b dX8_taken_13 (by decide) (fun c => ?_) (fun c => ?_)
  · have hf := zit hf c
    refine lv_iload_n Z.x Z.b dX8_taken_43 rfl (lv_at hl 3 rfl) ?_
    exact z_iret Z E hr dX8_taken_44 hf
  · have hf := zif_ hf c
    refine lv_iload_n Z.x Z.b dX8_taken_16 rfl (lv_at hl 3 rfl) ?_
    refine lv_aload_n Z.x Z.b dX8_taken_17 rfl (lv_at hl 0 rfl) ?_
    refine lv_iload_n Z.x Z.b dX8_taken_18 rfl (lv_at hl 1 rfl) ?_
    refine lv_iload Z.x Z.b dX8_taken_19 (lv_at hl 4 rfl) ?_
    refine z_Vi (As := [.int a1, .int a4]) Z E hl.1 k_X8_46 v_X8_placeOf hf (fun r h' e => c_X8_placeOf l G h h' a0 a1 a4 r e) rfl rfl (Nat.le_of_ble_eq_true rfl) (zRm_of rfl (Nat.zero_le _) (Nat.zero_le _)) dX8_taken_21 (fun v3 h4 H locs hf E => ?_)
    refine lv_iload_n Z.x Z.b dX8_taken_24 rfl (lv_at hl 2 rfl) ?_
    refine lv_iconst (v := 1) Z.x Z.b dX8_taken_25 (by decide) ?_
    refine lv_iadd Z.x Z.b dX8_taken_26 ?_
    refine lv_icmp_ne (tgt := 34) Z.x Z.b dX8_taken_27 (by decide) (fun c => ?_) (fun c => ?_)
    · have hf := zif_ hf c
      refine lv_iconst (v := 0) Z.x Z.b dX8_taken_34 (by decide) ?_
      exact t_X8_taken_35 Z hr k5 hf E (lv_sub hl [0, 1, 2, 4] rfl)
    · have hf := zit hf c
      refine lv_iconst (v := 1) Z.x Z.b dX8_taken_30 (by decide) ?_
      refine lv_goto (tgt := 35) Z.x Z.b dX8_taken_31 (by decide) ?_
      exact t_X8_taken_35 Z hr k5 hf E (lv_sub hl [0, 1, 2, 4] rfl)
theorem t_X8_taken_5 {p : Program} {l : Launch} {e : Env} {s : State} {m : MethodId} {args : Array Value} {below : List Frame} {meth : Method} {c : Code} {G : zG} (Z : zF p s m args c meth cX8_taken 5 RX8 G) (hr : meth.sig.returnType = (some .int)) {out : Int32 × zHp} : ∀ (n : Nat), ∀ {a0 : Nat} {a1 : Int32} {a2 : Int32} {a3 : Int32} {a4 : Int32} {h : zHp} {H : Heap} {locs : List Loc} {ls : Array Slot}, f_X8_taken_5 n a0 a1 a2 a3 a4 h = some out → zE G s h H locs → lv_has ls 5 [(0, .ref a0), (1, .int a1), (2, .int a2), (3, .int a3), (4, .int a4)] → W p l e rm_X8_taken s m args below meth c H locs 0 0 (MQ below (zQi G out.1 out.2) args s 0 0 (zA G)) (F0 m 5 ls [])
  | 0 => fun hf => by cases hf
  | n + 1 => fun hf E hl => t_X8_taken_5_body Z hr (r5 := f_X8_taken_5 n) (t_X8_taken_5 Z hr n) hf E hl
set_option maxHeartbeats 4000000 in
set_option maxRecDepth 20000 in
theorem t_X8_taken {p : Program} {l : Launch} {e : Env} {s : State} {m : MethodId} {args : Array Value} {below : List Frame} {meth : Method} {c : Code} {G : zG} (Z : zF p s m args c meth cX8_taken 5 RX8 G) (hr : meth.sig.returnType = (some .int)) {out : Int32 × zHp} {a0 : Nat} {a1 : Int32} {a2 : Int32} {h : zHp} {H : Heap} {locs : List Loc} {ls : Array Slot} (hf : f_X8_taken a0 a1 a2 h = some out) (E : zE G s h H locs) (hl : lv_has ls 5 [(0, .ref a0), (1, .int a1), (2, .int a2)]) : W p l e rm_X8_taken s m args below meth c H locs 0 0 (MQ below (zQi G out.1 out.2) args s 0 0 (zA G)) (F0 m 0 ls []) := by
  unfold f_X8_taken at hf
  refine lv_iconst (v := 0) Z.x Z.b dX8_taken_0 (by decide) ?_
  refine lv_istore_n (lv' := [(3, .int 0), (0, .ref a0), (1, .int a1), (2, .int a2)]) Z.x Z.b dX8_taken_1 rfl hl (by decide) rfl (fun ls hl => ?_)
  refine lv_iconst (v := 0) Z.x Z.b dX8_taken_2 (by decide) ?_
  refine lv_istore (lv' := [(4, .int 0), (3, .int 0), (0, .ref a0), (1, .int a1), (2, .int a2)]) Z.x Z.b dX8_taken_3 hl (by decide) rfl (fun ls hl => ?_)
  exact t_X8_taken_5 Z hr zN hf E (lv_sub hl [2, 3, 4, 1, 0] rfl)
set_option maxHeartbeats 4000000 in
set_option maxRecDepth 20000 in
theorem c_X8_taken (l : Launch) (G : zG) (h : zHp) (h' : zHp) (a0 : Nat) (a1 : Int32) (a2 : Int32) (r : Int32) (hf : f_X8_taken a0 a1 a2 h = some (r, h')) : zM0 l yX8_taken cX8_taken 5 (some .int) rm_X8_taken G [.ref a0, .int a1, .int a2] h (zQi G r h') := by
  refine Met.ofW (cc := cX8_taken) (maxL := 5) (ret := (some .int)) (by decide) rfl ?_
  intro p e s m args below meth c s₁ B hml hv
  obtain ⟨rfl, hW⟩ := hv
  obtain ⟨Z, E, hr⟩ := zEnter (own := RX8) B hml rfl hW
  have hl := lv_entry ([.ref a0, .int a1, .int a2]) (n := 5) (Nat.le_of_ble_eq_true rfl)
  rw [lg_entry_eq]
  generalize (lg_sl ([.ref a0, .int a1, .int a2]) ++ List.replicate (5 - (lg_sl ([.ref a0, .int a1, .int a2])).length) Slot.unset).toArray = ls at hl ⊢
  have hl : lv_has ls 5 [(0, .ref a0), (1, .int a1), (2, .int a2)] := hl
  exact t_X8_taken (out := (r, h')) Z hr hf E hl
/-! FerryCrewsModel.needed(I)I -/
theorem dX8_needed_0 : decode cX8_needed 0 = .ok (.aload_n 0, 1) := by decide +kernel
theorem dX8_needed_1 : decode cX8_needed 1 = .ok (.iload_n 1, 1) := by decide +kernel
theorem dX8_needed_2 : decode cX8_needed 2 = .ok (.iconst 4, 1) := by decide +kernel
theorem dX8_needed_3 : decode cX8_needed 3 = .ok (.invokevirtual 38, 3) := by decide +kernel
theorem dX8_needed_6 : decode cX8_needed 6 = .ok (.aload_n 0, 1) := by decide +kernel
theorem dX8_needed_7 : decode cX8_needed 7 = .ok (.iload_n 1, 1) := by decide +kernel
theorem dX8_needed_8 : decode cX8_needed 8 = .ok (.iconst 5, 1) := by decide +kernel
theorem dX8_needed_9 : decode cX8_needed 9 = .ok (.invokevirtual 38, 3) := by decide +kernel
theorem dX8_needed_12 : decode cX8_needed 12 = .ok (.iadd, 1) := by decide +kernel
theorem dX8_needed_13 : decode cX8_needed 13 = .ok (.aload_n 0, 1) := by decide +kernel
theorem dX8_needed_14 : decode cX8_needed 14 = .ok (.iload_n 1, 1) := by decide +kernel
theorem dX8_needed_15 : decode cX8_needed 15 = .ok (.bipush 6, 2) := by decide +kernel
theorem dX8_needed_17 : decode cX8_needed 17 = .ok (.invokevirtual 38, 3) := by decide +kernel
theorem dX8_needed_20 : decode cX8_needed 20 = .ok (.iadd, 1) := by decide +kernel
theorem dX8_needed_21 : decode cX8_needed 21 = .ok (.aload_n 0, 1) := by decide +kernel
theorem dX8_needed_22 : decode cX8_needed 22 = .ok (.iload_n 1, 1) := by decide +kernel
theorem dX8_needed_23 : decode cX8_needed 23 = .ok (.bipush 7, 2) := by decide +kernel
theorem dX8_needed_25 : decode cX8_needed 25 = .ok (.invokevirtual 38, 3) := by decide +kernel
theorem dX8_needed_28 : decode cX8_needed 28 = .ok (.iadd, 1) := by decide +kernel
theorem dX8_needed_29 : decode cX8_needed 29 = .ok (.ireturn, 1) := by decide +kernel
def rm_X8_needed : Room := { frames := 1, cells := 0, slots := 0, locals := 22 }
set_option maxHeartbeats 4000000 in
set_option maxRecDepth 20000 in
theorem t_X8_needed {p : Program} {l : Launch} {e : Env} {s : State} {m : MethodId} {args : Array Value} {below : List Frame} {meth : Method} {c : Code} {G : zG} (Z : zF p s m args c meth cX8_needed 2 RX8 G) (hr : meth.sig.returnType = (some .int)) {out : Int32 × zHp} {a0 : Nat} {a1 : Int32} {h : zHp} {H : Heap} {locs : List Loc} {ls : Array Slot} (hf : f_X8_needed a0 a1 h = some out) (E : zE G s h H locs) (hl : lv_has ls 2 [(0, .ref a0), (1, .int a1)]) : W p l e rm_X8_needed s m args below meth c H locs 0 0 (MQ below (zQi G out.1 out.2) args s 0 0 (zA G)) (F0 m 0 ls []) := by
  unfold f_X8_needed at hf
  refine lv_aload_n Z.x Z.b dX8_needed_0 rfl (lv_at hl 0 rfl) ?_
  refine lv_iload_n Z.x Z.b dX8_needed_1 rfl (lv_at hl 1 rfl) ?_
  refine lv_iconst (v := 4) Z.x Z.b dX8_needed_2 (by decide) ?_
  refine z_Vi (As := [.int a1, .int 4]) Z E hl.1 k_X8_38 v_X8_of hf (fun r h' e => c_X8_of l G h h' a0 a1 4 r e) rfl rfl (Nat.le_of_ble_eq_true rfl) (zRm_of rfl (Nat.zero_le _) (Nat.zero_le _)) dX8_needed_3 (fun v1 h2 H locs hf E => ?_)
  refine lv_aload_n Z.x Z.b dX8_needed_6 rfl (lv_at hl 0 rfl) ?_
  refine lv_iload_n Z.x Z.b dX8_needed_7 rfl (lv_at hl 1 rfl) ?_
  refine lv_iconst (v := 5) Z.x Z.b dX8_needed_8 (by decide) ?_
  refine z_Vi (As := [.int a1, .int 5]) Z E hl.1 k_X8_38 v_X8_of hf (fun r h' e => c_X8_of l G h2 h' a0 a1 5 r e) rfl rfl (Nat.le_of_ble_eq_true rfl) (zRm_of rfl (Nat.zero_le _) (Nat.zero_le _)) dX8_needed_9 (fun v3 h4 H locs hf E => ?_)
  refine lv_iadd Z.x Z.b dX8_needed_12 ?_
  refine lv_aload_n Z.x Z.b dX8_needed_13 rfl (lv_at hl 0 rfl) ?_
  refine lv_iload_n Z.x Z.b dX8_needed_14 rfl (lv_at hl 1 rfl) ?_
  refine lv_bipush (v := 6) Z.x Z.b dX8_needed_15 (by decide) ?_
  refine z_Vi (As := [.int a1, .int 6]) Z E hl.1 k_X8_38 v_X8_of hf (fun r h' e => c_X8_of l G h4 h' a0 a1 6 r e) rfl rfl (Nat.le_of_ble_eq_true rfl) (zRm_of rfl (Nat.zero_le _) (Nat.zero_le _)) dX8_needed_17 (fun v5 h6 H locs hf E => ?_)
  refine lv_iadd Z.x Z.b dX8_needed_20 ?_
  refine lv_aload_n Z.x Z.b dX8_needed_21 rfl (lv_at hl 0 rfl) ?_
  refine lv_iload_n Z.x Z.b dX8_needed_22 rfl (lv_at hl 1 rfl) ?_
  refine lv_bipush (v := 7) Z.x Z.b dX8_needed_23 (by decide) ?_
  refine z_Vi (As := [.int a1, .int 7]) Z E hl.1 k_X8_38 v_X8_of hf (fun r h' e => c_X8_of l G h6 h' a0 a1 7 r e) rfl rfl (Nat.le_of_ble_eq_true rfl) (zRm_of rfl (Nat.zero_le _) (Nat.zero_le _)) dX8_needed_25 (fun v7 h8 H locs hf E => ?_)
  refine lv_iadd Z.x Z.b dX8_needed_28 ?_
  exact z_iret Z E hr dX8_needed_29 hf
set_option maxHeartbeats 4000000 in
set_option maxRecDepth 20000 in
theorem c_X8_needed (l : Launch) (G : zG) (h : zHp) (h' : zHp) (a0 : Nat) (a1 : Int32) (r : Int32) (hf : f_X8_needed a0 a1 h = some (r, h')) : zM0 l yX8_needed cX8_needed 2 (some .int) rm_X8_needed G [.ref a0, .int a1] h (zQi G r h') := by
  refine Met.ofW (cc := cX8_needed) (maxL := 2) (ret := (some .int)) (by decide) rfl ?_
  intro p e s m args below meth c s₁ B hml hv
  obtain ⟨rfl, hW⟩ := hv
  obtain ⟨Z, E, hr⟩ := zEnter (own := RX8) B hml rfl hW
  have hl := lv_entry ([.ref a0, .int a1]) (n := 2) (Nat.le_of_ble_eq_true rfl)
  rw [lg_entry_eq]
  generalize (lg_sl ([.ref a0, .int a1]) ++ List.replicate (2 - (lg_sl ([.ref a0, .int a1])).length) Slot.unset).toArray = ls at hl ⊢
  have hl : lv_has ls 2 [(0, .ref a0), (1, .int a1)] := hl
  exact t_X8_needed (out := (r, h')) Z hr hf E hl
/-! FerryCrewsModel.takenOf(I)I -/
theorem dX8_takenOf_0 : decode cX8_takenOf 0 = .ok (.aload_n 0, 1) := by decide +kernel
theorem dX8_takenOf_1 : decode cX8_takenOf 1 = .ok (.iload_n 1, 1) := by decide +kernel
theorem dX8_takenOf_2 : decode cX8_takenOf 2 = .ok (.iconst 0, 1) := by decide +kernel
theorem dX8_takenOf_3 : decode cX8_takenOf 3 = .ok (.invokevirtual 49, 3) := by decide +kernel
theorem dX8_takenOf_6 : decode cX8_takenOf 6 = .ok (.aload_n 0, 1) := by decide +kernel
theorem dX8_takenOf_7 : decode cX8_takenOf 7 = .ok (.iload_n 1, 1) := by decide +kernel
theorem dX8_takenOf_8 : decode cX8_takenOf 8 = .ok (.iconst 1, 1) := by decide +kernel
theorem dX8_takenOf_9 : decode cX8_takenOf 9 = .ok (.invokevirtual 49, 3) := by decide +kernel
theorem dX8_takenOf_12 : decode cX8_takenOf 12 = .ok (.iadd, 1) := by decide +kernel
theorem dX8_takenOf_13 : decode cX8_takenOf 13 = .ok (.aload_n 0, 1) := by decide +kernel
theorem dX8_takenOf_14 : decode cX8_takenOf 14 = .ok (.iload_n 1, 1) := by decide +kernel
theorem dX8_takenOf_15 : decode cX8_takenOf 15 = .ok (.iconst 2, 1) := by decide +kernel
theorem dX8_takenOf_16 : decode cX8_takenOf 16 = .ok (.invokevirtual 49, 3) := by decide +kernel
theorem dX8_takenOf_19 : decode cX8_takenOf 19 = .ok (.iadd, 1) := by decide +kernel
theorem dX8_takenOf_20 : decode cX8_takenOf 20 = .ok (.aload_n 0, 1) := by decide +kernel
theorem dX8_takenOf_21 : decode cX8_takenOf 21 = .ok (.iload_n 1, 1) := by decide +kernel
theorem dX8_takenOf_22 : decode cX8_takenOf 22 = .ok (.iconst 3, 1) := by decide +kernel
theorem dX8_takenOf_23 : decode cX8_takenOf 23 = .ok (.invokevirtual 49, 3) := by decide +kernel
theorem dX8_takenOf_26 : decode cX8_takenOf 26 = .ok (.iadd, 1) := by decide +kernel
theorem dX8_takenOf_27 : decode cX8_takenOf 27 = .ok (.ireturn, 1) := by decide +kernel
set_option maxRecDepth 20000 in
theorem wc_X8_taken : Cond.code yX8_taken cX8_taken 5 (some .int) ∈ zB := List.mem_filter.mpr ⟨List.mem_of_getElem? (i := 924) (by decide +kernel), by decide +kernel⟩
set_option maxRecDepth 20000 in
theorem wm_X8_49 : Cond.methodLink RX8 49 yX8_taken ∈ zB := List.mem_filter.mpr ⟨List.mem_of_getElem? (i := 921) (by decide +kernel), by decide +kernel⟩
theorem k_X8_49 : zCal RX8 49 yX8_taken cX8_taken 5 (some .int) 2 := ⟨wm_X8_49, wi_X8, wc_X8_taken, by decide +kernel, by decide +kernel, by decide +kernel⟩
set_option maxRecDepth 20000 in
theorem wn_X8_taken : Cond.instanceMethod yX8_taken ∈ zB := List.mem_filter.mpr ⟨List.mem_of_getElem? (i := 923) (by decide +kernel), by decide +kernel⟩
set_option maxRecDepth 20000 in
theorem ws_X8_taken : Cond.selects RX8 yX8_taken yX8_taken ∈ zB := List.mem_filter.mpr ⟨List.mem_of_getElem? (i := 28) (by decide +kernel), by decide +kernel⟩
theorem v_X8_taken : zVir yX8_taken 8 := ⟨wn_X8_taken, ws_X8_taken, TX8, 12, rfl⟩
def rm_X8_takenOf : Room := { frames := 2, cells := 0, slots := 0, locals := 46 }
set_option maxHeartbeats 4000000 in
set_option maxRecDepth 20000 in
theorem t_X8_takenOf {p : Program} {l : Launch} {e : Env} {s : State} {m : MethodId} {args : Array Value} {below : List Frame} {meth : Method} {c : Code} {G : zG} (Z : zF p s m args c meth cX8_takenOf 2 RX8 G) (hr : meth.sig.returnType = (some .int)) {out : Int32 × zHp} {a0 : Nat} {a1 : Int32} {h : zHp} {H : Heap} {locs : List Loc} {ls : Array Slot} (hf : f_X8_takenOf a0 a1 h = some out) (E : zE G s h H locs) (hl : lv_has ls 2 [(0, .ref a0), (1, .int a1)]) : W p l e rm_X8_takenOf s m args below meth c H locs 0 0 (MQ below (zQi G out.1 out.2) args s 0 0 (zA G)) (F0 m 0 ls []) := by
  unfold f_X8_takenOf at hf
  refine lv_aload_n Z.x Z.b dX8_takenOf_0 rfl (lv_at hl 0 rfl) ?_
  refine lv_iload_n Z.x Z.b dX8_takenOf_1 rfl (lv_at hl 1 rfl) ?_
  refine lv_iconst (v := 0) Z.x Z.b dX8_takenOf_2 (by decide) ?_
  refine z_Vi (As := [.int a1, .int 0]) Z E hl.1 k_X8_49 v_X8_taken hf (fun r h' e => c_X8_taken l G h h' a0 a1 0 r e) rfl rfl (Nat.le_of_ble_eq_true rfl) (zRm_of rfl (Nat.zero_le _) (Nat.zero_le _)) dX8_takenOf_3 (fun v1 h2 H locs hf E => ?_)
  refine lv_aload_n Z.x Z.b dX8_takenOf_6 rfl (lv_at hl 0 rfl) ?_
  refine lv_iload_n Z.x Z.b dX8_takenOf_7 rfl (lv_at hl 1 rfl) ?_
  refine lv_iconst (v := 1) Z.x Z.b dX8_takenOf_8 (by decide) ?_
  refine z_Vi (As := [.int a1, .int 1]) Z E hl.1 k_X8_49 v_X8_taken hf (fun r h' e => c_X8_taken l G h2 h' a0 a1 1 r e) rfl rfl (Nat.le_of_ble_eq_true rfl) (zRm_of rfl (Nat.zero_le _) (Nat.zero_le _)) dX8_takenOf_9 (fun v3 h4 H locs hf E => ?_)
  refine lv_iadd Z.x Z.b dX8_takenOf_12 ?_
  refine lv_aload_n Z.x Z.b dX8_takenOf_13 rfl (lv_at hl 0 rfl) ?_
  refine lv_iload_n Z.x Z.b dX8_takenOf_14 rfl (lv_at hl 1 rfl) ?_
  refine lv_iconst (v := 2) Z.x Z.b dX8_takenOf_15 (by decide) ?_
  refine z_Vi (As := [.int a1, .int 2]) Z E hl.1 k_X8_49 v_X8_taken hf (fun r h' e => c_X8_taken l G h4 h' a0 a1 2 r e) rfl rfl (Nat.le_of_ble_eq_true rfl) (zRm_of rfl (Nat.zero_le _) (Nat.zero_le _)) dX8_takenOf_16 (fun v5 h6 H locs hf E => ?_)
  refine lv_iadd Z.x Z.b dX8_takenOf_19 ?_
  refine lv_aload_n Z.x Z.b dX8_takenOf_20 rfl (lv_at hl 0 rfl) ?_
  refine lv_iload_n Z.x Z.b dX8_takenOf_21 rfl (lv_at hl 1 rfl) ?_
  refine lv_iconst (v := 3) Z.x Z.b dX8_takenOf_22 (by decide) ?_
  refine z_Vi (As := [.int a1, .int 3]) Z E hl.1 k_X8_49 v_X8_taken hf (fun r h' e => c_X8_taken l G h6 h' a0 a1 3 r e) rfl rfl (Nat.le_of_ble_eq_true rfl) (zRm_of rfl (Nat.zero_le _) (Nat.zero_le _)) dX8_takenOf_23 (fun v7 h8 H locs hf E => ?_)
  refine lv_iadd Z.x Z.b dX8_takenOf_26 ?_
  exact z_iret Z E hr dX8_takenOf_27 hf
set_option maxHeartbeats 4000000 in
set_option maxRecDepth 20000 in
theorem c_X8_takenOf (l : Launch) (G : zG) (h : zHp) (h' : zHp) (a0 : Nat) (a1 : Int32) (r : Int32) (hf : f_X8_takenOf a0 a1 h = some (r, h')) : zM0 l yX8_takenOf cX8_takenOf 2 (some .int) rm_X8_takenOf G [.ref a0, .int a1] h (zQi G r h') := by
  refine Met.ofW (cc := cX8_takenOf) (maxL := 2) (ret := (some .int)) (by decide) rfl ?_
  intro p e s m args below meth c s₁ B hml hv
  obtain ⟨rfl, hW⟩ := hv
  obtain ⟨Z, E, hr⟩ := zEnter (own := RX8) B hml rfl hW
  have hl := lv_entry ([.ref a0, .int a1]) (n := 2) (Nat.le_of_ble_eq_true rfl)
  rw [lg_entry_eq]
  generalize (lg_sl ([.ref a0, .int a1]) ++ List.replicate (2 - (lg_sl ([.ref a0, .int a1])).length) Slot.unset).toArray = ls at hl ⊢
  have hl : lv_has ls 2 [(0, .ref a0), (1, .int a1)] := hl
  exact t_X8_takenOf (out := (r, h')) Z hr hf E hl
/-! FerryCrewsModel.freeOf(I)I -/
theorem dX8_freeOf_0 : decode cX8_freeOf 0 = .ok (.aload_n 0, 1) := by decide +kernel
theorem dX8_freeOf_1 : decode cX8_freeOf 1 = .ok (.iload_n 1, 1) := by decide +kernel
theorem dX8_freeOf_2 : decode cX8_freeOf 2 = .ok (.invokevirtual 52, 3) := by decide +kernel
theorem dX8_freeOf_5 : decode cX8_freeOf 5 = .ok (.aload_n 0, 1) := by decide +kernel
theorem dX8_freeOf_6 : decode cX8_freeOf 6 = .ok (.iload_n 1, 1) := by decide +kernel
theorem dX8_freeOf_7 : decode cX8_freeOf 7 = .ok (.invokevirtual 56, 3) := by decide +kernel
theorem dX8_freeOf_10 : decode cX8_freeOf 10 = .ok (.isub, 1) := by decide +kernel
theorem dX8_freeOf_11 : decode cX8_freeOf 11 = .ok (.ireturn, 1) := by decide +kernel
set_option maxRecDepth 20000 in
theorem wc_X8_needed : Cond.code yX8_needed cX8_needed 2 (some .int) ∈ zB := List.mem_filter.mpr ⟨List.mem_of_getElem? (i := 1059) (by decide +kernel), by decide +kernel⟩
set_option maxRecDepth 20000 in
theorem wm_X8_52 : Cond.methodLink RX8 52 yX8_needed ∈ zB := List.mem_filter.mpr ⟨List.mem_of_getElem? (i := 1056) (by decide +kernel), by decide +kernel⟩
theorem k_X8_52 : zCal RX8 52 yX8_needed cX8_needed 2 (some .int) 1 := ⟨wm_X8_52, wi_X8, wc_X8_needed, by decide +kernel, by decide +kernel, by decide +kernel⟩
set_option maxRecDepth 20000 in
theorem wn_X8_needed : Cond.instanceMethod yX8_needed ∈ zB := List.mem_filter.mpr ⟨List.mem_of_getElem? (i := 1058) (by decide +kernel), by decide +kernel⟩
set_option maxRecDepth 20000 in
theorem ws_X8_needed : Cond.selects RX8 yX8_needed yX8_needed ∈ zB := List.mem_filter.mpr ⟨List.mem_of_getElem? (i := 51) (by decide +kernel), by decide +kernel⟩
theorem v_X8_needed : zVir yX8_needed 8 := ⟨wn_X8_needed, ws_X8_needed, TX8, 12, rfl⟩
set_option maxRecDepth 20000 in
theorem wc_X8_takenOf : Cond.code yX8_takenOf cX8_takenOf 2 (some .int) ∈ zB := List.mem_filter.mpr ⟨List.mem_of_getElem? (i := 920) (by decide +kernel), by decide +kernel⟩
set_option maxRecDepth 20000 in
theorem wm_X8_56 : Cond.methodLink RX8 56 yX8_takenOf ∈ zB := List.mem_filter.mpr ⟨List.mem_of_getElem? (i := 917) (by decide +kernel), by decide +kernel⟩
theorem k_X8_56 : zCal RX8 56 yX8_takenOf cX8_takenOf 2 (some .int) 1 := ⟨wm_X8_56, wi_X8, wc_X8_takenOf, by decide +kernel, by decide +kernel, by decide +kernel⟩
set_option maxRecDepth 20000 in
theorem wn_X8_takenOf : Cond.instanceMethod yX8_takenOf ∈ zB := List.mem_filter.mpr ⟨List.mem_of_getElem? (i := 919) (by decide +kernel), by decide +kernel⟩
set_option maxRecDepth 20000 in
theorem ws_X8_takenOf : Cond.selects RX8 yX8_takenOf yX8_takenOf ∈ zB := List.mem_filter.mpr ⟨List.mem_of_getElem? (i := 27) (by decide +kernel), by decide +kernel⟩
theorem v_X8_takenOf : zVir yX8_takenOf 8 := ⟨wn_X8_takenOf, ws_X8_takenOf, TX8, 12, rfl⟩
def rm_X8_freeOf : Room := { frames := 3, cells := 0, slots := 0, locals := 67 }
set_option maxHeartbeats 4000000 in
set_option maxRecDepth 20000 in
theorem t_X8_freeOf {p : Program} {l : Launch} {e : Env} {s : State} {m : MethodId} {args : Array Value} {below : List Frame} {meth : Method} {c : Code} {G : zG} (Z : zF p s m args c meth cX8_freeOf 2 RX8 G) (hr : meth.sig.returnType = (some .int)) {out : Int32 × zHp} {a0 : Nat} {a1 : Int32} {h : zHp} {H : Heap} {locs : List Loc} {ls : Array Slot} (hf : f_X8_freeOf a0 a1 h = some out) (E : zE G s h H locs) (hl : lv_has ls 2 [(0, .ref a0), (1, .int a1)]) : W p l e rm_X8_freeOf s m args below meth c H locs 0 0 (MQ below (zQi G out.1 out.2) args s 0 0 (zA G)) (F0 m 0 ls []) := by
  unfold f_X8_freeOf at hf
  refine lv_aload_n Z.x Z.b dX8_freeOf_0 rfl (lv_at hl 0 rfl) ?_
  refine lv_iload_n Z.x Z.b dX8_freeOf_1 rfl (lv_at hl 1 rfl) ?_
  refine z_Vi (As := [.int a1]) Z E hl.1 k_X8_52 v_X8_needed hf (fun r h' e => c_X8_needed l G h h' a0 a1 r e) rfl rfl (Nat.le_of_ble_eq_true rfl) (zRm_of rfl (Nat.zero_le _) (Nat.zero_le _)) dX8_freeOf_2 (fun v1 h2 H locs hf E => ?_)
  refine lv_aload_n Z.x Z.b dX8_freeOf_5 rfl (lv_at hl 0 rfl) ?_
  refine lv_iload_n Z.x Z.b dX8_freeOf_6 rfl (lv_at hl 1 rfl) ?_
  refine z_Vi (As := [.int a1]) Z E hl.1 k_X8_56 v_X8_takenOf hf (fun r h' e => c_X8_takenOf l G h2 h' a0 a1 r e) rfl rfl (Nat.le_of_ble_eq_true rfl) (zRm_of rfl (Nat.zero_le _) (Nat.zero_le _)) dX8_freeOf_7 (fun v3 h4 H locs hf E => ?_)
  refine lv_isub Z.x Z.b dX8_freeOf_10 ?_
  exact z_iret Z E hr dX8_freeOf_11 hf
set_option maxHeartbeats 4000000 in
set_option maxRecDepth 20000 in
theorem c_X8_freeOf (l : Launch) (G : zG) (h : zHp) (h' : zHp) (a0 : Nat) (a1 : Int32) (r : Int32) (hf : f_X8_freeOf a0 a1 h = some (r, h')) : zM0 l yX8_freeOf cX8_freeOf 2 (some .int) rm_X8_freeOf G [.ref a0, .int a1] h (zQi G r h') := by
  refine Met.ofW (cc := cX8_freeOf) (maxL := 2) (ret := (some .int)) (by decide) rfl ?_
  intro p e s m args below meth c s₁ B hml hv
  obtain ⟨rfl, hW⟩ := hv
  obtain ⟨Z, E, hr⟩ := zEnter (own := RX8) B hml rfl hW
  have hl := lv_entry ([.ref a0, .int a1]) (n := 2) (Nat.le_of_ble_eq_true rfl)
  rw [lg_entry_eq]
  generalize (lg_sl ([.ref a0, .int a1]) ++ List.replicate (2 - (lg_sl ([.ref a0, .int a1])).length) Slot.unset).toArray = ls at hl ⊢
  have hl : lv_has ls 2 [(0, .ref a0), (1, .int a1)] := hl
  exact t_X8_freeOf (out := (r, h')) Z hr hf E hl
/-! FerryCrewsModel.isSick(I)Z -/
theorem dX8_isSick_0 : decode cX8_isSick 0 = .ok (.aload_n 0, 1) := by decide +kernel
theorem dX8_isSick_1 : decode cX8_isSick 1 = .ok (.iload_n 1, 1) := by decide +kernel
theorem dX8_isSick_2 : decode cX8_isSick 2 = .ok (.iconst 4, 1) := by decide +kernel
theorem dX8_isSick_3 : decode cX8_isSick 3 = .ok (.invokevirtual 59, 3) := by decide +kernel
theorem dX8_isSick_6 : decode cX8_isSick 6 = .ok (.aload_n 0, 1) := by decide +kernel
theorem dX8_isSick_7 : decode cX8_isSick 7 = .ok (.getfield 7, 3) := by decide +kernel
theorem dX8_isSick_10 : decode cX8_isSick 10 = .ok (.iconst 0, 1) := by decide +kernel
theorem dX8_isSick_11 : decode cX8_isSick 11 = .ok (.iaload, 1) := by decide +kernel
theorem dX8_isSick_12 : decode cX8_isSick 12 = .ok (.if_icmp .le 7, 3) := by decide +kernel
theorem dX8_isSick_15 : decode cX8_isSick 15 = .ok (.iconst 1, 1) := by decide +kernel
theorem dX8_isSick_16 : decode cX8_isSick 16 = .ok (.goto 4, 3) := by decide +kernel
theorem dX8_isSick_19 : decode cX8_isSick 19 = .ok (.iconst 0, 1) := by decide +kernel
theorem dX8_isSick_20 : decode cX8_isSick 20 = .ok (.ireturn, 1) := by decide +kernel
set_option maxRecDepth 20000 in
theorem wc_X8_has : Cond.code yX8_has cX8_has 3 (some .int) ∈ zB := List.mem_filter.mpr ⟨List.mem_of_getElem? (i := 963) (by decide +kernel), by decide +kernel⟩
set_option maxRecDepth 20000 in
theorem wm_X8_59 : Cond.methodLink RX8 59 yX8_has ∈ zB := List.mem_filter.mpr ⟨List.mem_of_getElem? (i := 960) (by decide +kernel), by decide +kernel⟩
theorem k_X8_59 : zCal RX8 59 yX8_has cX8_has 3 (some .int) 2 := ⟨wm_X8_59, wi_X8, wc_X8_has, by decide +kernel, by decide +kernel, by decide +kernel⟩
set_option maxRecDepth 20000 in
theorem wn_X8_has : Cond.instanceMethod yX8_has ∈ zB := List.mem_filter.mpr ⟨List.mem_of_getElem? (i := 962) (by decide +kernel), by decide +kernel⟩
set_option maxRecDepth 20000 in
theorem ws_X8_has : Cond.selects RX8 yX8_has yX8_has ∈ zB := List.mem_filter.mpr ⟨List.mem_of_getElem? (i := 35) (by decide +kernel), by decide +kernel⟩
theorem v_X8_has : zVir yX8_has 8 := ⟨wn_X8_has, ws_X8_has, TX8, 12, rfl⟩
def rm_X8_isSick : Room := { frames := 1, cells := 0, slots := 0, locals := 22 }
set_option maxHeartbeats 4000000 in
set_option maxRecDepth 20000 in
theorem t_X8_isSick {p : Program} {l : Launch} {e : Env} {s : State} {m : MethodId} {args : Array Value} {below : List Frame} {meth : Method} {c : Code} {G : zG} (Z : zF p s m args c meth cX8_isSick 2 RX8 G) (hr : meth.sig.returnType = (some .boolean)) {out : Int32 × zHp} {a0 : Nat} {a1 : Int32} {h : zHp} {H : Heap} {locs : List Loc} {ls : Array Slot} (hf : f_X8_isSick a0 a1 h = some out) (E : zE G s h H locs) (hl : lv_has ls 2 [(0, .ref a0), (1, .int a1)]) : W p l e rm_X8_isSick s m args below meth c H locs 0 0 (MQ below (zQi G out.1 out.2) args s 0 0 (zA G)) (F0 m 0 ls []) := by
  unfold f_X8_isSick at hf
  refine lv_aload_n Z.x Z.b dX8_isSick_0 rfl (lv_at hl 0 rfl) ?_
  refine lv_iload_n Z.x Z.b dX8_isSick_1 rfl (lv_at hl 1 rfl) ?_
  refine lv_iconst (v := 4) Z.x Z.b dX8_isSick_2 (by decide) ?_
  refine z_Vi (As := [.int a1, .int 4]) Z E hl.1 k_X8_59 v_X8_has hf (fun r h' e => c_X8_has l G h h' a0 a1 4 r e) rfl rfl (Nat.le_of_ble_eq_true rfl) (zRm_of rfl (Nat.zero_le _) (Nat.zero_le _)) dX8_isSick_3 (fun v1 h2 H locs hf E => ?_)
  refine lv_aload_n Z.x Z.b dX8_isSick_6 rfl (lv_at hl 0 rfl) ?_
  refine z_getR Z E q_X8_7 dX8_isSick_7 hf (fun v3 hf => ?_)
  refine lv_iconst (v := 0) Z.x Z.b dX8_isSick_10 (by decide) ?_
  refine z_iald Z E dX8_isSick_11 hf (fun v4 hf => ?_)
  refine lv_icmp_le (tgt := 19) Z.x Z.b dX8_isSick_12 (by decide) (fun c => ?_) (fun c => ?_)
  · have hf := zit hf c
    refine lv_iconst (v := 0) Z.x Z.b dX8_isSick_19 (by decide) ?_
    exact z_zret Z E hr dX8_isSick_20 hf
  · have hf := zif_ hf c
    refine lv_iconst (v := 1) Z.x Z.b dX8_isSick_15 (by decide) ?_
    refine lv_goto (tgt := 20) Z.x Z.b dX8_isSick_16 (by decide) ?_
    exact z_zret Z E hr dX8_isSick_20 hf
set_option maxHeartbeats 4000000 in
set_option maxRecDepth 20000 in
theorem c_X8_isSick (l : Launch) (G : zG) (h : zHp) (h' : zHp) (a0 : Nat) (a1 : Int32) (r : Int32) (hf : f_X8_isSick a0 a1 h = some (r, h')) : zM0 l yX8_isSick cX8_isSick 2 (some .boolean) rm_X8_isSick G [.ref a0, .int a1] h (zQi G r h') := by
  refine Met.ofW (cc := cX8_isSick) (maxL := 2) (ret := (some .boolean)) (by decide) rfl ?_
  intro p e s m args below meth c s₁ B hml hv
  obtain ⟨rfl, hW⟩ := hv
  obtain ⟨Z, E, hr⟩ := zEnter (own := RX8) B hml rfl hW
  have hl := lv_entry ([.ref a0, .int a1]) (n := 2) (Nat.le_of_ble_eq_true rfl)
  rw [lg_entry_eq]
  generalize (lg_sl ([.ref a0, .int a1]) ++ List.replicate (2 - (lg_sl ([.ref a0, .int a1])).length) Slot.unset).toArray = ls at hl ⊢
  have hl : lv_has ls 2 [(0, .ref a0), (1, .int a1)] := hl
  exact t_X8_isSick (out := (r, h')) Z hr hf E hl
/-! FerryCrewsModel.hasDuty(II)Z -/
theorem dX8_hasDuty_0 : decode cX8_hasDuty 0 = .ok (.aload_n 0, 1) := by decide +kernel
theorem dX8_hasDuty_1 : decode cX8_hasDuty 1 = .ok (.iload_n 1, 1) := by decide +kernel
theorem dX8_hasDuty_2 : decode cX8_hasDuty 2 = .ok (.iload_n 2, 1) := by decide +kernel
theorem dX8_hasDuty_3 : decode cX8_hasDuty 3 = .ok (.invokevirtual 46, 3) := by decide +kernel
theorem dX8_hasDuty_6 : decode cX8_hasDuty 6 = .ok (.ifCond .le 16, 3) := by decide +kernel
theorem dX8_hasDuty_9 : decode cX8_hasDuty 9 = .ok (.aload_n 0, 1) := by decide +kernel
theorem dX8_hasDuty_10 : decode cX8_hasDuty 10 = .ok (.iload_n 1, 1) := by decide +kernel
theorem dX8_hasDuty_11 : decode cX8_hasDuty 11 = .ok (.iconst 2, 1) := by decide +kernel
theorem dX8_hasDuty_12 : decode cX8_hasDuty 12 = .ok (.invokevirtual 62, 3) := by decide +kernel
theorem dX8_hasDuty_15 : decode cX8_hasDuty 15 = .ok (.ifCond .ne 7, 3) := by decide +kernel
theorem dX8_hasDuty_18 : decode cX8_hasDuty 18 = .ok (.iconst 1, 1) := by decide +kernel
theorem dX8_hasDuty_19 : decode cX8_hasDuty 19 = .ok (.goto 4, 3) := by decide +kernel
theorem dX8_hasDuty_22 : decode cX8_hasDuty 22 = .ok (.iconst 0, 1) := by decide +kernel
theorem dX8_hasDuty_23 : decode cX8_hasDuty 23 = .ok (.ireturn, 1) := by decide +kernel
set_option maxRecDepth 20000 in
theorem wc_X8_is : Cond.code yX8_is cX8_is 3 (some .boolean) ∈ zB := List.mem_filter.mpr ⟨List.mem_of_getElem? (i := 856) (by decide +kernel), by decide +kernel⟩
set_option maxRecDepth 20000 in
theorem wm_X8_62 : Cond.methodLink RX8 62 yX8_is ∈ zB := List.mem_filter.mpr ⟨List.mem_of_getElem? (i := 853) (by decide +kernel), by decide +kernel⟩
theorem k_X8_62 : zCal RX8 62 yX8_is cX8_is 3 (some .boolean) 2 := ⟨wm_X8_62, wi_X8, wc_X8_is, by decide +kernel, by decide +kernel, by decide +kernel⟩
set_option maxRecDepth 20000 in
theorem wn_X8_is : Cond.instanceMethod yX8_is ∈ zB := List.mem_filter.mpr ⟨List.mem_of_getElem? (i := 855) (by decide +kernel), by decide +kernel⟩
set_option maxRecDepth 20000 in
theorem ws_X8_is : Cond.selects RX8 yX8_is yX8_is ∈ zB := List.mem_filter.mpr ⟨List.mem_of_getElem? (i := 13) (by decide +kernel), by decide +kernel⟩
theorem v_X8_is : zVir yX8_is 8 := ⟨wn_X8_is, ws_X8_is, TX8, 12, rfl⟩
def rm_X8_hasDuty : Room := { frames := 2, cells := 0, slots := 0, locals := 44 }
set_option maxHeartbeats 4000000 in
set_option maxRecDepth 20000 in
theorem t_X8_hasDuty_22 {p : Program} {l : Launch} {e : Env} {s : State} {m : MethodId} {args : Array Value} {below : List Frame} {meth : Method} {c : Code} {G : zG} (Z : zF p s m args c meth cX8_hasDuty 3 RX8 G) (hr : meth.sig.returnType = (some .boolean)) {out : Int32 × zHp} {h : zHp} {H : Heap} {locs : List Loc} {ls : Array Slot} (hf : f_X8_hasDuty_22 h = some out) (E : zE G s h H locs) (hl : lv_has ls 3 []) : W p l e rm_X8_hasDuty s m args below meth c H locs 0 0 (MQ below (zQi G out.1 out.2) args s 0 0 (zA G)) (F0 m 22 ls []) := by
  unfold f_X8_hasDuty_22 at hf
  refine lv_iconst (v := 0) Z.x Z.b dX8_hasDuty_22 (by decide) ?_
  exact z_zret Z E hr dX8_hasDuty_23 hf
set_option maxHeartbeats 4000000 in
set_option maxRecDepth 20000 in
theorem t_X8_hasDuty {p : Program} {l : Launch} {e : Env} {s : State} {m : MethodId} {args : Array Value} {below : List Frame} {meth : Method} {c : Code} {G : zG} (Z : zF p s m args c meth cX8_hasDuty 3 RX8 G) (hr : meth.sig.returnType = (some .boolean)) {out : Int32 × zHp} {a0 : Nat} {a1 : Int32} {a2 : Int32} {h : zHp} {H : Heap} {locs : List Loc} {ls : Array Slot} (hf : f_X8_hasDuty a0 a1 a2 h = some out) (E : zE G s h H locs) (hl : lv_has ls 3 [(0, .ref a0), (1, .int a1), (2, .int a2)]) : W p l e rm_X8_hasDuty s m args below meth c H locs 0 0 (MQ below (zQi G out.1 out.2) args s 0 0 (zA G)) (F0 m 0 ls []) := by
  unfold f_X8_hasDuty at hf
  refine lv_aload_n Z.x Z.b dX8_hasDuty_0 rfl (lv_at hl 0 rfl) ?_
  refine lv_iload_n Z.x Z.b dX8_hasDuty_1 rfl (lv_at hl 1 rfl) ?_
  refine lv_iload_n Z.x Z.b dX8_hasDuty_2 rfl (lv_at hl 2 rfl) ?_
  refine z_Vi (As := [.int a1, .int a2]) Z E hl.1 k_X8_46 v_X8_placeOf hf (fun r h' e => c_X8_placeOf l G h h' a0 a1 a2 r e) rfl rfl (Nat.le_of_ble_eq_true rfl) (zRm_of rfl (Nat.zero_le _) (Nat.zero_le _)) dX8_hasDuty_3 (fun v1 h2 H locs hf E => ?_)
  refine lv_if_le (tgt := 22) Z.x Z.b dX8_hasDuty_6 (by decide) (fun c => ?_) (fun c => ?_)
  · have hf := zit hf c
    exact t_X8_hasDuty_22 Z hr hf E (lv_sub hl [] rfl)
  · have hf := zif_ hf c
    refine lv_aload_n Z.x Z.b dX8_hasDuty_9 rfl (lv_at hl 0 rfl) ?_
    refine lv_iload_n Z.x Z.b dX8_hasDuty_10 rfl (lv_at hl 1 rfl) ?_
    refine lv_iconst (v := 2) Z.x Z.b dX8_hasDuty_11 (by decide) ?_
    refine z_Vi (As := [.int a1, .int 2]) Z E hl.1 k_X8_62 v_X8_is hf (fun r h' e => c_X8_is l G h2 h' a0 a1 2 r e) rfl rfl (Nat.le_of_ble_eq_true rfl) (zRm_of rfl (Nat.zero_le _) (Nat.zero_le _)) dX8_hasDuty_12 (fun v3 h4 H locs hf E => ?_)
    refine lv_if_ne (tgt := 22) Z.x Z.b dX8_hasDuty_15 (by decide) (fun c => ?_) (fun c => ?_)
    · have hf := zif_ hf c
      exact t_X8_hasDuty_22 Z hr hf E (lv_sub hl [] rfl)
    · have hf := zit hf c
      refine lv_iconst (v := 1) Z.x Z.b dX8_hasDuty_18 (by decide) ?_
      refine lv_goto (tgt := 23) Z.x Z.b dX8_hasDuty_19 (by decide) ?_
      exact z_zret Z E hr dX8_hasDuty_23 hf
set_option maxHeartbeats 4000000 in
set_option maxRecDepth 20000 in
theorem c_X8_hasDuty (l : Launch) (G : zG) (h : zHp) (h' : zHp) (a0 : Nat) (a1 : Int32) (a2 : Int32) (r : Int32) (hf : f_X8_hasDuty a0 a1 a2 h = some (r, h')) : zM0 l yX8_hasDuty cX8_hasDuty 3 (some .boolean) rm_X8_hasDuty G [.ref a0, .int a1, .int a2] h (zQi G r h') := by
  refine Met.ofW (cc := cX8_hasDuty) (maxL := 3) (ret := (some .boolean)) (by decide) rfl ?_
  intro p e s m args below meth c s₁ B hml hv
  obtain ⟨rfl, hW⟩ := hv
  obtain ⟨Z, E, hr⟩ := zEnter (own := RX8) B hml rfl hW
  have hl := lv_entry ([.ref a0, .int a1, .int a2]) (n := 3) (Nat.le_of_ble_eq_true rfl)
  rw [lg_entry_eq]
  generalize (lg_sl ([.ref a0, .int a1, .int a2]) ++ List.replicate (3 - (lg_sl ([.ref a0, .int a1, .int a2])).length) Slot.unset).toArray = ls at hl ⊢
  have hl : lv_has ls 3 [(0, .ref a0), (1, .int a1), (2, .int a2)] := hl
  exact t_X8_hasDuty (out := (r, h')) Z hr hf E hl
/-! FerryCrewsModel.begins(II)I -/
theorem dX8_begins_0 : decode cX8_begins 0 = .ok (.aload_n 0, 1) := by decide +kernel
theorem dX8_begins_1 : decode cX8_begins 1 = .ok (.iload_n 1, 1) := by decide +kernel
theorem dX8_begins_2 : decode cX8_begins 2 = .ok (.iconst 2, 1) := by decide +kernel
theorem dX8_begins_3 : decode cX8_begins 3 = .ok (.invokevirtual 38, 3) := by decide +kernel
theorem dX8_begins_6 : decode cX8_begins 6 = .ok (.istore_n 3, 1) := by decide +kernel
theorem dX8_begins_7 : decode cX8_begins 7 = .ok (.aload_n 0, 1) := by decide +kernel
theorem dX8_begins_8 : decode cX8_begins 8 = .ok (.getfield 7, 3) := by decide +kernel
theorem dX8_begins_11 : decode cX8_begins 11 = .ok (.bipush 7, 2) := by decide +kernel
theorem dX8_begins_13 : decode cX8_begins 13 = .ok (.iaload, 1) := by decide +kernel
theorem dX8_begins_14 : decode cX8_begins 14 = .ok (.ifCond .eq 7, 3) := by decide +kernel
theorem dX8_begins_17 : decode cX8_begins 17 = .ok (.iload_n 3, 1) := by decide +kernel
theorem dX8_begins_18 : decode cX8_begins 18 = .ok (.ifCond .ne 5, 3) := by decide +kernel
theorem dX8_begins_21 : decode cX8_begins 21 = .ok (.iload_n 3, 1) := by decide +kernel
theorem dX8_begins_22 : decode cX8_begins 22 = .ok (.ireturn, 1) := by decide +kernel
theorem dX8_begins_23 : decode cX8_begins 23 = .ok (.iconst 0, 1) := by decide +kernel
theorem dX8_begins_24 : decode cX8_begins 24 = .ok (.istore 4, 2) := by decide +kernel
theorem dX8_begins_26 : decode cX8_begins 26 = .ok (.iload 4, 2) := by decide +kernel
theorem dX8_begins_28 : decode cX8_begins 28 = .ok (.aload_n 0, 1) := by decide +kernel
theorem dX8_begins_29 : decode cX8_begins 29 = .ok (.getfield 7, 3) := by decide +kernel
theorem dX8_begins_32 : decode cX8_begins 32 = .ok (.iconst 1, 1) := by decide +kernel
theorem dX8_begins_33 : decode cX8_begins 33 = .ok (.iaload, 1) := by decide +kernel
theorem dX8_begins_34 : decode cX8_begins 34 = .ok (.if_icmp .ge 47, 3) := by decide +kernel
theorem dX8_begins_37 : decode cX8_begins 37 = .ok (.aload_n 0, 1) := by decide +kernel
theorem dX8_begins_38 : decode cX8_begins 38 = .ok (.iload 4, 2) := by decide +kernel
theorem dX8_begins_40 : decode cX8_begins 40 = .ok (.iload_n 2, 1) := by decide +kernel
theorem dX8_begins_41 : decode cX8_begins 41 = .ok (.invokevirtual 66, 3) := by decide +kernel
theorem dX8_begins_44 : decode cX8_begins 44 = .ok (.ifCond .eq 31, 3) := by decide +kernel
theorem dX8_begins_47 : decode cX8_begins 47 = .ok (.aload_n 0, 1) := by decide +kernel
theorem dX8_begins_48 : decode cX8_begins 48 = .ok (.iload 4, 2) := by decide +kernel
theorem dX8_begins_50 : decode cX8_begins 50 = .ok (.iconst 1, 1) := by decide +kernel
theorem dX8_begins_51 : decode cX8_begins 51 = .ok (.invokevirtual 38, 3) := by decide +kernel
theorem dX8_begins_54 : decode cX8_begins 54 = .ok (.aload_n 0, 1) := by decide +kernel
theorem dX8_begins_55 : decode cX8_begins 55 = .ok (.iload_n 1, 1) := by decide +kernel
theorem dX8_begins_56 : decode cX8_begins 56 = .ok (.iconst 1, 1) := by decide +kernel
theorem dX8_begins_57 : decode cX8_begins 57 = .ok (.invokevirtual 38, 3) := by decide +kernel
theorem dX8_begins_60 : decode cX8_begins 60 = .ok (.if_icmp .ne 15, 3) := by decide +kernel
theorem dX8_begins_63 : decode cX8_begins 63 = .ok (.aload_n 0, 1) := by decide +kernel
theorem dX8_begins_64 : decode cX8_begins 64 = .ok (.iload 4, 2) := by decide +kernel
theorem dX8_begins_66 : decode cX8_begins 66 = .ok (.invokevirtual 69, 3) := by decide +kernel
theorem dX8_begins_69 : decode cX8_begins 69 = .ok (.iload_n 3, 1) := by decide +kernel
theorem dX8_begins_70 : decode cX8_begins 70 = .ok (.if_icmp .ne 5, 3) := by decide +kernel
theorem dX8_begins_73 : decode cX8_begins 73 = .ok (.iload_n 3, 1) := by decide +kernel
theorem dX8_begins_74 : decode cX8_begins 74 = .ok (.ireturn, 1) := by decide +kernel
theorem dX8_begins_75 : decode cX8_begins 75 = .ok (.iinc 4 1, 3) := by decide +kernel
theorem dX8_begins_78 : decode cX8_begins 78 = .ok (.goto (-52), 3) := by decide +kernel
theorem dX8_begins_81 : decode cX8_begins 81 = .ok (.iload_n 3, 1) := by decide +kernel
theorem dX8_begins_82 : decode cX8_begins 82 = .ok (.iconst 1, 1) := by decide +kernel
theorem dX8_begins_83 : decode cX8_begins 83 = .ok (.isub, 1) := by decide +kernel
theorem dX8_begins_84 : decode cX8_begins 84 = .ok (.ireturn, 1) := by decide +kernel
set_option maxRecDepth 20000 in
theorem wc_X8_hasDuty : Cond.code yX8_hasDuty cX8_hasDuty 3 (some .boolean) ∈ zB := List.mem_filter.mpr ⟨List.mem_of_getElem? (i := 1011) (by decide +kernel), by decide +kernel⟩
set_option maxRecDepth 20000 in
theorem wm_X8_66 : Cond.methodLink RX8 66 yX8_hasDuty ∈ zB := List.mem_filter.mpr ⟨List.mem_of_getElem? (i := 1008) (by decide +kernel), by decide +kernel⟩
theorem k_X8_66 : zCal RX8 66 yX8_hasDuty cX8_hasDuty 3 (some .boolean) 2 := ⟨wm_X8_66, wi_X8, wc_X8_hasDuty, by decide +kernel, by decide +kernel, by decide +kernel⟩
set_option maxRecDepth 20000 in
theorem wn_X8_hasDuty : Cond.instanceMethod yX8_hasDuty ∈ zB := List.mem_filter.mpr ⟨List.mem_of_getElem? (i := 1010) (by decide +kernel), by decide +kernel⟩
set_option maxRecDepth 20000 in
theorem ws_X8_hasDuty : Cond.selects RX8 yX8_hasDuty yX8_hasDuty ∈ zB := List.mem_filter.mpr ⟨List.mem_of_getElem? (i := 44) (by decide +kernel), by decide +kernel⟩
theorem v_X8_hasDuty : zVir yX8_hasDuty 8 := ⟨wn_X8_hasDuty, ws_X8_hasDuty, TX8, 12, rfl⟩
set_option maxRecDepth 20000 in
theorem wc_X8_end : Cond.code yX8_end cX8_end 2 (some .int) ∈ zB := List.mem_filter.mpr ⟨List.mem_of_getElem? (i := 864) (by decide +kernel), by decide +kernel⟩
set_option maxRecDepth 20000 in
theorem wm_X8_69 : Cond.methodLink RX8 69 yX8_end ∈ zB := List.mem_filter.mpr ⟨List.mem_of_getElem? (i := 861) (by decide +kernel), by decide +kernel⟩
theorem k_X8_69 : zCal RX8 69 yX8_end cX8_end 2 (some .int) 1 := ⟨wm_X8_69, wi_X8, wc_X8_end, by decide +kernel, by decide +kernel, by decide +kernel⟩
set_option maxRecDepth 20000 in
theorem wn_X8_end : Cond.instanceMethod yX8_end ∈ zB := List.mem_filter.mpr ⟨List.mem_of_getElem? (i := 863) (by decide +kernel), by decide +kernel⟩
set_option maxRecDepth 20000 in
theorem ws_X8_end : Cond.selects RX8 yX8_end yX8_end ∈ zB := List.mem_filter.mpr ⟨List.mem_of_getElem? (i := 15) (by decide +kernel), by decide +kernel⟩
theorem v_X8_end : zVir yX8_end 8 := ⟨wn_X8_end, ws_X8_end, TX8, 12, rfl⟩
def rm_X8_begins : Room := { frames := 3, cells := 0, slots := 0, locals := 66 }
set_option maxHeartbeats 4000000 in
set_option maxRecDepth 20000 in
theorem t_X8_begins_75 {p : Program} {l : Launch} {e : Env} {s : State} {m : MethodId} {args : Array Value} {below : List Frame} {meth : Method} {c : Code} {G : zG} (Z : zF p s m args c meth cX8_begins 5 RX8 G) (hr : meth.sig.returnType = (some .int)) {out : Int32 × zHp} {r26 : Nat → Int32 → Int32 → Int32 → Int32 → zHp → Option (Int32 × zHp)} (k26 : ∀ {a0 : Nat} {a1 : Int32} {a2 : Int32} {a3 : Int32} {a4 : Int32} {h : zHp} {H : Heap} {locs : List Loc} {ls : Array Slot}, r26 a0 a1 a2 a3 a4 h = some out → zE G s h H locs → lv_has ls 5 [(0, .ref a0), (1, .int a1), (2, .int a2), (3, .int a3), (4, .int a4)] → W p l e rm_X8_begins s m args below meth c H locs 0 0 (MQ below (zQi G out.1 out.2) args s 0 0 (zA G)) (F0 m 26 ls [])) {a0 : Nat} {a1 : Int32} {a2 : Int32} {a3 : Int32} {a4 : Int32} {h : zHp} {H : Heap} {locs : List Loc} {ls : Array Slot} (hf : f_X8_begins_75 r26 a0 a1 a2 a3 a4 h = some out) (E : zE G s h H locs) (hl : lv_has ls 5 [(0, .ref a0), (1, .int a1), (2, .int a2), (3, .int a3), (4, .int a4)]) : W p l e rm_X8_begins s m args below meth c H locs 0 0 (MQ below (zQi G out.1 out.2) args s 0 0 (zA G)) (F0 m 75 ls []) := by
  unfold f_X8_begins_75 at hf
  refine lv_iinc (v := (a4 + 1)) (lv' := [(4, .int (a4 + 1)), (0, .ref a0), (1, .int a1), (2, .int a2), (3, .int a3)]) Z.x Z.b dX8_begins_75 hl (k := 4) rfl rfl (by decide) rfl (fun ls hl => ?_)
  refine lv_goto (tgt := 26) Z.x Z.b dX8_begins_78 (by decide) ?_
  exact k26 hf E (lv_sub hl [1, 2, 3, 4, 0] rfl)
set_option maxHeartbeats 4000000 in
set_option maxRecDepth 20000 in
theorem t_X8_begins_26_body {p : Program} {l : Launch} {e : Env} {s : State} {m : MethodId} {args : Array Value} {below : List Frame} {meth : Method} {c : Code} {G : zG} (Z : zF p s m args c meth cX8_begins 5 RX8 G) (hr : meth.sig.returnType = (some .int)) {out : Int32 × zHp} {r26 : Nat → Int32 → Int32 → Int32 → Int32 → zHp → Option (Int32 × zHp)} (k26 : ∀ {a0 : Nat} {a1 : Int32} {a2 : Int32} {a3 : Int32} {a4 : Int32} {h : zHp} {H : Heap} {locs : List Loc} {ls : Array Slot}, r26 a0 a1 a2 a3 a4 h = some out → zE G s h H locs → lv_has ls 5 [(0, .ref a0), (1, .int a1), (2, .int a2), (3, .int a3), (4, .int a4)] → W p l e rm_X8_begins s m args below meth c H locs 0 0 (MQ below (zQi G out.1 out.2) args s 0 0 (zA G)) (F0 m 26 ls [])) {a0 : Nat} {a1 : Int32} {a2 : Int32} {a3 : Int32} {a4 : Int32} {h : zHp} {H : Heap} {locs : List Loc} {ls : Array Slot} (hf : f_X8_begins_26_body r26 a0 a1 a2 a3 a4 h = some out) (E : zE G s h H locs) (hl : lv_has ls 5 [(0, .ref a0), (1, .int a1), (2, .int a2), (3, .int a3), (4, .int a4)]) : W p l e rm_X8_begins s m args below meth c H locs 0 0 (MQ below (zQi G out.1 out.2) args s 0 0 (zA G)) (F0 m 26 ls []) := by
  unfold f_X8_begins_26_body at hf
  refine lv_iload Z.x Z.b dX8_begins_26 (lv_at hl 4 rfl) ?_
  refine lv_aload_n Z.x Z.b dX8_begins_28 rfl (lv_at hl 0 rfl) ?_
  refine z_getR Z E q_X8_7 dX8_begins_29 hf (fun v1 hf => ?_)
  refine lv_iconst (v := 1) Z.x Z.b dX8_begins_32 (by decide) ?_
  refine z_iald Z E dX8_begins_33 hf (fun v2 hf => ?_)
  refine lv_icmp_ge (tgt := 81) Z.x Z.b dX8_begins_34 (by decide) (fun c => ?_) (fun c => ?_)
  · have hf := zit hf c
    refine lv_iload_n Z.x Z.b dX8_begins_81 rfl (lv_at hl 3 rfl) ?_
    refine lv_iconst (v := 1) Z.x Z.b dX8_begins_82 (by decide) ?_
    refine lv_isub Z.x Z.b dX8_begins_83 ?_
    exact z_iret Z E hr dX8_begins_84 hf
  · have hf := zif_ hf c
    refine lv_aload_n Z.x Z.b dX8_begins_37 rfl (lv_at hl 0 rfl) ?_
    refine lv_iload Z.x Z.b dX8_begins_38 (lv_at hl 4 rfl) ?_
    refine lv_iload_n Z.x Z.b dX8_begins_40 rfl (lv_at hl 2 rfl) ?_
    refine z_Vi (As := [.int a4, .int a2]) Z E hl.1 k_X8_66 v_X8_hasDuty hf (fun r h' e => c_X8_hasDuty l G h h' a0 a4 a2 r e) rfl rfl (Nat.le_of_ble_eq_true rfl) (zRm_of rfl (Nat.zero_le _) (Nat.zero_le _)) dX8_begins_41 (fun v3 h4 H locs hf E => ?_)
    refine lv_if_eq (tgt := 75) Z.x Z.b dX8_begins_44 (by decide) (fun c => ?_) (fun c => ?_)
    · have hf := zit hf c
      exact t_X8_begins_75 Z hr k26 hf E (lv_sub hl [0, 1, 2, 3, 4] rfl)
    · have hf := zif_ hf c
      refine lv_aload_n Z.x Z.b dX8_begins_47 rfl (lv_at hl 0 rfl) ?_
      refine lv_iload Z.x Z.b dX8_begins_48 (lv_at hl 4 rfl) ?_
      refine lv_iconst (v := 1) Z.x Z.b dX8_begins_50 (by decide) ?_
      refine z_Vi (As := [.int a4, .int 1]) Z E hl.1 k_X8_38 v_X8_of hf (fun r h' e => c_X8_of l G h4 h' a0 a4 1 r e) rfl rfl (Nat.le_of_ble_eq_true rfl) (zRm_of rfl (Nat.zero_le _) (Nat.zero_le _)) dX8_begins_51 (fun v5 h6 H locs hf E => ?_)
      refine lv_aload_n Z.x Z.b dX8_begins_54 rfl (lv_at hl 0 rfl) ?_
      refine lv_iload_n Z.x Z.b dX8_begins_55 rfl (lv_at hl 1 rfl) ?_
      refine lv_iconst (v := 1) Z.x Z.b dX8_begins_56 (by decide) ?_
      refine z_Vi (As := [.int a1, .int 1]) Z E hl.1 k_X8_38 v_X8_of hf (fun r h' e => c_X8_of l G h6 h' a0 a1 1 r e) rfl rfl (Nat.le_of_ble_eq_true rfl) (zRm_of rfl (Nat.zero_le _) (Nat.zero_le _)) dX8_begins_57 (fun v7 h8 H locs hf E => ?_)
      refine lv_icmp_ne (tgt := 75) Z.x Z.b dX8_begins_60 (by decide) (fun c => ?_) (fun c => ?_)
      · have hf := zif_ hf c
        exact t_X8_begins_75 Z hr k26 hf E (lv_sub hl [0, 1, 2, 3, 4] rfl)
      · have hf := zit hf c
        refine lv_aload_n Z.x Z.b dX8_begins_63 rfl (lv_at hl 0 rfl) ?_
        refine lv_iload Z.x Z.b dX8_begins_64 (lv_at hl 4 rfl) ?_
        refine z_Vi (As := [.int a4]) Z E hl.1 k_X8_69 v_X8_end hf (fun r h' e => c_X8_end l G h8 h' a0 a4 r e) rfl rfl (Nat.le_of_ble_eq_true rfl) (zRm_of rfl (Nat.zero_le _) (Nat.zero_le _)) dX8_begins_66 (fun v9 h10 H locs hf E => ?_)
        refine lv_iload_n Z.x Z.b dX8_begins_69 rfl (lv_at hl 3 rfl) ?_
        refine lv_icmp_ne (tgt := 75) Z.x Z.b dX8_begins_70 (by decide) (fun c => ?_) (fun c => ?_)
        · have hf := zif_ hf c
          exact t_X8_begins_75 Z hr k26 hf E (lv_sub hl [0, 1, 2, 3, 4] rfl)
        · have hf := zit hf c
          refine lv_iload_n Z.x Z.b dX8_begins_73 rfl (lv_at hl 3 rfl) ?_
          exact z_iret Z E hr dX8_begins_74 hf
theorem t_X8_begins_26 {p : Program} {l : Launch} {e : Env} {s : State} {m : MethodId} {args : Array Value} {below : List Frame} {meth : Method} {c : Code} {G : zG} (Z : zF p s m args c meth cX8_begins 5 RX8 G) (hr : meth.sig.returnType = (some .int)) {out : Int32 × zHp} : ∀ (n : Nat), ∀ {a0 : Nat} {a1 : Int32} {a2 : Int32} {a3 : Int32} {a4 : Int32} {h : zHp} {H : Heap} {locs : List Loc} {ls : Array Slot}, f_X8_begins_26 n a0 a1 a2 a3 a4 h = some out → zE G s h H locs → lv_has ls 5 [(0, .ref a0), (1, .int a1), (2, .int a2), (3, .int a3), (4, .int a4)] → W p l e rm_X8_begins s m args below meth c H locs 0 0 (MQ below (zQi G out.1 out.2) args s 0 0 (zA G)) (F0 m 26 ls [])
  | 0 => fun hf => by cases hf
  | n + 1 => fun hf E hl => t_X8_begins_26_body Z hr (r26 := f_X8_begins_26 n) (t_X8_begins_26 Z hr n) hf E hl
set_option maxHeartbeats 4000000 in
set_option maxRecDepth 20000 in
theorem t_X8_begins {p : Program} {l : Launch} {e : Env} {s : State} {m : MethodId} {args : Array Value} {below : List Frame} {meth : Method} {c : Code} {G : zG} (Z : zF p s m args c meth cX8_begins 5 RX8 G) (hr : meth.sig.returnType = (some .int)) {out : Int32 × zHp} {a0 : Nat} {a1 : Int32} {a2 : Int32} {h : zHp} {H : Heap} {locs : List Loc} {ls : Array Slot} (hf : f_X8_begins a0 a1 a2 h = some out) (E : zE G s h H locs) (hl : lv_has ls 5 [(0, .ref a0), (1, .int a1), (2, .int a2)]) : W p l e rm_X8_begins s m args below meth c H locs 0 0 (MQ below (zQi G out.1 out.2) args s 0 0 (zA G)) (F0 m 0 ls []) := by
  unfold f_X8_begins at hf
  refine lv_aload_n Z.x Z.b dX8_begins_0 rfl (lv_at hl 0 rfl) ?_
  refine lv_iload_n Z.x Z.b dX8_begins_1 rfl (lv_at hl 1 rfl) ?_
  refine lv_iconst (v := 2) Z.x Z.b dX8_begins_2 (by decide) ?_
  refine z_Vi (As := [.int a1, .int 2]) Z E hl.1 k_X8_38 v_X8_of hf (fun r h' e => c_X8_of l G h h' a0 a1 2 r e) rfl rfl (Nat.le_of_ble_eq_true rfl) (zRm_of rfl (Nat.zero_le _) (Nat.zero_le _)) dX8_begins_3 (fun v1 h2 H locs hf E => ?_)
  refine lv_istore_n (lv' := [(3, .int v1), (0, .ref a0), (1, .int a1), (2, .int a2)]) Z.x Z.b dX8_begins_6 rfl hl (by decide) rfl (fun ls hl => ?_)
  refine lv_aload_n Z.x Z.b dX8_begins_7 rfl (lv_at hl 1 rfl) ?_
  refine z_getR Z E q_X8_7 dX8_begins_8 hf (fun v3 hf => ?_)
  refine lv_bipush (v := 7) Z.x Z.b dX8_begins_11 (by decide) ?_
  refine z_iald Z E dX8_begins_13 hf (fun v4 hf => ?_)
  refine lv_if_eq (tgt := 21) Z.x Z.b dX8_begins_14 (by decide) (fun c => ?_) (fun c => ?_)
  · have hf := zit hf c
    refine lv_iload_n Z.x Z.b dX8_begins_21 rfl (lv_at hl 0 rfl) ?_
    exact z_iret Z E hr dX8_begins_22 hf
  · have hf := zif_ hf c
    refine lv_iload_n Z.x Z.b dX8_begins_17 rfl (lv_at hl 0 rfl) ?_
    refine lv_if_ne (tgt := 23) Z.x Z.b dX8_begins_18 (by decide) (fun c => ?_) (fun c => ?_)
    · have hf := zif_ hf c
      refine lv_iconst (v := 0) Z.x Z.b dX8_begins_23 (by decide) ?_
      refine lv_istore (lv' := [(4, .int 0), (3, .int v1), (0, .ref a0), (1, .int a1), (2, .int a2)]) Z.x Z.b dX8_begins_24 hl (by decide) rfl (fun ls hl => ?_)
      exact t_X8_begins_26 Z hr zN hf E (lv_sub hl [2, 3, 4, 1, 0] rfl)
    · have hf := zit hf c
      refine lv_iload_n Z.x Z.b dX8_begins_21 rfl (lv_at hl 0 rfl) ?_
      exact z_iret Z E hr dX8_begins_22 hf
set_option maxHeartbeats 4000000 in
set_option maxRecDepth 20000 in
theorem c_X8_begins (l : Launch) (G : zG) (h : zHp) (h' : zHp) (a0 : Nat) (a1 : Int32) (a2 : Int32) (r : Int32) (hf : f_X8_begins a0 a1 a2 h = some (r, h')) : zM0 l yX8_begins cX8_begins 5 (some .int) rm_X8_begins G [.ref a0, .int a1, .int a2] h (zQi G r h') := by
  refine Met.ofW (cc := cX8_begins) (maxL := 5) (ret := (some .int)) (by decide) rfl ?_
  intro p e s m args below meth c s₁ B hml hv
  obtain ⟨rfl, hW⟩ := hv
  obtain ⟨Z, E, hr⟩ := zEnter (own := RX8) B hml rfl hW
  have hl := lv_entry ([.ref a0, .int a1, .int a2]) (n := 5) (Nat.le_of_ble_eq_true rfl)
  rw [lg_entry_eq]
  generalize (lg_sl ([.ref a0, .int a1, .int a2]) ++ List.replicate (5 - (lg_sl ([.ref a0, .int a1, .int a2])).length) Slot.unset).toArray = ls at hl ⊢
  have hl : lv_has ls 5 [(0, .ref a0), (1, .int a1), (2, .int a2)] := hl
  exact t_X8_begins (out := (r, h')) Z hr hf E hl
/-! FerryCrewsModel.countDuties(I)V -/
theorem dX8_countDuties_0 : decode cX8_countDuties 0 = .ok (.iconst 0, 1) := by decide +kernel
theorem dX8_countDuties_1 : decode cX8_countDuties 1 = .ok (.istore_n 2, 1) := by decide +kernel
theorem dX8_countDuties_2 : decode cX8_countDuties 2 = .ok (.iload_n 2, 1) := by decide +kernel
theorem dX8_countDuties_3 : decode cX8_countDuties 3 = .ok (.sipush 1200, 3) := by decide +kernel
theorem dX8_countDuties_6 : decode cX8_countDuties 6 = .ok (.if_icmp .ge 16, 3) := by decide +kernel
theorem dX8_countDuties_9 : decode cX8_countDuties 9 = .ok (.aload_n 0, 1) := by decide +kernel
theorem dX8_countDuties_10 : decode cX8_countDuties 10 = .ok (.getfield 28, 3) := by decide +kernel
theorem dX8_countDuties_13 : decode cX8_countDuties 13 = .ok (.iload_n 2, 1) := by decide +kernel
theorem dX8_countDuties_14 : decode cX8_countDuties 14 = .ok (.iconst 0, 1) := by decide +kernel
theorem dX8_countDuties_15 : decode cX8_countDuties 15 = .ok (.iastore, 1) := by decide +kernel
theorem dX8_countDuties_16 : decode cX8_countDuties 16 = .ok (.iinc 2 1, 3) := by decide +kernel
theorem dX8_countDuties_19 : decode cX8_countDuties 19 = .ok (.goto (-17), 3) := by decide +kernel
theorem dX8_countDuties_22 : decode cX8_countDuties 22 = .ok (.iconst 0, 1) := by decide +kernel
theorem dX8_countDuties_23 : decode cX8_countDuties 23 = .ok (.istore_n 2, 1) := by decide +kernel
theorem dX8_countDuties_24 : decode cX8_countDuties 24 = .ok (.iload_n 2, 1) := by decide +kernel
theorem dX8_countDuties_25 : decode cX8_countDuties 25 = .ok (.aload_n 0, 1) := by decide +kernel
theorem dX8_countDuties_26 : decode cX8_countDuties 26 = .ok (.getfield 7, 3) := by decide +kernel
theorem dX8_countDuties_29 : decode cX8_countDuties 29 = .ok (.iconst 1, 1) := by decide +kernel
theorem dX8_countDuties_30 : decode cX8_countDuties 30 = .ok (.iaload, 1) := by decide +kernel
theorem dX8_countDuties_31 : decode cX8_countDuties 31 = .ok (.if_icmp .ge 55, 3) := by decide +kernel
theorem dX8_countDuties_34 : decode cX8_countDuties 34 = .ok (.aload_n 0, 1) := by decide +kernel
theorem dX8_countDuties_35 : decode cX8_countDuties 35 = .ok (.iload_n 2, 1) := by decide +kernel
theorem dX8_countDuties_36 : decode cX8_countDuties 36 = .ok (.iload_n 1, 1) := by decide +kernel
theorem dX8_countDuties_37 : decode cX8_countDuties 37 = .ok (.invokevirtual 66, 3) := by decide +kernel
theorem dX8_countDuties_40 : decode cX8_countDuties 40 = .ok (.ifCond .eq 40, 3) := by decide +kernel
theorem dX8_countDuties_43 : decode cX8_countDuties 43 = .ok (.aload_n 0, 1) := by decide +kernel
theorem dX8_countDuties_44 : decode cX8_countDuties 44 = .ok (.iload_n 2, 1) := by decide +kernel
theorem dX8_countDuties_45 : decode cX8_countDuties 45 = .ok (.invokevirtual 69, 3) := by decide +kernel
theorem dX8_countDuties_48 : decode cX8_countDuties 48 = .ok (.istore_n 3, 1) := by decide +kernel
theorem dX8_countDuties_49 : decode cX8_countDuties 49 = .ok (.aload_n 0, 1) := by decide +kernel
theorem dX8_countDuties_50 : decode cX8_countDuties 50 = .ok (.iload_n 2, 1) := by decide +kernel
theorem dX8_countDuties_51 : decode cX8_countDuties 51 = .ok (.iload_n 1, 1) := by decide +kernel
theorem dX8_countDuties_52 : decode cX8_countDuties 52 = .ok (.invokevirtual 72, 3) := by decide +kernel
theorem dX8_countDuties_55 : decode cX8_countDuties 55 = .ok (.istore 4, 2) := by decide +kernel
theorem dX8_countDuties_57 : decode cX8_countDuties 57 = .ok (.iload 4, 2) := by decide +kernel
theorem dX8_countDuties_59 : decode cX8_countDuties 59 = .ok (.iload_n 3, 1) := by decide +kernel
theorem dX8_countDuties_60 : decode cX8_countDuties 60 = .ok (.if_icmp .ge 20, 3) := by decide +kernel
theorem dX8_countDuties_63 : decode cX8_countDuties 63 = .ok (.aload_n 0, 1) := by decide +kernel
theorem dX8_countDuties_64 : decode cX8_countDuties 64 = .ok (.getfield 28, 3) := by decide +kernel
theorem dX8_countDuties_67 : decode cX8_countDuties 67 = .ok (.iload 4, 2) := by decide +kernel
theorem dX8_countDuties_69 : decode cX8_countDuties 69 = .ok (.dup2, 1) := by decide +kernel
theorem dX8_countDuties_70 : decode cX8_countDuties 70 = .ok (.iaload, 1) := by decide +kernel
theorem dX8_countDuties_71 : decode cX8_countDuties 71 = .ok (.iconst 1, 1) := by decide +kernel
theorem dX8_countDuties_72 : decode cX8_countDuties 72 = .ok (.iadd, 1) := by decide +kernel
theorem dX8_countDuties_73 : decode cX8_countDuties 73 = .ok (.iastore, 1) := by decide +kernel
theorem dX8_countDuties_74 : decode cX8_countDuties 74 = .ok (.iinc 4 1, 3) := by decide +kernel
theorem dX8_countDuties_77 : decode cX8_countDuties 77 = .ok (.goto (-20), 3) := by decide +kernel
theorem dX8_countDuties_80 : decode cX8_countDuties 80 = .ok (.iinc 2 1, 3) := by decide +kernel
theorem dX8_countDuties_83 : decode cX8_countDuties 83 = .ok (.goto (-59), 3) := by decide +kernel
theorem dX8_countDuties_86 : decode cX8_countDuties 86 = .ok (.return_, 1) := by decide +kernel
theorem q_X8_28 : zFld RX8 28 8 6 := ⟨RX8, TX8, 12, rfl, by decide, iX8, wf_X8_28, rfl⟩
set_option maxRecDepth 20000 in
theorem wc_X8_begins : Cond.code yX8_begins cX8_begins 5 (some .int) ∈ zB := List.mem_filter.mpr ⟨List.mem_of_getElem? (i := 1015) (by decide +kernel), by decide +kernel⟩
set_option maxRecDepth 20000 in
theorem wm_X8_72 : Cond.methodLink RX8 72 yX8_begins ∈ zB := List.mem_filter.mpr ⟨List.mem_of_getElem? (i := 1012) (by decide +kernel), by decide +kernel⟩
theorem k_X8_72 : zCal RX8 72 yX8_begins cX8_begins 5 (some .int) 2 := ⟨wm_X8_72, wi_X8, wc_X8_begins, by decide +kernel, by decide +kernel, by decide +kernel⟩
set_option maxRecDepth 20000 in
theorem wn_X8_begins : Cond.instanceMethod yX8_begins ∈ zB := List.mem_filter.mpr ⟨List.mem_of_getElem? (i := 1014) (by decide +kernel), by decide +kernel⟩
set_option maxRecDepth 20000 in
theorem ws_X8_begins : Cond.selects RX8 yX8_begins yX8_begins ∈ zB := List.mem_filter.mpr ⟨List.mem_of_getElem? (i := 45) (by decide +kernel), by decide +kernel⟩
theorem v_X8_begins : zVir yX8_begins 8 := ⟨wn_X8_begins, ws_X8_begins, TX8, 12, rfl⟩
def rm_X8_countDuties : Room := { frames := 4, cells := 0, slots := 0, locals := 90 }
set_option maxHeartbeats 4000000 in
set_option maxRecDepth 20000 in
theorem t_X8_countDuties_80 {p : Program} {l : Launch} {e : Env} {s : State} {m : MethodId} {args : Array Value} {below : List Frame} {meth : Method} {c : Code} {G : zG} (Z : zF p s m args c meth cX8_countDuties 5 RX8 G) (hr : meth.sig.returnType = none) {out : zHp} {r24 : Nat → Int32 → Int32 → zHp → Option (zHp)} (k24 : ∀ {a0 : Nat} {a1 : Int32} {a2 : Int32} {h : zHp} {H : Heap} {locs : List Loc} {ls : Array Slot}, r24 a0 a1 a2 h = some out → zE G s h H locs → lv_has ls 5 [(0, .ref a0), (1, .int a1), (2, .int a2)] → W p l e rm_X8_countDuties s m args below meth c H locs 0 0 (MQ below (zQv G out) args s 0 0 (zA G)) (F0 m 24 ls [])) {a0 : Nat} {a1 : Int32} {a2 : Int32} {h : zHp} {H : Heap} {locs : List Loc} {ls : Array Slot} (hf : f_X8_countDuties_80 r24 a0 a1 a2 h = some out) (E : zE G s h H locs) (hl : lv_has ls 5 [(0, .ref a0), (1, .int a1), (2, .int a2)]) : W p l e rm_X8_countDuties s m args below meth c H locs 0 0 (MQ below (zQv G out) args s 0 0 (zA G)) (F0 m 80 ls []) := by
  unfold f_X8_countDuties_80 at hf
  refine lv_iinc (v := (a2 + 1)) (lv' := [(2, .int (a2 + 1)), (0, .ref a0), (1, .int a1)]) Z.x Z.b dX8_countDuties_80 hl (k := 2) rfl rfl (by decide) rfl (fun ls hl => ?_)
  refine lv_goto (tgt := 24) Z.x Z.b dX8_countDuties_83 (by decide) ?_
  exact k24 hf E (lv_sub hl [1, 2, 0] rfl)
set_option maxHeartbeats 4000000 in
set_option maxRecDepth 20000 in
theorem t_X8_countDuties_57_body {p : Program} {l : Launch} {e : Env} {s : State} {m : MethodId} {args : Array Value} {below : List Frame} {meth : Method} {c : Code} {G : zG} (Z : zF p s m args c meth cX8_countDuties 5 RX8 G) (hr : meth.sig.returnType = none) {out : zHp} {r24 : Nat → Int32 → Int32 → zHp → Option (zHp)} (k24 : ∀ {a0 : Nat} {a1 : Int32} {a2 : Int32} {h : zHp} {H : Heap} {locs : List Loc} {ls : Array Slot}, r24 a0 a1 a2 h = some out → zE G s h H locs → lv_has ls 5 [(0, .ref a0), (1, .int a1), (2, .int a2)] → W p l e rm_X8_countDuties s m args below meth c H locs 0 0 (MQ below (zQv G out) args s 0 0 (zA G)) (F0 m 24 ls [])) {r57 : Nat → Int32 → Int32 → Int32 → Int32 → zHp → Option (zHp)} (k57 : ∀ {a0 : Nat} {a1 : Int32} {a2 : Int32} {a3 : Int32} {a4 : Int32} {h : zHp} {H : Heap} {locs : List Loc} {ls : Array Slot}, r57 a0 a1 a2 a3 a4 h = some out → zE G s h H locs → lv_has ls 5 [(0, .ref a0), (1, .int a1), (2, .int a2), (3, .int a3), (4, .int a4)] → W p l e rm_X8_countDuties s m args below meth c H locs 0 0 (MQ below (zQv G out) args s 0 0 (zA G)) (F0 m 57 ls [])) {a0 : Nat} {a1 : Int32} {a2 : Int32} {a3 : Int32} {a4 : Int32} {h : zHp} {H : Heap} {locs : List Loc} {ls : Array Slot} (hf : f_X8_countDuties_57_body r24 r57 a0 a1 a2 a3 a4 h = some out) (E : zE G s h H locs) (hl : lv_has ls 5 [(0, .ref a0), (1, .int a1), (2, .int a2), (3, .int a3), (4, .int a4)]) : W p l e rm_X8_countDuties s m args below meth c H locs 0 0 (MQ below (zQv G out) args s 0 0 (zA G)) (F0 m 57 ls []) := by
  unfold f_X8_countDuties_57_body at hf
  refine lv_iload Z.x Z.b dX8_countDuties_57 (lv_at hl 4 rfl) ?_
  refine lv_iload_n Z.x Z.b dX8_countDuties_59 rfl (lv_at hl 3 rfl) ?_
  refine lv_icmp_ge (tgt := 80) Z.x Z.b dX8_countDuties_60 (by decide) (fun c => ?_) (fun c => ?_)
  · have hf := zit hf c
    exact t_X8_countDuties_80 Z hr k24 hf E (lv_sub hl [0, 1, 2] rfl)
  · have hf := zif_ hf c
    refine lv_aload_n Z.x Z.b dX8_countDuties_63 rfl (lv_at hl 0 rfl) ?_
    refine z_getR Z E q_X8_28 dX8_countDuties_64 hf (fun v1 hf => ?_)
    refine lv_iload Z.x Z.b dX8_countDuties_67 (lv_at hl 4 rfl) ?_
    refine lv_dup2_11 Z.x Z.b dX8_countDuties_69 rfl rfl ?_
    refine z_iald Z E dX8_countDuties_70 hf (fun v2 hf => ?_)
    refine lv_iconst (v := 1) Z.x Z.b dX8_countDuties_71 (by decide) ?_
    refine lv_iadd Z.x Z.b dX8_countDuties_72 ?_
    refine z_iast Z E dX8_countDuties_73 hf (fun h3 H locs hf E => ?_)
    refine lv_iinc (v := (a4 + 1)) (lv' := [(4, .int (a4 + 1)), (0, .ref a0), (1, .int a1), (2, .int a2), (3, .int a3)]) Z.x Z.b dX8_countDuties_74 hl (k := 4) rfl rfl (by decide) rfl (fun ls hl => ?_)
    refine lv_goto (tgt := 57) Z.x Z.b dX8_countDuties_77 (by decide) ?_
    exact k57 hf E (lv_sub hl [1, 2, 3, 4, 0] rfl)
theorem t_X8_countDuties_57 {p : Program} {l : Launch} {e : Env} {s : State} {m : MethodId} {args : Array Value} {below : List Frame} {meth : Method} {c : Code} {G : zG} (Z : zF p s m args c meth cX8_countDuties 5 RX8 G) (hr : meth.sig.returnType = none) {out : zHp} {r24 : Nat → Int32 → Int32 → zHp → Option (zHp)} (k24 : ∀ {a0 : Nat} {a1 : Int32} {a2 : Int32} {h : zHp} {H : Heap} {locs : List Loc} {ls : Array Slot}, r24 a0 a1 a2 h = some out → zE G s h H locs → lv_has ls 5 [(0, .ref a0), (1, .int a1), (2, .int a2)] → W p l e rm_X8_countDuties s m args below meth c H locs 0 0 (MQ below (zQv G out) args s 0 0 (zA G)) (F0 m 24 ls [])) : ∀ (n : Nat), ∀ {a0 : Nat} {a1 : Int32} {a2 : Int32} {a3 : Int32} {a4 : Int32} {h : zHp} {H : Heap} {locs : List Loc} {ls : Array Slot}, f_X8_countDuties_57 r24 n a0 a1 a2 a3 a4 h = some out → zE G s h H locs → lv_has ls 5 [(0, .ref a0), (1, .int a1), (2, .int a2), (3, .int a3), (4, .int a4)] → W p l e rm_X8_countDuties s m args below meth c H locs 0 0 (MQ below (zQv G out) args s 0 0 (zA G)) (F0 m 57 ls [])
  | 0 => fun hf => by cases hf
  | n + 1 => fun hf E hl => t_X8_countDuties_57_body Z hr k24 (r57 := f_X8_countDuties_57 r24 n) (t_X8_countDuties_57 Z hr k24 n) hf E hl
set_option maxHeartbeats 4000000 in
set_option maxRecDepth 20000 in
theorem t_X8_countDuties_24_body {p : Program} {l : Launch} {e : Env} {s : State} {m : MethodId} {args : Array Value} {below : List Frame} {meth : Method} {c : Code} {G : zG} (Z : zF p s m args c meth cX8_countDuties 5 RX8 G) (hr : meth.sig.returnType = none) {out : zHp} {r24 : Nat → Int32 → Int32 → zHp → Option (zHp)} (k24 : ∀ {a0 : Nat} {a1 : Int32} {a2 : Int32} {h : zHp} {H : Heap} {locs : List Loc} {ls : Array Slot}, r24 a0 a1 a2 h = some out → zE G s h H locs → lv_has ls 5 [(0, .ref a0), (1, .int a1), (2, .int a2)] → W p l e rm_X8_countDuties s m args below meth c H locs 0 0 (MQ below (zQv G out) args s 0 0 (zA G)) (F0 m 24 ls [])) {a0 : Nat} {a1 : Int32} {a2 : Int32} {h : zHp} {H : Heap} {locs : List Loc} {ls : Array Slot} (hf : f_X8_countDuties_24_body r24 a0 a1 a2 h = some out) (E : zE G s h H locs) (hl : lv_has ls 5 [(0, .ref a0), (1, .int a1), (2, .int a2)]) : W p l e rm_X8_countDuties s m args below meth c H locs 0 0 (MQ below (zQv G out) args s 0 0 (zA G)) (F0 m 24 ls []) := by
  unfold f_X8_countDuties_24_body at hf
  refine lv_iload_n Z.x Z.b dX8_countDuties_24 rfl (lv_at hl 2 rfl) ?_
  refine lv_aload_n Z.x Z.b dX8_countDuties_25 rfl (lv_at hl 0 rfl) ?_
  refine z_getR Z E q_X8_7 dX8_countDuties_26 hf (fun v1 hf => ?_)
  refine lv_iconst (v := 1) Z.x Z.b dX8_countDuties_29 (by decide) ?_
  refine z_iald Z E dX8_countDuties_30 hf (fun v2 hf => ?_)
  refine lv_icmp_ge (tgt := 86) Z.x Z.b dX8_countDuties_31 (by decide) (fun c => ?_) (fun c => ?_)
  · have hf := zit hf c
    exact z_vret Z E hr dX8_countDuties_86 hf
  · have hf := zif_ hf c
    refine lv_aload_n Z.x Z.b dX8_countDuties_34 rfl (lv_at hl 0 rfl) ?_
    refine lv_iload_n Z.x Z.b dX8_countDuties_35 rfl (lv_at hl 2 rfl) ?_
    refine lv_iload_n Z.x Z.b dX8_countDuties_36 rfl (lv_at hl 1 rfl) ?_
    refine z_Vi (As := [.int a2, .int a1]) Z E hl.1 k_X8_66 v_X8_hasDuty hf (fun r h' e => c_X8_hasDuty l G h h' a0 a2 a1 r e) rfl rfl (Nat.le_of_ble_eq_true rfl) (zRm_of rfl (Nat.zero_le _) (Nat.zero_le _)) dX8_countDuties_37 (fun v3 h4 H locs hf E => ?_)
    refine lv_if_eq (tgt := 80) Z.x Z.b dX8_countDuties_40 (by decide) (fun c => ?_) (fun c => ?_)
    · have hf := zit hf c
      exact t_X8_countDuties_80 Z hr k24 hf E (lv_sub hl [0, 1, 2] rfl)
    · have hf := zif_ hf c
      refine lv_aload_n Z.x Z.b dX8_countDuties_43 rfl (lv_at hl 0 rfl) ?_
      refine lv_iload_n Z.x Z.b dX8_countDuties_44 rfl (lv_at hl 2 rfl) ?_
      refine z_Vi (As := [.int a2]) Z E hl.1 k_X8_69 v_X8_end hf (fun r h' e => c_X8_end l G h4 h' a0 a2 r e) rfl rfl (Nat.le_of_ble_eq_true rfl) (zRm_of rfl (Nat.zero_le _) (Nat.zero_le _)) dX8_countDuties_45 (fun v5 h6 H locs hf E => ?_)
      refine lv_istore_n (lv' := [(3, .int v5), (0, .ref a0), (1, .int a1), (2, .int a2)]) Z.x Z.b dX8_countDuties_48 rfl hl (by decide) rfl (fun ls hl => ?_)
      refine lv_aload_n Z.x Z.b dX8_countDuties_49 rfl (lv_at hl 1 rfl) ?_
      refine lv_iload_n Z.x Z.b dX8_countDuties_50 rfl (lv_at hl 3 rfl) ?_
      refine lv_iload_n Z.x Z.b dX8_countDuties_51 rfl (lv_at hl 2 rfl) ?_
      refine z_Vi (As := [.int a2, .int a1]) Z E hl.1 k_X8_72 v_X8_begins hf (fun r h' e => c_X8_begins l G h6 h' a0 a2 a1 r e) rfl rfl (Nat.le_of_ble_eq_true rfl) (zRm_of rfl (Nat.zero_le _) (Nat.zero_le _)) dX8_countDuties_52 (fun v7 h8 H locs hf E => ?_)
      refine lv_istore (lv' := [(4, .int v7), (3, .int v5), (0, .ref a0), (1, .int a1), (2, .int a2)]) Z.x Z.b dX8_countDuties_55 hl (by decide) rfl (fun ls hl => ?_)
      exact t_X8_countDuties_57 Z hr k24 zN hf E (lv_sub hl [2, 3, 4, 1, 0] rfl)
theorem t_X8_countDuties_24 {p : Program} {l : Launch} {e : Env} {s : State} {m : MethodId} {args : Array Value} {below : List Frame} {meth : Method} {c : Code} {G : zG} (Z : zF p s m args c meth cX8_countDuties 5 RX8 G) (hr : meth.sig.returnType = none) {out : zHp} : ∀ (n : Nat), ∀ {a0 : Nat} {a1 : Int32} {a2 : Int32} {h : zHp} {H : Heap} {locs : List Loc} {ls : Array Slot}, f_X8_countDuties_24 n a0 a1 a2 h = some out → zE G s h H locs → lv_has ls 5 [(0, .ref a0), (1, .int a1), (2, .int a2)] → W p l e rm_X8_countDuties s m args below meth c H locs 0 0 (MQ below (zQv G out) args s 0 0 (zA G)) (F0 m 24 ls [])
  | 0 => fun hf => by cases hf
  | n + 1 => fun hf E hl => t_X8_countDuties_24_body Z hr (r24 := f_X8_countDuties_24 n) (t_X8_countDuties_24 Z hr n) hf E hl
set_option maxHeartbeats 4000000 in
set_option maxRecDepth 20000 in
theorem t_X8_countDuties_2_body {p : Program} {l : Launch} {e : Env} {s : State} {m : MethodId} {args : Array Value} {below : List Frame} {meth : Method} {c : Code} {G : zG} (Z : zF p s m args c meth cX8_countDuties 5 RX8 G) (hr : meth.sig.returnType = none) {out : zHp} {r2 : Nat → Int32 → Int32 → zHp → Option (zHp)} (k2 : ∀ {a0 : Nat} {a1 : Int32} {a2 : Int32} {h : zHp} {H : Heap} {locs : List Loc} {ls : Array Slot}, r2 a0 a1 a2 h = some out → zE G s h H locs → lv_has ls 5 [(0, .ref a0), (1, .int a1), (2, .int a2)] → W p l e rm_X8_countDuties s m args below meth c H locs 0 0 (MQ below (zQv G out) args s 0 0 (zA G)) (F0 m 2 ls [])) {a0 : Nat} {a1 : Int32} {a2 : Int32} {h : zHp} {H : Heap} {locs : List Loc} {ls : Array Slot} (hf : f_X8_countDuties_2_body r2 a0 a1 a2 h = some out) (E : zE G s h H locs) (hl : lv_has ls 5 [(0, .ref a0), (1, .int a1), (2, .int a2)]) : W p l e rm_X8_countDuties s m args below meth c H locs 0 0 (MQ below (zQv G out) args s 0 0 (zA G)) (F0 m 2 ls []) := by
  unfold f_X8_countDuties_2_body at hf
  refine lv_iload_n Z.x Z.b dX8_countDuties_2 rfl (lv_at hl 2 rfl) ?_
  refine lv_sipush (v := 1200) Z.x Z.b dX8_countDuties_3 (by decide) ?_
  refine lv_icmp_ge (tgt := 22) Z.x Z.b dX8_countDuties_6 (by decide) (fun c => ?_) (fun c => ?_)
  · have hf := zit hf c
    refine lv_iconst (v := 0) Z.x Z.b dX8_countDuties_22 (by decide) ?_
    refine lv_istore_n (lv' := [(2, .int 0), (0, .ref a0), (1, .int a1)]) Z.x Z.b dX8_countDuties_23 rfl hl (by decide) rfl (fun ls hl => ?_)
    exact t_X8_countDuties_24 Z hr zN hf E (lv_sub hl [1, 2, 0] rfl)
  · have hf := zif_ hf c
    refine lv_aload_n Z.x Z.b dX8_countDuties_9 rfl (lv_at hl 0 rfl) ?_
    refine z_getR Z E q_X8_28 dX8_countDuties_10 hf (fun v1 hf => ?_)
    refine lv_iload_n Z.x Z.b dX8_countDuties_13 rfl (lv_at hl 2 rfl) ?_
    refine lv_iconst (v := 0) Z.x Z.b dX8_countDuties_14 (by decide) ?_
    refine z_iast Z E dX8_countDuties_15 hf (fun h2 H locs hf E => ?_)
    refine lv_iinc (v := (a2 + 1)) (lv' := [(2, .int (a2 + 1)), (0, .ref a0), (1, .int a1)]) Z.x Z.b dX8_countDuties_16 hl (k := 2) rfl rfl (by decide) rfl (fun ls hl => ?_)
    refine lv_goto (tgt := 2) Z.x Z.b dX8_countDuties_19 (by decide) ?_
    exact k2 hf E (lv_sub hl [1, 2, 0] rfl)
theorem t_X8_countDuties_2 {p : Program} {l : Launch} {e : Env} {s : State} {m : MethodId} {args : Array Value} {below : List Frame} {meth : Method} {c : Code} {G : zG} (Z : zF p s m args c meth cX8_countDuties 5 RX8 G) (hr : meth.sig.returnType = none) {out : zHp} : ∀ (n : Nat), ∀ {a0 : Nat} {a1 : Int32} {a2 : Int32} {h : zHp} {H : Heap} {locs : List Loc} {ls : Array Slot}, f_X8_countDuties_2 n a0 a1 a2 h = some out → zE G s h H locs → lv_has ls 5 [(0, .ref a0), (1, .int a1), (2, .int a2)] → W p l e rm_X8_countDuties s m args below meth c H locs 0 0 (MQ below (zQv G out) args s 0 0 (zA G)) (F0 m 2 ls [])
  | 0 => fun hf => by cases hf
  | n + 1 => fun hf E hl => t_X8_countDuties_2_body Z hr (r2 := f_X8_countDuties_2 n) (t_X8_countDuties_2 Z hr n) hf E hl
set_option maxHeartbeats 4000000 in
set_option maxRecDepth 20000 in
theorem t_X8_countDuties {p : Program} {l : Launch} {e : Env} {s : State} {m : MethodId} {args : Array Value} {below : List Frame} {meth : Method} {c : Code} {G : zG} (Z : zF p s m args c meth cX8_countDuties 5 RX8 G) (hr : meth.sig.returnType = none) {out : zHp} {a0 : Nat} {a1 : Int32} {h : zHp} {H : Heap} {locs : List Loc} {ls : Array Slot} (hf : f_X8_countDuties a0 a1 h = some out) (E : zE G s h H locs) (hl : lv_has ls 5 [(0, .ref a0), (1, .int a1)]) : W p l e rm_X8_countDuties s m args below meth c H locs 0 0 (MQ below (zQv G out) args s 0 0 (zA G)) (F0 m 0 ls []) := by
  unfold f_X8_countDuties at hf
  refine lv_iconst (v := 0) Z.x Z.b dX8_countDuties_0 (by decide) ?_
  refine lv_istore_n (lv' := [(2, .int 0), (0, .ref a0), (1, .int a1)]) Z.x Z.b dX8_countDuties_1 rfl hl (by decide) rfl (fun ls hl => ?_)
  exact t_X8_countDuties_2 Z hr zN hf E (lv_sub hl [1, 2, 0] rfl)
set_option maxHeartbeats 4000000 in
set_option maxRecDepth 20000 in
theorem c_X8_countDuties (l : Launch) (G : zG) (h : zHp) (h' : zHp) (a0 : Nat) (a1 : Int32) (hf : f_X8_countDuties a0 a1 h = some h') : zM0 l yX8_countDuties cX8_countDuties 5 none rm_X8_countDuties G [.ref a0, .int a1] h (zQv G h') := by
  refine Met.ofW (cc := cX8_countDuties) (maxL := 5) (ret := none) (by decide) rfl ?_
  intro p e s m args below meth c s₁ B hml hv
  obtain ⟨rfl, hW⟩ := hv
  obtain ⟨Z, E, hr⟩ := zEnter (own := RX8) B hml rfl hW
  have hl := lv_entry ([.ref a0, .int a1]) (n := 5) (Nat.le_of_ble_eq_true rfl)
  rw [lg_entry_eq]
  generalize (lg_sl ([.ref a0, .int a1]) ++ List.replicate (5 - (lg_sl ([.ref a0, .int a1])).length) Slot.unset).toArray = ls at hl ⊢
  have hl : lv_has ls 5 [(0, .ref a0), (1, .int a1)] := hl
  exact t_X8_countDuties (out := h') Z hr hf E hl
/-! FerryCrewsModel.without(II)I -/
theorem dX8_without_0 : decode cX8_without 0 = .ok (.iconst 0, 1) := by decide +kernel
theorem dX8_without_1 : decode cX8_without 1 = .ok (.istore_n 3, 1) := by decide +kernel
theorem dX8_without_2 : decode cX8_without 2 = .ok (.iload_n 1, 1) := by decide +kernel
theorem dX8_without_3 : decode cX8_without 3 = .ok (.istore 4, 2) := by decide +kernel
theorem dX8_without_5 : decode cX8_without 5 = .ok (.iload 4, 2) := by decide +kernel
theorem dX8_without_7 : decode cX8_without 7 = .ok (.iload_n 1, 1) := by decide +kernel
theorem dX8_without_8 : decode cX8_without 8 = .ok (.iload_n 2, 1) := by decide +kernel
theorem dX8_without_9 : decode cX8_without 9 = .ok (.iadd, 1) := by decide +kernel
theorem dX8_without_10 : decode cX8_without 10 = .ok (.if_icmp .ge 35, 3) := by decide +kernel
theorem dX8_without_13 : decode cX8_without 13 = .ok (.iload_n 3, 1) := by decide +kernel
theorem dX8_without_14 : decode cX8_without 14 = .ok (.iload 4, 2) := by decide +kernel
theorem dX8_without_16 : decode cX8_without 16 = .ok (.sipush 1200, 3) := by decide +kernel
theorem dX8_without_19 : decode cX8_without 19 = .ok (.if_icmp .ge 13, 3) := by decide +kernel
theorem dX8_without_22 : decode cX8_without 22 = .ok (.aload_n 0, 1) := by decide +kernel
theorem dX8_without_23 : decode cX8_without 23 = .ok (.getfield 28, 3) := by decide +kernel
theorem dX8_without_26 : decode cX8_without 26 = .ok (.iload 4, 2) := by decide +kernel
theorem dX8_without_28 : decode cX8_without 28 = .ok (.iaload, 1) := by decide +kernel
theorem dX8_without_29 : decode cX8_without 29 = .ok (.ifCond .ne 7, 3) := by decide +kernel
theorem dX8_without_32 : decode cX8_without 32 = .ok (.iconst 1, 1) := by decide +kernel
theorem dX8_without_33 : decode cX8_without 33 = .ok (.goto 4, 3) := by decide +kernel
theorem dX8_without_36 : decode cX8_without 36 = .ok (.iconst 0, 1) := by decide +kernel
theorem dX8_without_37 : decode cX8_without 37 = .ok (.iadd, 1) := by decide +kernel
theorem dX8_without_38 : decode cX8_without 38 = .ok (.istore_n 3, 1) := by decide +kernel
theorem dX8_without_39 : decode cX8_without 39 = .ok (.iinc 4 1, 3) := by decide +kernel
theorem dX8_without_42 : decode cX8_without 42 = .ok (.goto (-37), 3) := by decide +kernel
theorem dX8_without_45 : decode cX8_without 45 = .ok (.iload_n 3, 1) := by decide +kernel
theorem dX8_without_46 : decode cX8_without 46 = .ok (.ireturn, 1) := by decide +kernel
def rm_X8_without : Room := { frames := 0, cells := 0, slots := 0, locals := 0 }
set_option maxHeartbeats 4000000 in
set_option maxRecDepth 20000 in
theorem t_X8_without_37 {p : Program} {l : Launch} {e : Env} {s : State} {m : MethodId} {args : Array Value} {below : List Frame} {meth : Method} {c : Code} {G : zG} (Z : zF p s m args c meth cX8_without 5 RX8 G) (hr : meth.sig.returnType = (some .int)) {out : Int32 × zHp} {r5 : Nat → Int32 → Int32 → Int32 → Int32 → zHp → Option (Int32 × zHp)} (k5 : ∀ {a0 : Nat} {a1 : Int32} {a2 : Int32} {a3 : Int32} {a4 : Int32} {h : zHp} {H : Heap} {locs : List Loc} {ls : Array Slot}, r5 a0 a1 a2 a3 a4 h = some out → zE G s h H locs → lv_has ls 5 [(0, .ref a0), (1, .int a1), (2, .int a2), (3, .int a3), (4, .int a4)] → W p l e rm_X8_without s m args below meth c H locs 0 0 (MQ below (zQi G out.1 out.2) args s 0 0 (zA G)) (F0 m 5 ls [])) {a0 : Nat} {a1 : Int32} {a2 : Int32} {a4 : Int32} {s0 : Int32} {s1 : Int32} {h : zHp} {H : Heap} {locs : List Loc} {ls : Array Slot} (hf : f_X8_without_37 r5 a0 a1 a2 a4 s0 s1 h = some out) (E : zE G s h H locs) (hl : lv_has ls 5 [(0, .ref a0), (1, .int a1), (2, .int a2), (4, .int a4)]) : W p l e rm_X8_without s m args below meth c H locs 0 0 (MQ below (zQi G out.1 out.2) args s 0 0 (zA G)) (F0 m 37 ls [.int s0, .int s1]) := by
  unfold f_X8_without_37 at hf
  refine lv_iadd Z.x Z.b dX8_without_37 ?_
  refine lv_istore_n (lv' := [(3, .int (s1 + s0)), (0, .ref a0), (1, .int a1), (2, .int a2), (4, .int a4)]) Z.x Z.b dX8_without_38 rfl hl (by decide) rfl (fun ls hl => ?_)
  refine lv_iinc (v := (a4 + 1)) (lv' := [(4, .int (a4 + 1)), (3, .int (s1 + s0)), (0, .ref a0), (1, .int a1), (2, .int a2)]) Z.x Z.b dX8_without_39 hl (k := 4) rfl rfl (by decide) rfl (fun ls hl => ?_)
  refine lv_goto (tgt := 5) Z.x Z.b dX8_without_42 (by decide) ?_
  exact k5 hf E (lv_sub hl [2, 3, 4, 1, 0] rfl)
set_option maxHeartbeats 4000000 in
set_option maxRecDepth 20000 in
theorem t_X8_without_32 {p : Program} {l : Launch} {e : Env} {s : State} {m : MethodId} {args : Array Value} {below : List Frame} {meth : Method} {c : Code} {G : zG} (Z : zF p s m args c meth cX8_without 5 RX8 G) (hr : meth.sig.returnType = (some .int)) {out : Int32 × zHp} {r5 : Nat → Int32 → Int32 → Int32 → Int32 → zHp → Option (Int32 × zHp)} (k5 : ∀ {a0 : Nat} {a1 : Int32} {a2 : Int32} {a3 : Int32} {a4 : Int32} {h : zHp} {H : Heap} {locs : List Loc} {ls : Array Slot}, r5 a0 a1 a2 a3 a4 h = some out → zE G s h H locs → lv_has ls 5 [(0, .ref a0), (1, .int a1), (2, .int a2), (3, .int a3), (4, .int a4)] → W p l e rm_X8_without s m args below meth c H locs 0 0 (MQ below (zQi G out.1 out.2) args s 0 0 (zA G)) (F0 m 5 ls [])) {a0 : Nat} {a1 : Int32} {a2 : Int32} {a4 : Int32} {s0 : Int32} {h : zHp} {H : Heap} {locs : List Loc} {ls : Array Slot} (hf : f_X8_without_32 r5 a0 a1 a2 a4 s0 h = some out) (E : zE G s h H locs) (hl : lv_has ls 5 [(0, .ref a0), (1, .int a1), (2, .int a2), (4, .int a4)]) : W p l e rm_X8_without s m args below meth c H locs 0 0 (MQ below (zQi G out.1 out.2) args s 0 0 (zA G)) (F0 m 32 ls [.int s0]) := by
  unfold f_X8_without_32 at hf
  refine lv_iconst (v := 1) Z.x Z.b dX8_without_32 (by decide) ?_
  refine lv_goto (tgt := 37) Z.x Z.b dX8_without_33 (by decide) ?_
  exact t_X8_without_37 Z hr k5 hf E (lv_sub hl [0, 1, 2, 3] rfl)
set_option maxHeartbeats 4000000 in
set_option maxRecDepth 20000 in
theorem t_X8_without_5_body {p : Program} {l : Launch} {e : Env} {s : State} {m : MethodId} {args : Array Value} {below : List Frame} {meth : Method} {c : Code} {G : zG} (Z : zF p s m args c meth cX8_without 5 RX8 G) (hr : meth.sig.returnType = (some .int)) {out : Int32 × zHp} {r5 : Nat → Int32 → Int32 → Int32 → Int32 → zHp → Option (Int32 × zHp)} (k5 : ∀ {a0 : Nat} {a1 : Int32} {a2 : Int32} {a3 : Int32} {a4 : Int32} {h : zHp} {H : Heap} {locs : List Loc} {ls : Array Slot}, r5 a0 a1 a2 a3 a4 h = some out → zE G s h H locs → lv_has ls 5 [(0, .ref a0), (1, .int a1), (2, .int a2), (3, .int a3), (4, .int a4)] → W p l e rm_X8_without s m args below meth c H locs 0 0 (MQ below (zQi G out.1 out.2) args s 0 0 (zA G)) (F0 m 5 ls [])) {a0 : Nat} {a1 : Int32} {a2 : Int32} {a3 : Int32} {a4 : Int32} {h : zHp} {H : Heap} {locs : List Loc} {ls : Array Slot} (hf : f_X8_without_5_body r5 a0 a1 a2 a3 a4 h = some out) (E : zE G s h H locs) (hl : lv_has ls 5 [(0, .ref a0), (1, .int a1), (2, .int a2), (3, .int a3), (4, .int a4)]) : W p l e rm_X8_without s m args below meth c H locs 0 0 (MQ below (zQi G out.1 out.2) args s 0 0 (zA G)) (F0 m 5 ls []) := by
  unfold f_X8_without_5_body at hf
  refine lv_iload Z.x Z.b dX8_without_5 (lv_at hl 4 rfl) ?_
  refine lv_iload_n Z.x Z.b dX8_without_7 rfl (lv_at hl 1 rfl) ?_
  refine lv_iload_n Z.x Z.b dX8_without_8 rfl (lv_at hl 2 rfl) ?_
  refine lv_iadd Z.x Z.b dX8_without_9 ?_
  refine lv_icmp_ge (tgt := 45) Z.x Z.b dX8_without_10 (by decide) (fun c => ?_) (fun c => ?_)
  · have hf := zit hf c
    refine lv_iload_n Z.x Z.b dX8_without_45 rfl (lv_at hl 3 rfl) ?_
    exact z_iret Z E hr dX8_without_46 hf
  · have hf := zif_ hf c
    refine lv_iload_n Z.x Z.b dX8_without_13 rfl (lv_at hl 3 rfl) ?_
    refine lv_iload Z.x Z.b dX8_without_14 (lv_at hl 4 rfl) ?_
    refine lv_sipush (v := 1200) Z.x Z.b dX8_without_16 (by decide) ?_
    refine lv_icmp_ge (tgt := 32) Z.x Z.b dX8_without_19 (by decide) (fun c => ?_) (fun c => ?_)
    · have hf := zit hf c
      exact t_X8_without_32 Z hr k5 hf E (lv_sub hl [0, 1, 2, 4] rfl)
    · have hf := zif_ hf c
      refine lv_aload_n Z.x Z.b dX8_without_22 rfl (lv_at hl 0 rfl) ?_
      refine z_getR Z E q_X8_28 dX8_without_23 hf (fun v1 hf => ?_)
      refine lv_iload Z.x Z.b dX8_without_26 (lv_at hl 4 rfl) ?_
      refine z_iald Z E dX8_without_28 hf (fun v2 hf => ?_)
      refine lv_if_ne (tgt := 36) Z.x Z.b dX8_without_29 (by decide) (fun c => ?_) (fun c => ?_)
      · have hf := zif_ hf c
        refine lv_iconst (v := 0) Z.x Z.b dX8_without_36 (by decide) ?_
        exact t_X8_without_37 Z hr k5 hf E (lv_sub hl [0, 1, 2, 4] rfl)
      · have hf := zit hf c
        exact t_X8_without_32 Z hr k5 hf E (lv_sub hl [0, 1, 2, 4] rfl)
theorem t_X8_without_5 {p : Program} {l : Launch} {e : Env} {s : State} {m : MethodId} {args : Array Value} {below : List Frame} {meth : Method} {c : Code} {G : zG} (Z : zF p s m args c meth cX8_without 5 RX8 G) (hr : meth.sig.returnType = (some .int)) {out : Int32 × zHp} : ∀ (n : Nat), ∀ {a0 : Nat} {a1 : Int32} {a2 : Int32} {a3 : Int32} {a4 : Int32} {h : zHp} {H : Heap} {locs : List Loc} {ls : Array Slot}, f_X8_without_5 n a0 a1 a2 a3 a4 h = some out → zE G s h H locs → lv_has ls 5 [(0, .ref a0), (1, .int a1), (2, .int a2), (3, .int a3), (4, .int a4)] → W p l e rm_X8_without s m args below meth c H locs 0 0 (MQ below (zQi G out.1 out.2) args s 0 0 (zA G)) (F0 m 5 ls [])
  | 0 => fun hf => by cases hf
  | n + 1 => fun hf E hl => t_X8_without_5_body Z hr (r5 := f_X8_without_5 n) (t_X8_without_5 Z hr n) hf E hl
set_option maxHeartbeats 4000000 in
set_option maxRecDepth 20000 in
theorem t_X8_without {p : Program} {l : Launch} {e : Env} {s : State} {m : MethodId} {args : Array Value} {below : List Frame} {meth : Method} {c : Code} {G : zG} (Z : zF p s m args c meth cX8_without 5 RX8 G) (hr : meth.sig.returnType = (some .int)) {out : Int32 × zHp} {a0 : Nat} {a1 : Int32} {a2 : Int32} {h : zHp} {H : Heap} {locs : List Loc} {ls : Array Slot} (hf : f_X8_without a0 a1 a2 h = some out) (E : zE G s h H locs) (hl : lv_has ls 5 [(0, .ref a0), (1, .int a1), (2, .int a2)]) : W p l e rm_X8_without s m args below meth c H locs 0 0 (MQ below (zQi G out.1 out.2) args s 0 0 (zA G)) (F0 m 0 ls []) := by
  unfold f_X8_without at hf
  refine lv_iconst (v := 0) Z.x Z.b dX8_without_0 (by decide) ?_
  refine lv_istore_n (lv' := [(3, .int 0), (0, .ref a0), (1, .int a1), (2, .int a2)]) Z.x Z.b dX8_without_1 rfl hl (by decide) rfl (fun ls hl => ?_)
  refine lv_iload_n Z.x Z.b dX8_without_2 rfl (lv_at hl 2 rfl) ?_
  refine lv_istore (lv' := [(4, .int a1), (3, .int 0), (0, .ref a0), (1, .int a1), (2, .int a2)]) Z.x Z.b dX8_without_3 hl (by decide) rfl (fun ls hl => ?_)
  exact t_X8_without_5 Z hr zN hf E (lv_sub hl [2, 3, 4, 1, 0] rfl)
set_option maxHeartbeats 4000000 in
set_option maxRecDepth 20000 in
theorem c_X8_without (l : Launch) (G : zG) (h : zHp) (h' : zHp) (a0 : Nat) (a1 : Int32) (a2 : Int32) (r : Int32) (hf : f_X8_without a0 a1 a2 h = some (r, h')) : zM0 l yX8_without cX8_without 5 (some .int) rm_X8_without G [.ref a0, .int a1, .int a2] h (zQi G r h') := by
  refine Met.ofW (cc := cX8_without) (maxL := 5) (ret := (some .int)) (by decide) rfl ?_
  intro p e s m args below meth c s₁ B hml hv
  obtain ⟨rfl, hW⟩ := hv
  obtain ⟨Z, E, hr⟩ := zEnter (own := RX8) B hml rfl hW
  have hl := lv_entry ([.ref a0, .int a1, .int a2]) (n := 5) (Nat.le_of_ble_eq_true rfl)
  rw [lg_entry_eq]
  generalize (lg_sl ([.ref a0, .int a1, .int a2]) ++ List.replicate (5 - (lg_sl ([.ref a0, .int a1, .int a2])).length) Slot.unset).toArray = ls at hl ⊢
  have hl : lv_has ls 5 [(0, .ref a0), (1, .int a1), (2, .int a2)] := hl
  exact t_X8_without (out := (r, h')) Z hr hf E hl
/-! FerryCrewsModel.longRest(I)I -/
theorem dX8_longRest_0 : decode cX8_longRest 0 = .ok (.iconst 0, 1) := by decide +kernel
theorem dX8_longRest_1 : decode cX8_longRest 1 = .ok (.istore_n 2, 1) := by decide +kernel
theorem dX8_longRest_2 : decode cX8_longRest 2 = .ok (.iconst 0, 1) := by decide +kernel
theorem dX8_longRest_3 : decode cX8_longRest 3 = .ok (.istore_n 3, 1) := by decide +kernel
theorem dX8_longRest_4 : decode cX8_longRest 4 = .ok (.iload_n 1, 1) := by decide +kernel
theorem dX8_longRest_5 : decode cX8_longRest 5 = .ok (.istore 4, 2) := by decide +kernel
theorem dX8_longRest_7 : decode cX8_longRest 7 = .ok (.iload 4, 2) := by decide +kernel
theorem dX8_longRest_9 : decode cX8_longRest 9 = .ok (.iload_n 1, 1) := by decide +kernel
theorem dX8_longRest_10 : decode cX8_longRest 10 = .ok (.bipush 24, 2) := by decide +kernel
theorem dX8_longRest_12 : decode cX8_longRest 12 = .ok (.iadd, 1) := by decide +kernel
theorem dX8_longRest_13 : decode cX8_longRest 13 = .ok (.if_icmp .ge 38, 3) := by decide +kernel
theorem dX8_longRest_16 : decode cX8_longRest 16 = .ok (.aload_n 0, 1) := by decide +kernel
theorem dX8_longRest_17 : decode cX8_longRest 17 = .ok (.getfield 28, 3) := by decide +kernel
theorem dX8_longRest_20 : decode cX8_longRest 20 = .ok (.iload 4, 2) := by decide +kernel
theorem dX8_longRest_22 : decode cX8_longRest 22 = .ok (.iaload, 1) := by decide +kernel
theorem dX8_longRest_23 : decode cX8_longRest 23 = .ok (.ifCond .ne 9, 3) := by decide +kernel
theorem dX8_longRest_26 : decode cX8_longRest 26 = .ok (.iload_n 3, 1) := by decide +kernel
theorem dX8_longRest_27 : decode cX8_longRest 27 = .ok (.iconst 1, 1) := by decide +kernel
theorem dX8_longRest_28 : decode cX8_longRest 28 = .ok (.iadd, 1) := by decide +kernel
theorem dX8_longRest_29 : decode cX8_longRest 29 = .ok (.goto 4, 3) := by decide +kernel
theorem dX8_longRest_32 : decode cX8_longRest 32 = .ok (.iconst 0, 1) := by decide +kernel
theorem dX8_longRest_33 : decode cX8_longRest 33 = .ok (.istore_n 3, 1) := by decide +kernel
theorem dX8_longRest_34 : decode cX8_longRest 34 = .ok (.iload_n 3, 1) := by decide +kernel
theorem dX8_longRest_35 : decode cX8_longRest 35 = .ok (.iload_n 2, 1) := by decide +kernel
theorem dX8_longRest_36 : decode cX8_longRest 36 = .ok (.if_icmp .le 7, 3) := by decide +kernel
theorem dX8_longRest_39 : decode cX8_longRest 39 = .ok (.iload_n 3, 1) := by decide +kernel
theorem dX8_longRest_40 : decode cX8_longRest 40 = .ok (.goto 4, 3) := by decide +kernel
theorem dX8_longRest_43 : decode cX8_longRest 43 = .ok (.iload_n 2, 1) := by decide +kernel
theorem dX8_longRest_44 : decode cX8_longRest 44 = .ok (.istore_n 2, 1) := by decide +kernel
theorem dX8_longRest_45 : decode cX8_longRest 45 = .ok (.iinc 4 1, 3) := by decide +kernel
theorem dX8_longRest_48 : decode cX8_longRest 48 = .ok (.goto (-41), 3) := by decide +kernel
theorem dX8_longRest_51 : decode cX8_longRest 51 = .ok (.iload_n 2, 1) := by decide +kernel
theorem dX8_longRest_52 : decode cX8_longRest 52 = .ok (.ireturn, 1) := by decide +kernel
def rm_X8_longRest : Room := { frames := 0, cells := 0, slots := 0, locals := 0 }
set_option maxHeartbeats 4000000 in
set_option maxRecDepth 20000 in
theorem t_X8_longRest_44 {p : Program} {l : Launch} {e : Env} {s : State} {m : MethodId} {args : Array Value} {below : List Frame} {meth : Method} {c : Code} {G : zG} (Z : zF p s m args c meth cX8_longRest 5 RX8 G) (hr : meth.sig.returnType = (some .int)) {out : Int32 × zHp} {r7 : Nat → Int32 → Int32 → Int32 → Int32 → zHp → Option (Int32 × zHp)} (k7 : ∀ {a0 : Nat} {a1 : Int32} {a2 : Int32} {a3 : Int32} {a4 : Int32} {h : zHp} {H : Heap} {locs : List Loc} {ls : Array Slot}, r7 a0 a1 a2 a3 a4 h = some out → zE G s h H locs → lv_has ls 5 [(0, .ref a0), (1, .int a1), (2, .int a2), (3, .int a3), (4, .int a4)] → W p l e rm_X8_longRest s m args below meth c H locs 0 0 (MQ below (zQi G out.1 out.2) args s 0 0 (zA G)) (F0 m 7 ls [])) {a0 : Nat} {a1 : Int32} {a3 : Int32} {a4 : Int32} {s0 : Int32} {h : zHp} {H : Heap} {locs : List Loc} {ls : Array Slot} (hf : f_X8_longRest_44 r7 a0 a1 a3 a4 s0 h = some out) (E : zE G s h H locs) (hl : lv_has ls 5 [(0, .ref a0), (1, .int a1), (3, .int a3), (4, .int a4)]) : W p l e rm_X8_longRest s m args below meth c H locs 0 0 (MQ below (zQi G out.1 out.2) args s 0 0 (zA G)) (F0 m 44 ls [.int s0]) := by
  unfold f_X8_longRest_44 at hf
  refine lv_istore_n (lv' := [(2, .int s0), (0, .ref a0), (1, .int a1), (3, .int a3), (4, .int a4)]) Z.x Z.b dX8_longRest_44 rfl hl (by decide) rfl (fun ls hl => ?_)
  refine lv_iinc (v := (a4 + 1)) (lv' := [(4, .int (a4 + 1)), (2, .int s0), (0, .ref a0), (1, .int a1), (3, .int a3)]) Z.x Z.b dX8_longRest_45 hl (k := 4) rfl rfl (by decide) rfl (fun ls hl => ?_)
  refine lv_goto (tgt := 7) Z.x Z.b dX8_longRest_48 (by decide) ?_
  exact k7 hf E (lv_sub hl [2, 3, 1, 4, 0] rfl)
set_option maxHeartbeats 4000000 in
set_option maxRecDepth 20000 in
theorem t_X8_longRest_33 {p : Program} {l : Launch} {e : Env} {s : State} {m : MethodId} {args : Array Value} {below : List Frame} {meth : Method} {c : Code} {G : zG} (Z : zF p s m args c meth cX8_longRest 5 RX8 G) (hr : meth.sig.returnType = (some .int)) {out : Int32 × zHp} {r7 : Nat → Int32 → Int32 → Int32 → Int32 → zHp → Option (Int32 × zHp)} (k7 : ∀ {a0 : Nat} {a1 : Int32} {a2 : Int32} {a3 : Int32} {a4 : Int32} {h : zHp} {H : Heap} {locs : List Loc} {ls : Array Slot}, r7 a0 a1 a2 a3 a4 h = some out → zE G s h H locs → lv_has ls 5 [(0, .ref a0), (1, .int a1), (2, .int a2), (3, .int a3), (4, .int a4)] → W p l e rm_X8_longRest s m args below meth c H locs 0 0 (MQ below (zQi G out.1 out.2) args s 0 0 (zA G)) (F0 m 7 ls [])) {a0 : Nat} {a1 : Int32} {a2 : Int32} {a4 : Int32} {s0 : Int32} {h : zHp} {H : Heap} {locs : List Loc} {ls : Array Slot} (hf : f_X8_longRest_33 r7 a0 a1 a2 a4 s0 h = some out) (E : zE G s h H locs) (hl : lv_has ls 5 [(0, .ref a0), (1, .int a1), (2, .int a2), (4, .int a4)]) : W p l e rm_X8_longRest s m args below meth c H locs 0 0 (MQ below (zQi G out.1 out.2) args s 0 0 (zA G)) (F0 m 33 ls [.int s0]) := by
  unfold f_X8_longRest_33 at hf
  refine lv_istore_n (lv' := [(3, .int s0), (0, .ref a0), (1, .int a1), (2, .int a2), (4, .int a4)]) Z.x Z.b dX8_longRest_33 rfl hl (by decide) rfl (fun ls hl => ?_)
  refine lv_iload_n Z.x Z.b dX8_longRest_34 rfl (lv_at hl 0 rfl) ?_
  refine lv_iload_n Z.x Z.b dX8_longRest_35 rfl (lv_at hl 3 rfl) ?_
  refine lv_icmp_le (tgt := 43) Z.x Z.b dX8_longRest_36 (by decide) (fun c => ?_) (fun c => ?_)
  · have hf := zit hf c
    refine lv_iload_n Z.x Z.b dX8_longRest_43 rfl (lv_at hl 3 rfl) ?_
    exact t_X8_longRest_44 Z hr k7 hf E (lv_sub hl [1, 2, 0, 4] rfl)
  · have hf := zif_ hf c
    refine lv_iload_n Z.x Z.b dX8_longRest_39 rfl (lv_at hl 0 rfl) ?_
    refine lv_goto (tgt := 44) Z.x Z.b dX8_longRest_40 (by decide) ?_
    exact t_X8_longRest_44 Z hr k7 hf E (lv_sub hl [1, 2, 0, 4] rfl)
set_option maxHeartbeats 4000000 in
set_option maxRecDepth 20000 in
theorem t_X8_longRest_7_body {p : Program} {l : Launch} {e : Env} {s : State} {m : MethodId} {args : Array Value} {below : List Frame} {meth : Method} {c : Code} {G : zG} (Z : zF p s m args c meth cX8_longRest 5 RX8 G) (hr : meth.sig.returnType = (some .int)) {out : Int32 × zHp} {r7 : Nat → Int32 → Int32 → Int32 → Int32 → zHp → Option (Int32 × zHp)} (k7 : ∀ {a0 : Nat} {a1 : Int32} {a2 : Int32} {a3 : Int32} {a4 : Int32} {h : zHp} {H : Heap} {locs : List Loc} {ls : Array Slot}, r7 a0 a1 a2 a3 a4 h = some out → zE G s h H locs → lv_has ls 5 [(0, .ref a0), (1, .int a1), (2, .int a2), (3, .int a3), (4, .int a4)] → W p l e rm_X8_longRest s m args below meth c H locs 0 0 (MQ below (zQi G out.1 out.2) args s 0 0 (zA G)) (F0 m 7 ls [])) {a0 : Nat} {a1 : Int32} {a2 : Int32} {a3 : Int32} {a4 : Int32} {h : zHp} {H : Heap} {locs : List Loc} {ls : Array Slot} (hf : f_X8_longRest_7_body r7 a0 a1 a2 a3 a4 h = some out) (E : zE G s h H locs) (hl : lv_has ls 5 [(0, .ref a0), (1, .int a1), (2, .int a2), (3, .int a3), (4, .int a4)]) : W p l e rm_X8_longRest s m args below meth c H locs 0 0 (MQ below (zQi G out.1 out.2) args s 0 0 (zA G)) (F0 m 7 ls []) := by
  unfold f_X8_longRest_7_body at hf
  refine lv_iload Z.x Z.b dX8_longRest_7 (lv_at hl 4 rfl) ?_
  refine lv_iload_n Z.x Z.b dX8_longRest_9 rfl (lv_at hl 1 rfl) ?_
  refine lv_bipush (v := 24) Z.x Z.b dX8_longRest_10 (by decide) ?_
  refine lv_iadd Z.x Z.b dX8_longRest_12 ?_
  refine lv_icmp_ge (tgt := 51) Z.x Z.b dX8_longRest_13 (by decide) (fun c => ?_) (fun c => ?_)
  · have hf := zit hf c
    refine lv_iload_n Z.x Z.b dX8_longRest_51 rfl (lv_at hl 2 rfl) ?_
    exact z_iret Z E hr dX8_longRest_52 hf
  · have hf := zif_ hf c
    refine lv_aload_n Z.x Z.b dX8_longRest_16 rfl (lv_at hl 0 rfl) ?_
    refine z_getR Z E q_X8_28 dX8_longRest_17 hf (fun v1 hf => ?_)
    refine lv_iload Z.x Z.b dX8_longRest_20 (lv_at hl 4 rfl) ?_
    refine z_iald Z E dX8_longRest_22 hf (fun v2 hf => ?_)
    refine lv_if_ne (tgt := 32) Z.x Z.b dX8_longRest_23 (by decide) (fun c => ?_) (fun c => ?_)
    · have hf := zif_ hf c
      refine lv_iconst (v := 0) Z.x Z.b dX8_longRest_32 (by decide) ?_
      exact t_X8_longRest_33 Z hr k7 hf E (lv_sub hl [0, 1, 2, 4] rfl)
    · have hf := zit hf c
      refine lv_iload_n Z.x Z.b dX8_longRest_26 rfl (lv_at hl 3 rfl) ?_
      refine lv_iconst (v := 1) Z.x Z.b dX8_longRest_27 (by decide) ?_
      refine lv_iadd Z.x Z.b dX8_longRest_28 ?_
      refine lv_goto (tgt := 33) Z.x Z.b dX8_longRest_29 (by decide) ?_
      exact t_X8_longRest_33 Z hr k7 hf E (lv_sub hl [0, 1, 2, 4] rfl)
theorem t_X8_longRest_7 {p : Program} {l : Launch} {e : Env} {s : State} {m : MethodId} {args : Array Value} {below : List Frame} {meth : Method} {c : Code} {G : zG} (Z : zF p s m args c meth cX8_longRest 5 RX8 G) (hr : meth.sig.returnType = (some .int)) {out : Int32 × zHp} : ∀ (n : Nat), ∀ {a0 : Nat} {a1 : Int32} {a2 : Int32} {a3 : Int32} {a4 : Int32} {h : zHp} {H : Heap} {locs : List Loc} {ls : Array Slot}, f_X8_longRest_7 n a0 a1 a2 a3 a4 h = some out → zE G s h H locs → lv_has ls 5 [(0, .ref a0), (1, .int a1), (2, .int a2), (3, .int a3), (4, .int a4)] → W p l e rm_X8_longRest s m args below meth c H locs 0 0 (MQ below (zQi G out.1 out.2) args s 0 0 (zA G)) (F0 m 7 ls [])
  | 0 => fun hf => by cases hf
  | n + 1 => fun hf E hl => t_X8_longRest_7_body Z hr (r7 := f_X8_longRest_7 n) (t_X8_longRest_7 Z hr n) hf E hl
set_option maxHeartbeats 4000000 in
set_option maxRecDepth 20000 in
theorem t_X8_longRest {p : Program} {l : Launch} {e : Env} {s : State} {m : MethodId} {args : Array Value} {below : List Frame} {meth : Method} {c : Code} {G : zG} (Z : zF p s m args c meth cX8_longRest 5 RX8 G) (hr : meth.sig.returnType = (some .int)) {out : Int32 × zHp} {a0 : Nat} {a1 : Int32} {h : zHp} {H : Heap} {locs : List Loc} {ls : Array Slot} (hf : f_X8_longRest a0 a1 h = some out) (E : zE G s h H locs) (hl : lv_has ls 5 [(0, .ref a0), (1, .int a1)]) : W p l e rm_X8_longRest s m args below meth c H locs 0 0 (MQ below (zQi G out.1 out.2) args s 0 0 (zA G)) (F0 m 0 ls []) := by
  unfold f_X8_longRest at hf
  refine lv_iconst (v := 0) Z.x Z.b dX8_longRest_0 (by decide) ?_
  refine lv_istore_n (lv' := [(2, .int 0), (0, .ref a0), (1, .int a1)]) Z.x Z.b dX8_longRest_1 rfl hl (by decide) rfl (fun ls hl => ?_)
  refine lv_iconst (v := 0) Z.x Z.b dX8_longRest_2 (by decide) ?_
  refine lv_istore_n (lv' := [(3, .int 0), (2, .int 0), (0, .ref a0), (1, .int a1)]) Z.x Z.b dX8_longRest_3 rfl hl (by decide) rfl (fun ls hl => ?_)
  refine lv_iload_n Z.x Z.b dX8_longRest_4 rfl (lv_at hl 3 rfl) ?_
  refine lv_istore (lv' := [(4, .int a1), (3, .int 0), (2, .int 0), (0, .ref a0), (1, .int a1)]) Z.x Z.b dX8_longRest_5 hl (by decide) rfl (fun ls hl => ?_)
  exact t_X8_longRest_7 Z hr zN hf E (lv_sub hl [3, 4, 2, 1, 0] rfl)
set_option maxHeartbeats 4000000 in
set_option maxRecDepth 20000 in
theorem c_X8_longRest (l : Launch) (G : zG) (h : zHp) (h' : zHp) (a0 : Nat) (a1 : Int32) (r : Int32) (hf : f_X8_longRest a0 a1 h = some (r, h')) : zM0 l yX8_longRest cX8_longRest 5 (some .int) rm_X8_longRest G [.ref a0, .int a1] h (zQi G r h') := by
  refine Met.ofW (cc := cX8_longRest) (maxL := 5) (ret := (some .int)) (by decide) rfl ?_
  intro p e s m args below meth c s₁ B hml hv
  obtain ⟨rfl, hW⟩ := hv
  obtain ⟨Z, E, hr⟩ := zEnter (own := RX8) B hml rfl hW
  have hl := lv_entry ([.ref a0, .int a1]) (n := 5) (Nat.le_of_ble_eq_true rfl)
  rw [lg_entry_eq]
  generalize (lg_sl ([.ref a0, .int a1]) ++ List.replicate (5 - (lg_sl ([.ref a0, .int a1])).length) Slot.unset).toArray = ls at hl ⊢
  have hl : lv_has ls 5 [(0, .ref a0), (1, .int a1)] := hl
  exact t_X8_longRest (out := (r, h')) Z hr hf E hl
/-! FerryCrewsModel.rowsHold(II)Z -/
theorem dX8_rowsHold_0 : decode cX8_rowsHold 0 = .ok (.aload_n 0, 1) := by decide +kernel
theorem dX8_rowsHold_1 : decode cX8_rowsHold 1 = .ok (.iconst 0, 1) := by decide +kernel
theorem dX8_rowsHold_2 : decode cX8_rowsHold 2 = .ok (.iload_n 1, 1) := by decide +kernel
theorem dX8_rowsHold_3 : decode cX8_rowsHold 3 = .ok (.invokevirtual 75, 3) := by decide +kernel
theorem dX8_rowsHold_6 : decode cX8_rowsHold 6 = .ok (.istore_n 3, 1) := by decide +kernel
theorem dX8_rowsHold_7 : decode cX8_rowsHold 7 = .ok (.iconst 0, 1) := by decide +kernel
theorem dX8_rowsHold_8 : decode cX8_rowsHold 8 = .ok (.istore 4, 2) := by decide +kernel
theorem dX8_rowsHold_10 : decode cX8_rowsHold 10 = .ok (.iload 4, 2) := by decide +kernel
theorem dX8_rowsHold_12 : decode cX8_rowsHold 12 = .ok (.sipush 1000, 3) := by decide +kernel
theorem dX8_rowsHold_15 : decode cX8_rowsHold 15 = .ok (.if_icmp .gt 52, 3) := by decide +kernel
theorem dX8_rowsHold_18 : decode cX8_rowsHold 18 = .ok (.iload_n 3, 1) := by decide +kernel
theorem dX8_rowsHold_19 : decode cX8_rowsHold 19 = .ok (.iload_n 2, 1) := by decide +kernel
theorem dX8_rowsHold_20 : decode cX8_rowsHold 20 = .ok (.if_icmp .ge 5, 3) := by decide +kernel
theorem dX8_rowsHold_23 : decode cX8_rowsHold 23 = .ok (.iconst 0, 1) := by decide +kernel
theorem dX8_rowsHold_24 : decode cX8_rowsHold 24 = .ok (.ireturn, 1) := by decide +kernel
theorem dX8_rowsHold_25 : decode cX8_rowsHold 25 = .ok (.iload_n 3, 1) := by decide +kernel
theorem dX8_rowsHold_26 : decode cX8_rowsHold 26 = .ok (.aload_n 0, 1) := by decide +kernel
theorem dX8_rowsHold_27 : decode cX8_rowsHold 27 = .ok (.getfield 28, 3) := by decide +kernel
theorem dX8_rowsHold_30 : decode cX8_rowsHold 30 = .ok (.iload 4, 2) := by decide +kernel
theorem dX8_rowsHold_32 : decode cX8_rowsHold 32 = .ok (.iload_n 1, 1) := by decide +kernel
theorem dX8_rowsHold_33 : decode cX8_rowsHold 33 = .ok (.iadd, 1) := by decide +kernel
theorem dX8_rowsHold_34 : decode cX8_rowsHold 34 = .ok (.iaload, 1) := by decide +kernel
theorem dX8_rowsHold_35 : decode cX8_rowsHold 35 = .ok (.ifCond .ne 7, 3) := by decide +kernel
theorem dX8_rowsHold_38 : decode cX8_rowsHold 38 = .ok (.iconst 1, 1) := by decide +kernel
theorem dX8_rowsHold_39 : decode cX8_rowsHold 39 = .ok (.goto 4, 3) := by decide +kernel
theorem dX8_rowsHold_42 : decode cX8_rowsHold 42 = .ok (.iconst 0, 1) := by decide +kernel
theorem dX8_rowsHold_43 : decode cX8_rowsHold 43 = .ok (.aload_n 0, 1) := by decide +kernel
theorem dX8_rowsHold_44 : decode cX8_rowsHold 44 = .ok (.getfield 28, 3) := by decide +kernel
theorem dX8_rowsHold_47 : decode cX8_rowsHold 47 = .ok (.iload 4, 2) := by decide +kernel
theorem dX8_rowsHold_49 : decode cX8_rowsHold 49 = .ok (.iaload, 1) := by decide +kernel
theorem dX8_rowsHold_50 : decode cX8_rowsHold 50 = .ok (.ifCond .ne 7, 3) := by decide +kernel
theorem dX8_rowsHold_53 : decode cX8_rowsHold 53 = .ok (.iconst 1, 1) := by decide +kernel
theorem dX8_rowsHold_54 : decode cX8_rowsHold 54 = .ok (.goto 4, 3) := by decide +kernel
theorem dX8_rowsHold_57 : decode cX8_rowsHold 57 = .ok (.iconst 0, 1) := by decide +kernel
theorem dX8_rowsHold_58 : decode cX8_rowsHold 58 = .ok (.isub, 1) := by decide +kernel
theorem dX8_rowsHold_59 : decode cX8_rowsHold 59 = .ok (.iadd, 1) := by decide +kernel
theorem dX8_rowsHold_60 : decode cX8_rowsHold 60 = .ok (.istore_n 3, 1) := by decide +kernel
theorem dX8_rowsHold_61 : decode cX8_rowsHold 61 = .ok (.iinc 4 1, 3) := by decide +kernel
theorem dX8_rowsHold_64 : decode cX8_rowsHold 64 = .ok (.goto (-54), 3) := by decide +kernel
theorem dX8_rowsHold_67 : decode cX8_rowsHold 67 = .ok (.iconst 1, 1) := by decide +kernel
theorem dX8_rowsHold_68 : decode cX8_rowsHold 68 = .ok (.ireturn, 1) := by decide +kernel
set_option maxRecDepth 20000 in
theorem wc_X8_without : Cond.code yX8_without cX8_without 5 (some .int) ∈ zB := List.mem_filter.mpr ⟨List.mem_of_getElem? (i := 1023) (by decide +kernel), by decide +kernel⟩
set_option maxRecDepth 20000 in
theorem wm_X8_75 : Cond.methodLink RX8 75 yX8_without ∈ zB := List.mem_filter.mpr ⟨List.mem_of_getElem? (i := 1020) (by decide +kernel), by decide +kernel⟩
theorem k_X8_75 : zCal RX8 75 yX8_without cX8_without 5 (some .int) 2 := ⟨wm_X8_75, wi_X8, wc_X8_without, by decide +kernel, by decide +kernel, by decide +kernel⟩
set_option maxRecDepth 20000 in
theorem wn_X8_without : Cond.instanceMethod yX8_without ∈ zB := List.mem_filter.mpr ⟨List.mem_of_getElem? (i := 1022) (by decide +kernel), by decide +kernel⟩
set_option maxRecDepth 20000 in
theorem ws_X8_without : Cond.selects RX8 yX8_without yX8_without ∈ zB := List.mem_filter.mpr ⟨List.mem_of_getElem? (i := 47) (by decide +kernel), by decide +kernel⟩
theorem v_X8_without : zVir yX8_without 8 := ⟨wn_X8_without, ws_X8_without, TX8, 12, rfl⟩
def rm_X8_rowsHold : Room := { frames := 1, cells := 0, slots := 0, locals := 24 }
set_option maxHeartbeats 4000000 in
set_option maxRecDepth 20000 in
theorem t_X8_rowsHold_58 {p : Program} {l : Launch} {e : Env} {s : State} {m : MethodId} {args : Array Value} {below : List Frame} {meth : Method} {c : Code} {G : zG} (Z : zF p s m args c meth cX8_rowsHold 5 RX8 G) (hr : meth.sig.returnType = (some .boolean)) {out : Int32 × zHp} {r10 : Nat → Int32 → Int32 → Int32 → Int32 → zHp → Option (Int32 × zHp)} (k10 : ∀ {a0 : Nat} {a1 : Int32} {a2 : Int32} {a3 : Int32} {a4 : Int32} {h : zHp} {H : Heap} {locs : List Loc} {ls : Array Slot}, r10 a0 a1 a2 a3 a4 h = some out → zE G s h H locs → lv_has ls 5 [(0, .ref a0), (1, .int a1), (2, .int a2), (3, .int a3), (4, .int a4)] → W p l e rm_X8_rowsHold s m args below meth c H locs 0 0 (MQ below (zQi G out.1 out.2) args s 0 0 (zA G)) (F0 m 10 ls [])) {a0 : Nat} {a1 : Int32} {a2 : Int32} {a4 : Int32} {s0 : Int32} {s1 : Int32} {s2 : Int32} {h : zHp} {H : Heap} {locs : List Loc} {ls : Array Slot} (hf : f_X8_rowsHold_58 r10 a0 a1 a2 a4 s0 s1 s2 h = some out) (E : zE G s h H locs) (hl : lv_has ls 5 [(0, .ref a0), (1, .int a1), (2, .int a2), (4, .int a4)]) : W p l e rm_X8_rowsHold s m args below meth c H locs 0 0 (MQ below (zQi G out.1 out.2) args s 0 0 (zA G)) (F0 m 58 ls [.int s0, .int s1, .int s2]) := by
  unfold f_X8_rowsHold_58 at hf
  refine lv_isub Z.x Z.b dX8_rowsHold_58 ?_
  refine lv_iadd Z.x Z.b dX8_rowsHold_59 ?_
  refine lv_istore_n (lv' := [(3, .int (s2 + (s1 - s0))), (0, .ref a0), (1, .int a1), (2, .int a2), (4, .int a4)]) Z.x Z.b dX8_rowsHold_60 rfl hl (by decide) rfl (fun ls hl => ?_)
  refine lv_iinc (v := (a4 + 1)) (lv' := [(4, .int (a4 + 1)), (3, .int (s2 + (s1 - s0))), (0, .ref a0), (1, .int a1), (2, .int a2)]) Z.x Z.b dX8_rowsHold_61 hl (k := 4) rfl rfl (by decide) rfl (fun ls hl => ?_)
  refine lv_goto (tgt := 10) Z.x Z.b dX8_rowsHold_64 (by decide) ?_
  exact k10 hf E (lv_sub hl [2, 3, 4, 1, 0] rfl)
set_option maxHeartbeats 4000000 in
set_option maxRecDepth 20000 in
theorem t_X8_rowsHold_43 {p : Program} {l : Launch} {e : Env} {s : State} {m : MethodId} {args : Array Value} {below : List Frame} {meth : Method} {c : Code} {G : zG} (Z : zF p s m args c meth cX8_rowsHold 5 RX8 G) (hr : meth.sig.returnType = (some .boolean)) {out : Int32 × zHp} {r10 : Nat → Int32 → Int32 → Int32 → Int32 → zHp → Option (Int32 × zHp)} (k10 : ∀ {a0 : Nat} {a1 : Int32} {a2 : Int32} {a3 : Int32} {a4 : Int32} {h : zHp} {H : Heap} {locs : List Loc} {ls : Array Slot}, r10 a0 a1 a2 a3 a4 h = some out → zE G s h H locs → lv_has ls 5 [(0, .ref a0), (1, .int a1), (2, .int a2), (3, .int a3), (4, .int a4)] → W p l e rm_X8_rowsHold s m args below meth c H locs 0 0 (MQ below (zQi G out.1 out.2) args s 0 0 (zA G)) (F0 m 10 ls [])) {a0 : Nat} {a1 : Int32} {a2 : Int32} {a4 : Int32} {s0 : Int32} {s1 : Int32} {h : zHp} {H : Heap} {locs : List Loc} {ls : Array Slot} (hf : f_X8_rowsHold_43 r10 a0 a1 a2 a4 s0 s1 h = some out) (E : zE G s h H locs) (hl : lv_has ls 5 [(0, .ref a0), (1, .int a1), (2, .int a2), (4, .int a4)]) : W p l e rm_X8_rowsHold s m args below meth c H locs 0 0 (MQ below (zQi G out.1 out.2) args s 0 0 (zA G)) (F0 m 43 ls [.int s0, .int s1]) := by
  unfold f_X8_rowsHold_43 at hf
  refine lv_aload_n Z.x Z.b dX8_rowsHold_43 rfl (lv_at hl 0 rfl) ?_
  refine z_getR Z E q_X8_28 dX8_rowsHold_44 hf (fun v1 hf => ?_)
  refine lv_iload Z.x Z.b dX8_rowsHold_47 (lv_at hl 3 rfl) ?_
  refine z_iald Z E dX8_rowsHold_49 hf (fun v2 hf => ?_)
  refine lv_if_ne (tgt := 57) Z.x Z.b dX8_rowsHold_50 (by decide) (fun c => ?_) (fun c => ?_)
  · have hf := zif_ hf c
    refine lv_iconst (v := 0) Z.x Z.b dX8_rowsHold_57 (by decide) ?_
    exact t_X8_rowsHold_58 Z hr k10 hf E (lv_sub hl [0, 1, 2, 3] rfl)
  · have hf := zit hf c
    refine lv_iconst (v := 1) Z.x Z.b dX8_rowsHold_53 (by decide) ?_
    refine lv_goto (tgt := 58) Z.x Z.b dX8_rowsHold_54 (by decide) ?_
    exact t_X8_rowsHold_58 Z hr k10 hf E (lv_sub hl [0, 1, 2, 3] rfl)
set_option maxHeartbeats 4000000 in
set_option maxRecDepth 20000 in
theorem t_X8_rowsHold_10_body {p : Program} {l : Launch} {e : Env} {s : State} {m : MethodId} {args : Array Value} {below : List Frame} {meth : Method} {c : Code} {G : zG} (Z : zF p s m args c meth cX8_rowsHold 5 RX8 G) (hr : meth.sig.returnType = (some .boolean)) {out : Int32 × zHp} {r10 : Nat → Int32 → Int32 → Int32 → Int32 → zHp → Option (Int32 × zHp)} (k10 : ∀ {a0 : Nat} {a1 : Int32} {a2 : Int32} {a3 : Int32} {a4 : Int32} {h : zHp} {H : Heap} {locs : List Loc} {ls : Array Slot}, r10 a0 a1 a2 a3 a4 h = some out → zE G s h H locs → lv_has ls 5 [(0, .ref a0), (1, .int a1), (2, .int a2), (3, .int a3), (4, .int a4)] → W p l e rm_X8_rowsHold s m args below meth c H locs 0 0 (MQ below (zQi G out.1 out.2) args s 0 0 (zA G)) (F0 m 10 ls [])) {a0 : Nat} {a1 : Int32} {a2 : Int32} {a3 : Int32} {a4 : Int32} {h : zHp} {H : Heap} {locs : List Loc} {ls : Array Slot} (hf : f_X8_rowsHold_10_body r10 a0 a1 a2 a3 a4 h = some out) (E : zE G s h H locs) (hl : lv_has ls 5 [(0, .ref a0), (1, .int a1), (2, .int a2), (3, .int a3), (4, .int a4)]) : W p l e rm_X8_rowsHold s m args below meth c H locs 0 0 (MQ below (zQi G out.1 out.2) args s 0 0 (zA G)) (F0 m 10 ls []) := by
  unfold f_X8_rowsHold_10_body at hf
  refine lv_iload Z.x Z.b dX8_rowsHold_10 (lv_at hl 4 rfl) ?_
  refine lv_sipush (v := 1000) Z.x Z.b dX8_rowsHold_12 (by decide) ?_
  refine lv_icmp_gt (tgt := 67) Z.x Z.b dX8_rowsHold_15 (by decide) (fun c => ?_) (fun c => ?_)
  · have hf := zit hf c
    refine lv_iconst (v := 1) Z.x Z.b dX8_rowsHold_67 (by decide) ?_
    exact z_zret Z E hr dX8_rowsHold_68 hf
  · have hf := zif_ hf c
    refine lv_iload_n Z.x Z.b dX8_rowsHold_18 rfl (lv_at hl 3 rfl) ?_
    refine lv_iload_n Z.x Z.b dX8_rowsHold_19 rfl (lv_at hl 2 rfl) ?_
    refine lv_icmp_ge (tgt := 25) Z.x Z.b dX8_rowsHold_20 (by decide) (fun c => ?_) (fun c => ?_)
    · have hf := zit hf c
      refine lv_iload_n Z.x Z.b dX8_rowsHold_25 rfl (lv_at hl 3 rfl) ?_
      refine lv_aload_n Z.x Z.b dX8_rowsHold_26 rfl (lv_at hl 0 rfl) ?_
      refine z_getR Z E q_X8_28 dX8_rowsHold_27 hf (fun v1 hf => ?_)
      refine lv_iload Z.x Z.b dX8_rowsHold_30 (lv_at hl 4 rfl) ?_
      refine lv_iload_n Z.x Z.b dX8_rowsHold_32 rfl (lv_at hl 1 rfl) ?_
      refine lv_iadd Z.x Z.b dX8_rowsHold_33 ?_
      refine z_iald Z E dX8_rowsHold_34 hf (fun v2 hf => ?_)
      refine lv_if_ne (tgt := 42) Z.x Z.b dX8_rowsHold_35 (by decide) (fun c => ?_) (fun c => ?_)
      · have hf := zif_ hf c
        refine lv_iconst (v := 0) Z.x Z.b dX8_rowsHold_42 (by decide) ?_
        exact t_X8_rowsHold_43 Z hr k10 hf E (lv_sub hl [0, 1, 2, 4] rfl)
      · have hf := zit hf c
        refine lv_iconst (v := 1) Z.x Z.b dX8_rowsHold_38 (by decide) ?_
        refine lv_goto (tgt := 43) Z.x Z.b dX8_rowsHold_39 (by decide) ?_
        exact t_X8_rowsHold_43 Z hr k10 hf E (lv_sub hl [0, 1, 2, 4] rfl)
    · have hf := zif_ hf c
      refine lv_iconst (v := 0) Z.x Z.b dX8_rowsHold_23 (by decide) ?_
      exact z_zret Z E hr dX8_rowsHold_24 hf
theorem t_X8_rowsHold_10 {p : Program} {l : Launch} {e : Env} {s : State} {m : MethodId} {args : Array Value} {below : List Frame} {meth : Method} {c : Code} {G : zG} (Z : zF p s m args c meth cX8_rowsHold 5 RX8 G) (hr : meth.sig.returnType = (some .boolean)) {out : Int32 × zHp} : ∀ (n : Nat), ∀ {a0 : Nat} {a1 : Int32} {a2 : Int32} {a3 : Int32} {a4 : Int32} {h : zHp} {H : Heap} {locs : List Loc} {ls : Array Slot}, f_X8_rowsHold_10 n a0 a1 a2 a3 a4 h = some out → zE G s h H locs → lv_has ls 5 [(0, .ref a0), (1, .int a1), (2, .int a2), (3, .int a3), (4, .int a4)] → W p l e rm_X8_rowsHold s m args below meth c H locs 0 0 (MQ below (zQi G out.1 out.2) args s 0 0 (zA G)) (F0 m 10 ls [])
  | 0 => fun hf => by cases hf
  | n + 1 => fun hf E hl => t_X8_rowsHold_10_body Z hr (r10 := f_X8_rowsHold_10 n) (t_X8_rowsHold_10 Z hr n) hf E hl
set_option maxHeartbeats 4000000 in
set_option maxRecDepth 20000 in
theorem t_X8_rowsHold {p : Program} {l : Launch} {e : Env} {s : State} {m : MethodId} {args : Array Value} {below : List Frame} {meth : Method} {c : Code} {G : zG} (Z : zF p s m args c meth cX8_rowsHold 5 RX8 G) (hr : meth.sig.returnType = (some .boolean)) {out : Int32 × zHp} {a0 : Nat} {a1 : Int32} {a2 : Int32} {h : zHp} {H : Heap} {locs : List Loc} {ls : Array Slot} (hf : f_X8_rowsHold a0 a1 a2 h = some out) (E : zE G s h H locs) (hl : lv_has ls 5 [(0, .ref a0), (1, .int a1), (2, .int a2)]) : W p l e rm_X8_rowsHold s m args below meth c H locs 0 0 (MQ below (zQi G out.1 out.2) args s 0 0 (zA G)) (F0 m 0 ls []) := by
  unfold f_X8_rowsHold at hf
  refine lv_aload_n Z.x Z.b dX8_rowsHold_0 rfl (lv_at hl 0 rfl) ?_
  refine lv_iconst (v := 0) Z.x Z.b dX8_rowsHold_1 (by decide) ?_
  refine lv_iload_n Z.x Z.b dX8_rowsHold_2 rfl (lv_at hl 1 rfl) ?_
  refine z_Vi (As := [.int 0, .int a1]) Z E hl.1 k_X8_75 v_X8_without hf (fun r h' e => c_X8_without l G h h' a0 0 a1 r e) rfl rfl (Nat.le_of_ble_eq_true rfl) (zRm_of rfl (Nat.zero_le _) (Nat.zero_le _)) dX8_rowsHold_3 (fun v1 h2 H locs hf E => ?_)
  refine lv_istore_n (lv' := [(3, .int v1), (0, .ref a0), (1, .int a1), (2, .int a2)]) Z.x Z.b dX8_rowsHold_6 rfl hl (by decide) rfl (fun ls hl => ?_)
  refine lv_iconst (v := 0) Z.x Z.b dX8_rowsHold_7 (by decide) ?_
  refine lv_istore (lv' := [(4, .int 0), (3, .int v1), (0, .ref a0), (1, .int a1), (2, .int a2)]) Z.x Z.b dX8_rowsHold_8 hl (by decide) rfl (fun ls hl => ?_)
  exact t_X8_rowsHold_10 Z hr zN hf E (lv_sub hl [2, 3, 4, 1, 0] rfl)
set_option maxHeartbeats 4000000 in
set_option maxRecDepth 20000 in
theorem c_X8_rowsHold (l : Launch) (G : zG) (h : zHp) (h' : zHp) (a0 : Nat) (a1 : Int32) (a2 : Int32) (r : Int32) (hf : f_X8_rowsHold a0 a1 a2 h = some (r, h')) : zM0 l yX8_rowsHold cX8_rowsHold 5 (some .boolean) rm_X8_rowsHold G [.ref a0, .int a1, .int a2] h (zQi G r h') := by
  refine Met.ofW (cc := cX8_rowsHold) (maxL := 5) (ret := (some .boolean)) (by decide) rfl ?_
  intro p e s m args below meth c s₁ B hml hv
  obtain ⟨rfl, hW⟩ := hv
  obtain ⟨Z, E, hr⟩ := zEnter (own := RX8) B hml rfl hW
  have hl := lv_entry ([.ref a0, .int a1, .int a2]) (n := 5) (Nat.le_of_ble_eq_true rfl)
  rw [lg_entry_eq]
  generalize (lg_sl ([.ref a0, .int a1, .int a2]) ++ List.replicate (5 - (lg_sl ([.ref a0, .int a1, .int a2])).length) Slot.unset).toArray = ls at hl ⊢
  have hl : lv_has ls 5 [(0, .ref a0), (1, .int a1), (2, .int a2)] := hl
  exact t_X8_rowsHold (out := (r, h')) Z hr hf E hl
/-! FerryCrewsModel.longRestsHold()Z -/
theorem dX8_longRestsHold_0 : decode cX8_longRestsHold 0 = .ok (.aload_n 0, 1) := by decide +kernel
theorem dX8_longRestsHold_1 : decode cX8_longRestsHold 1 = .ok (.getfield 7, 3) := by decide +kernel
theorem dX8_longRestsHold_4 : decode cX8_longRestsHold 4 = .ok (.iconst 5, 1) := by decide +kernel
theorem dX8_longRestsHold_5 : decode cX8_longRestsHold 5 = .ok (.iaload, 1) := by decide +kernel
theorem dX8_longRestsHold_6 : decode cX8_longRestsHold 6 = .ok (.istore_n 1, 1) := by decide +kernel
theorem dX8_longRestsHold_7 : decode cX8_longRestsHold 7 = .ok (.iconst 0, 1) := by decide +kernel
theorem dX8_longRestsHold_8 : decode cX8_longRestsHold 8 = .ok (.istore_n 2, 1) := by decide +kernel
theorem dX8_longRestsHold_9 : decode cX8_longRestsHold 9 = .ok (.iconst (-1), 1) := by decide +kernel
theorem dX8_longRestsHold_10 : decode cX8_longRestsHold 10 = .ok (.istore_n 3, 1) := by decide +kernel
theorem dX8_longRestsHold_11 : decode cX8_longRestsHold 11 = .ok (.iconst 0, 1) := by decide +kernel
theorem dX8_longRestsHold_12 : decode cX8_longRestsHold 12 = .ok (.istore 4, 2) := by decide +kernel
theorem dX8_longRestsHold_14 : decode cX8_longRestsHold 14 = .ok (.iload 4, 2) := by decide +kernel
theorem dX8_longRestsHold_16 : decode cX8_longRestsHold 16 = .ok (.sipush 1200, 3) := by decide +kernel
theorem dX8_longRestsHold_19 : decode cX8_longRestsHold 19 = .ok (.if_icmp .ge 59, 3) := by decide +kernel
theorem dX8_longRestsHold_22 : decode cX8_longRestsHold 22 = .ok (.aload_n 0, 1) := by decide +kernel
theorem dX8_longRestsHold_23 : decode cX8_longRestsHold 23 = .ok (.getfield 28, 3) := by decide +kernel
theorem dX8_longRestsHold_26 : decode cX8_longRestsHold 26 = .ok (.iload 4, 2) := by decide +kernel
theorem dX8_longRestsHold_28 : decode cX8_longRestsHold 28 = .ok (.iaload, 1) := by decide +kernel
theorem dX8_longRestsHold_29 : decode cX8_longRestsHold 29 = .ok (.ifCond .ne 9, 3) := by decide +kernel
theorem dX8_longRestsHold_32 : decode cX8_longRestsHold 32 = .ok (.iload_n 2, 1) := by decide +kernel
theorem dX8_longRestsHold_33 : decode cX8_longRestsHold 33 = .ok (.iconst 1, 1) := by decide +kernel
theorem dX8_longRestsHold_34 : decode cX8_longRestsHold 34 = .ok (.iadd, 1) := by decide +kernel
theorem dX8_longRestsHold_35 : decode cX8_longRestsHold 35 = .ok (.goto 4, 3) := by decide +kernel
theorem dX8_longRestsHold_38 : decode cX8_longRestsHold 38 = .ok (.iconst 0, 1) := by decide +kernel
theorem dX8_longRestsHold_39 : decode cX8_longRestsHold 39 = .ok (.istore_n 2, 1) := by decide +kernel
theorem dX8_longRestsHold_40 : decode cX8_longRestsHold 40 = .ok (.iload_n 2, 1) := by decide +kernel
theorem dX8_longRestsHold_41 : decode cX8_longRestsHold 41 = .ok (.iload_n 1, 1) := by decide +kernel
theorem dX8_longRestsHold_42 : decode cX8_longRestsHold 42 = .ok (.if_icmp .lt 8, 3) := by decide +kernel
theorem dX8_longRestsHold_45 : decode cX8_longRestsHold 45 = .ok (.iload 4, 2) := by decide +kernel
theorem dX8_longRestsHold_47 : decode cX8_longRestsHold 47 = .ok (.goto 4, 3) := by decide +kernel
theorem dX8_longRestsHold_50 : decode cX8_longRestsHold 50 = .ok (.iload_n 3, 1) := by decide +kernel
theorem dX8_longRestsHold_51 : decode cX8_longRestsHold 51 = .ok (.istore_n 3, 1) := by decide +kernel
theorem dX8_longRestsHold_52 : decode cX8_longRestsHold 52 = .ok (.iload 4, 2) := by decide +kernel
theorem dX8_longRestsHold_54 : decode cX8_longRestsHold 54 = .ok (.bipush 23, 2) := by decide +kernel
theorem dX8_longRestsHold_56 : decode cX8_longRestsHold 56 = .ok (.if_icmp .lt 16, 3) := by decide +kernel
theorem dX8_longRestsHold_59 : decode cX8_longRestsHold 59 = .ok (.iload_n 3, 1) := by decide +kernel
theorem dX8_longRestsHold_60 : decode cX8_longRestsHold 60 = .ok (.iload 4, 2) := by decide +kernel
theorem dX8_longRestsHold_62 : decode cX8_longRestsHold 62 = .ok (.bipush 24, 2) := by decide +kernel
theorem dX8_longRestsHold_64 : decode cX8_longRestsHold 64 = .ok (.isub, 1) := by decide +kernel
theorem dX8_longRestsHold_65 : decode cX8_longRestsHold 65 = .ok (.iload_n 1, 1) := by decide +kernel
theorem dX8_longRestsHold_66 : decode cX8_longRestsHold 66 = .ok (.iadd, 1) := by decide +kernel
theorem dX8_longRestsHold_67 : decode cX8_longRestsHold 67 = .ok (.if_icmp .ge 5, 3) := by decide +kernel
theorem dX8_longRestsHold_70 : decode cX8_longRestsHold 70 = .ok (.iconst 0, 1) := by decide +kernel
theorem dX8_longRestsHold_71 : decode cX8_longRestsHold 71 = .ok (.ireturn, 1) := by decide +kernel
theorem dX8_longRestsHold_72 : decode cX8_longRestsHold 72 = .ok (.iinc 4 1, 3) := by decide +kernel
theorem dX8_longRestsHold_75 : decode cX8_longRestsHold 75 = .ok (.goto (-61), 3) := by decide +kernel
theorem dX8_longRestsHold_78 : decode cX8_longRestsHold 78 = .ok (.iconst 1, 1) := by decide +kernel
theorem dX8_longRestsHold_79 : decode cX8_longRestsHold 79 = .ok (.ireturn, 1) := by decide +kernel
def rm_X8_longRestsHold : Room := { frames := 0, cells := 0, slots := 0, locals := 0 }
set_option maxHeartbeats 4000000 in
set_option maxRecDepth 20000 in
theorem t_X8_longRestsHold_72 {p : Program} {l : Launch} {e : Env} {s : State} {m : MethodId} {args : Array Value} {below : List Frame} {meth : Method} {c : Code} {G : zG} (Z : zF p s m args c meth cX8_longRestsHold 5 RX8 G) (hr : meth.sig.returnType = (some .boolean)) {out : Int32 × zHp} {r14 : Nat → Int32 → Int32 → Int32 → Int32 → zHp → Option (Int32 × zHp)} (k14 : ∀ {a0 : Nat} {a1 : Int32} {a2 : Int32} {a3 : Int32} {a4 : Int32} {h : zHp} {H : Heap} {locs : List Loc} {ls : Array Slot}, r14 a0 a1 a2 a3 a4 h = some out → zE G s h H locs → lv_has ls 5 [(0, .ref a0), (1, .int a1), (2, .int a2), (3, .int a3), (4, .int a4)] → W p l e rm_X8_longRestsHold s m args below meth c H locs 0 0 (MQ below (zQi G out.1 out.2) args s 0 0 (zA G)) (F0 m 14 ls [])) {a0 : Nat} {a1 : Int32} {a2 : Int32} {a3 : Int32} {a4 : Int32} {h : zHp} {H : Heap} {locs : List Loc} {ls : Array Slot} (hf : f_X8_longRestsHold_72 r14 a0 a1 a2 a3 a4 h = some out) (E : zE G s h H locs) (hl : lv_has ls 5 [(0, .ref a0), (1, .int a1), (2, .int a2), (3, .int a3), (4, .int a4)]) : W p l e rm_X8_longRestsHold s m args below meth c H locs 0 0 (MQ below (zQi G out.1 out.2) args s 0 0 (zA G)) (F0 m 72 ls []) := by
  unfold f_X8_longRestsHold_72 at hf
  refine lv_iinc (v := (a4 + 1)) (lv' := [(4, .int (a4 + 1)), (0, .ref a0), (1, .int a1), (2, .int a2), (3, .int a3)]) Z.x Z.b dX8_longRestsHold_72 hl (k := 4) rfl rfl (by decide) rfl (fun ls hl => ?_)
  refine lv_goto (tgt := 14) Z.x Z.b dX8_longRestsHold_75 (by decide) ?_
  exact k14 hf E (lv_sub hl [1, 2, 3, 4, 0] rfl)
set_option maxHeartbeats 4000000 in
set_option maxRecDepth 20000 in
theorem t_X8_longRestsHold_51 {p : Program} {l : Launch} {e : Env} {s : State} {m : MethodId} {args : Array Value} {below : List Frame} {meth : Method} {c : Code} {G : zG} (Z : zF p s m args c meth cX8_longRestsHold 5 RX8 G) (hr : meth.sig.returnType = (some .boolean)) {out : Int32 × zHp} {r14 : Nat → Int32 → Int32 → Int32 → Int32 → zHp → Option (Int32 × zHp)} (k14 : ∀ {a0 : Nat} {a1 : Int32} {a2 : Int32} {a3 : Int32} {a4 : Int32} {h : zHp} {H : Heap} {locs : List Loc} {ls : Array Slot}, r14 a0 a1 a2 a3 a4 h = some out → zE G s h H locs → lv_has ls 5 [(0, .ref a0), (1, .int a1), (2, .int a2), (3, .int a3), (4, .int a4)] → W p l e rm_X8_longRestsHold s m args below meth c H locs 0 0 (MQ below (zQi G out.1 out.2) args s 0 0 (zA G)) (F0 m 14 ls [])) {a0 : Nat} {a1 : Int32} {a2 : Int32} {a4 : Int32} {s0 : Int32} {h : zHp} {H : Heap} {locs : List Loc} {ls : Array Slot} (hf : f_X8_longRestsHold_51 r14 a0 a1 a2 a4 s0 h = some out) (E : zE G s h H locs) (hl : lv_has ls 5 [(0, .ref a0), (1, .int a1), (2, .int a2), (4, .int a4)]) : W p l e rm_X8_longRestsHold s m args below meth c H locs 0 0 (MQ below (zQi G out.1 out.2) args s 0 0 (zA G)) (F0 m 51 ls [.int s0]) := by
  unfold f_X8_longRestsHold_51 at hf
  refine lv_istore_n (lv' := [(3, .int s0), (0, .ref a0), (1, .int a1), (2, .int a2), (4, .int a4)]) Z.x Z.b dX8_longRestsHold_51 rfl hl (by decide) rfl (fun ls hl => ?_)
  refine lv_iload Z.x Z.b dX8_longRestsHold_52 (lv_at hl 4 rfl) ?_
  refine lv_bipush (v := 23) Z.x Z.b dX8_longRestsHold_54 (by decide) ?_
  refine lv_icmp_lt (tgt := 72) Z.x Z.b dX8_longRestsHold_56 (by decide) (fun c => ?_) (fun c => ?_)
  · have hf := zit hf c
    exact t_X8_longRestsHold_72 Z hr k14 hf E (lv_sub hl [1, 2, 3, 0, 4] rfl)
  · have hf := zif_ hf c
    refine lv_iload_n Z.x Z.b dX8_longRestsHold_59 rfl (lv_at hl 0 rfl) ?_
    refine lv_iload Z.x Z.b dX8_longRestsHold_60 (lv_at hl 4 rfl) ?_
    refine lv_bipush (v := 24) Z.x Z.b dX8_longRestsHold_62 (by decide) ?_
    refine lv_isub Z.x Z.b dX8_longRestsHold_64 ?_
    refine lv_iload_n Z.x Z.b dX8_longRestsHold_65 rfl (lv_at hl 2 rfl) ?_
    refine lv_iadd Z.x Z.b dX8_longRestsHold_66 ?_
    refine lv_icmp_ge (tgt := 72) Z.x Z.b dX8_longRestsHold_67 (by decide) (fun c => ?_) (fun c => ?_)
    · have hf := zit hf c
      exact t_X8_longRestsHold_72 Z hr k14 hf E (lv_sub hl [1, 2, 3, 0, 4] rfl)
    · have hf := zif_ hf c
      refine lv_iconst (v := 0) Z.x Z.b dX8_longRestsHold_70 (by decide) ?_
      exact z_zret Z E hr dX8_longRestsHold_71 hf
set_option maxHeartbeats 4000000 in
set_option maxRecDepth 20000 in
theorem t_X8_longRestsHold_39 {p : Program} {l : Launch} {e : Env} {s : State} {m : MethodId} {args : Array Value} {below : List Frame} {meth : Method} {c : Code} {G : zG} (Z : zF p s m args c meth cX8_longRestsHold 5 RX8 G) (hr : meth.sig.returnType = (some .boolean)) {out : Int32 × zHp} {r14 : Nat → Int32 → Int32 → Int32 → Int32 → zHp → Option (Int32 × zHp)} (k14 : ∀ {a0 : Nat} {a1 : Int32} {a2 : Int32} {a3 : Int32} {a4 : Int32} {h : zHp} {H : Heap} {locs : List Loc} {ls : Array Slot}, r14 a0 a1 a2 a3 a4 h = some out → zE G s h H locs → lv_has ls 5 [(0, .ref a0), (1, .int a1), (2, .int a2), (3, .int a3), (4, .int a4)] → W p l e rm_X8_longRestsHold s m args below meth c H locs 0 0 (MQ below (zQi G out.1 out.2) args s 0 0 (zA G)) (F0 m 14 ls [])) {a0 : Nat} {a1 : Int32} {a3 : Int32} {a4 : Int32} {s0 : Int32} {h : zHp} {H : Heap} {locs : List Loc} {ls : Array Slot} (hf : f_X8_longRestsHold_39 r14 a0 a1 a3 a4 s0 h = some out) (E : zE G s h H locs) (hl : lv_has ls 5 [(0, .ref a0), (1, .int a1), (3, .int a3), (4, .int a4)]) : W p l e rm_X8_longRestsHold s m args below meth c H locs 0 0 (MQ below (zQi G out.1 out.2) args s 0 0 (zA G)) (F0 m 39 ls [.int s0]) := by
  unfold f_X8_longRestsHold_39 at hf
  refine lv_istore_n (lv' := [(2, .int s0), (0, .ref a0), (1, .int a1), (3, .int a3), (4, .int a4)]) Z.x Z.b dX8_longRestsHold_39 rfl hl (by decide) rfl (fun ls hl => ?_)
  refine lv_iload_n Z.x Z.b dX8_longRestsHold_40 rfl (lv_at hl 0 rfl) ?_
  refine lv_iload_n Z.x Z.b dX8_longRestsHold_41 rfl (lv_at hl 2 rfl) ?_
  refine lv_icmp_lt (tgt := 50) Z.x Z.b dX8_longRestsHold_42 (by decide) (fun c => ?_) (fun c => ?_)
  · have hf := zit hf c
    refine lv_iload_n Z.x Z.b dX8_longRestsHold_50 rfl (lv_at hl 3 rfl) ?_
    exact t_X8_longRestsHold_51 Z hr k14 hf E (lv_sub hl [1, 2, 0, 4] rfl)
  · have hf := zif_ hf c
    refine lv_iload Z.x Z.b dX8_longRestsHold_45 (lv_at hl 4 rfl) ?_
    refine lv_goto (tgt := 51) Z.x Z.b dX8_longRestsHold_47 (by decide) ?_
    exact t_X8_longRestsHold_51 Z hr k14 hf E (lv_sub hl [1, 2, 0, 4] rfl)
set_option maxHeartbeats 4000000 in
set_option maxRecDepth 20000 in
theorem t_X8_longRestsHold_14_body {p : Program} {l : Launch} {e : Env} {s : State} {m : MethodId} {args : Array Value} {below : List Frame} {meth : Method} {c : Code} {G : zG} (Z : zF p s m args c meth cX8_longRestsHold 5 RX8 G) (hr : meth.sig.returnType = (some .boolean)) {out : Int32 × zHp} {r14 : Nat → Int32 → Int32 → Int32 → Int32 → zHp → Option (Int32 × zHp)} (k14 : ∀ {a0 : Nat} {a1 : Int32} {a2 : Int32} {a3 : Int32} {a4 : Int32} {h : zHp} {H : Heap} {locs : List Loc} {ls : Array Slot}, r14 a0 a1 a2 a3 a4 h = some out → zE G s h H locs → lv_has ls 5 [(0, .ref a0), (1, .int a1), (2, .int a2), (3, .int a3), (4, .int a4)] → W p l e rm_X8_longRestsHold s m args below meth c H locs 0 0 (MQ below (zQi G out.1 out.2) args s 0 0 (zA G)) (F0 m 14 ls [])) {a0 : Nat} {a1 : Int32} {a2 : Int32} {a3 : Int32} {a4 : Int32} {h : zHp} {H : Heap} {locs : List Loc} {ls : Array Slot} (hf : f_X8_longRestsHold_14_body r14 a0 a1 a2 a3 a4 h = some out) (E : zE G s h H locs) (hl : lv_has ls 5 [(0, .ref a0), (1, .int a1), (2, .int a2), (3, .int a3), (4, .int a4)]) : W p l e rm_X8_longRestsHold s m args below meth c H locs 0 0 (MQ below (zQi G out.1 out.2) args s 0 0 (zA G)) (F0 m 14 ls []) := by
  unfold f_X8_longRestsHold_14_body at hf
  refine lv_iload Z.x Z.b dX8_longRestsHold_14 (lv_at hl 4 rfl) ?_
  refine lv_sipush (v := 1200) Z.x Z.b dX8_longRestsHold_16 (by decide) ?_
  refine lv_icmp_ge (tgt := 78) Z.x Z.b dX8_longRestsHold_19 (by decide) (fun c => ?_) (fun c => ?_)
  · have hf := zit hf c
    refine lv_iconst (v := 1) Z.x Z.b dX8_longRestsHold_78 (by decide) ?_
    exact z_zret Z E hr dX8_longRestsHold_79 hf
  · have hf := zif_ hf c
    refine lv_aload_n Z.x Z.b dX8_longRestsHold_22 rfl (lv_at hl 0 rfl) ?_
    refine z_getR Z E q_X8_28 dX8_longRestsHold_23 hf (fun v1 hf => ?_)
    refine lv_iload Z.x Z.b dX8_longRestsHold_26 (lv_at hl 4 rfl) ?_
    refine z_iald Z E dX8_longRestsHold_28 hf (fun v2 hf => ?_)
    refine lv_if_ne (tgt := 38) Z.x Z.b dX8_longRestsHold_29 (by decide) (fun c => ?_) (fun c => ?_)
    · have hf := zif_ hf c
      refine lv_iconst (v := 0) Z.x Z.b dX8_longRestsHold_38 (by decide) ?_
      exact t_X8_longRestsHold_39 Z hr k14 hf E (lv_sub hl [0, 1, 3, 4] rfl)
    · have hf := zit hf c
      refine lv_iload_n Z.x Z.b dX8_longRestsHold_32 rfl (lv_at hl 2 rfl) ?_
      refine lv_iconst (v := 1) Z.x Z.b dX8_longRestsHold_33 (by decide) ?_
      refine lv_iadd Z.x Z.b dX8_longRestsHold_34 ?_
      refine lv_goto (tgt := 39) Z.x Z.b dX8_longRestsHold_35 (by decide) ?_
      exact t_X8_longRestsHold_39 Z hr k14 hf E (lv_sub hl [0, 1, 3, 4] rfl)
theorem t_X8_longRestsHold_14 {p : Program} {l : Launch} {e : Env} {s : State} {m : MethodId} {args : Array Value} {below : List Frame} {meth : Method} {c : Code} {G : zG} (Z : zF p s m args c meth cX8_longRestsHold 5 RX8 G) (hr : meth.sig.returnType = (some .boolean)) {out : Int32 × zHp} : ∀ (n : Nat), ∀ {a0 : Nat} {a1 : Int32} {a2 : Int32} {a3 : Int32} {a4 : Int32} {h : zHp} {H : Heap} {locs : List Loc} {ls : Array Slot}, f_X8_longRestsHold_14 n a0 a1 a2 a3 a4 h = some out → zE G s h H locs → lv_has ls 5 [(0, .ref a0), (1, .int a1), (2, .int a2), (3, .int a3), (4, .int a4)] → W p l e rm_X8_longRestsHold s m args below meth c H locs 0 0 (MQ below (zQi G out.1 out.2) args s 0 0 (zA G)) (F0 m 14 ls [])
  | 0 => fun hf => by cases hf
  | n + 1 => fun hf E hl => t_X8_longRestsHold_14_body Z hr (r14 := f_X8_longRestsHold_14 n) (t_X8_longRestsHold_14 Z hr n) hf E hl
set_option maxHeartbeats 4000000 in
set_option maxRecDepth 20000 in
theorem t_X8_longRestsHold {p : Program} {l : Launch} {e : Env} {s : State} {m : MethodId} {args : Array Value} {below : List Frame} {meth : Method} {c : Code} {G : zG} (Z : zF p s m args c meth cX8_longRestsHold 5 RX8 G) (hr : meth.sig.returnType = (some .boolean)) {out : Int32 × zHp} {a0 : Nat} {h : zHp} {H : Heap} {locs : List Loc} {ls : Array Slot} (hf : f_X8_longRestsHold a0 h = some out) (E : zE G s h H locs) (hl : lv_has ls 5 [(0, .ref a0)]) : W p l e rm_X8_longRestsHold s m args below meth c H locs 0 0 (MQ below (zQi G out.1 out.2) args s 0 0 (zA G)) (F0 m 0 ls []) := by
  unfold f_X8_longRestsHold at hf
  refine lv_aload_n Z.x Z.b dX8_longRestsHold_0 rfl (lv_at hl 0 rfl) ?_
  refine z_getR Z E q_X8_7 dX8_longRestsHold_1 hf (fun v1 hf => ?_)
  refine lv_iconst (v := 5) Z.x Z.b dX8_longRestsHold_4 (by decide) ?_
  refine z_iald Z E dX8_longRestsHold_5 hf (fun v2 hf => ?_)
  refine lv_istore_n (lv' := [(1, .int v2), (0, .ref a0)]) Z.x Z.b dX8_longRestsHold_6 rfl hl (by decide) rfl (fun ls hl => ?_)
  refine lv_iconst (v := 0) Z.x Z.b dX8_longRestsHold_7 (by decide) ?_
  refine lv_istore_n (lv' := [(2, .int 0), (1, .int v2), (0, .ref a0)]) Z.x Z.b dX8_longRestsHold_8 rfl hl (by decide) rfl (fun ls hl => ?_)
  refine lv_iconst (v := (-1)) Z.x Z.b dX8_longRestsHold_9 (by decide) ?_
  refine lv_istore_n (lv' := [(3, .int (-1)), (2, .int 0), (1, .int v2), (0, .ref a0)]) Z.x Z.b dX8_longRestsHold_10 rfl hl (by decide) rfl (fun ls hl => ?_)
  refine lv_iconst (v := 0) Z.x Z.b dX8_longRestsHold_11 (by decide) ?_
  refine lv_istore (lv' := [(4, .int 0), (3, .int (-1)), (2, .int 0), (1, .int v2), (0, .ref a0)]) Z.x Z.b dX8_longRestsHold_12 hl (by decide) rfl (fun ls hl => ?_)
  exact t_X8_longRestsHold_14 Z hr zN hf E (lv_sub hl [4, 3, 2, 1, 0] rfl)
set_option maxHeartbeats 4000000 in
set_option maxRecDepth 20000 in
theorem c_X8_longRestsHold (l : Launch) (G : zG) (h : zHp) (h' : zHp) (a0 : Nat) (r : Int32) (hf : f_X8_longRestsHold a0 h = some (r, h')) : zM0 l yX8_longRestsHold cX8_longRestsHold 5 (some .boolean) rm_X8_longRestsHold G [.ref a0] h (zQi G r h') := by
  refine Met.ofW (cc := cX8_longRestsHold) (maxL := 5) (ret := (some .boolean)) (by decide) rfl ?_
  intro p e s m args below meth c s₁ B hml hv
  obtain ⟨rfl, hW⟩ := hv
  obtain ⟨Z, E, hr⟩ := zEnter (own := RX8) B hml rfl hW
  have hl := lv_entry ([.ref a0]) (n := 5) (Nat.le_of_ble_eq_true rfl)
  rw [lg_entry_eq]
  generalize (lg_sl ([.ref a0]) ++ List.replicate (5 - (lg_sl ([.ref a0])).length) Slot.unset).toArray = ls at hl ⊢
  have hl : lv_has ls 5 [(0, .ref a0)] := hl
  exact t_X8_longRestsHold (out := (r, h')) Z hr hf E hl
/-! FerryCrewsModel.restsHold(I)Z -/
theorem dX8_restsHold_0 : decode cX8_restsHold 0 = .ok (.aload_n 0, 1) := by decide +kernel
theorem dX8_restsHold_1 : decode cX8_restsHold 1 = .ok (.iload_n 1, 1) := by decide +kernel
theorem dX8_restsHold_2 : decode cX8_restsHold 2 = .ok (.invokevirtual 78, 3) := by decide +kernel
theorem dX8_restsHold_5 : decode cX8_restsHold 5 = .ok (.iconst 0, 1) := by decide +kernel
theorem dX8_restsHold_6 : decode cX8_restsHold 6 = .ok (.istore_n 2, 1) := by decide +kernel
theorem dX8_restsHold_7 : decode cX8_restsHold 7 = .ok (.iload_n 2, 1) := by decide +kernel
theorem dX8_restsHold_8 : decode cX8_restsHold 8 = .ok (.sipush 1200, 3) := by decide +kernel
theorem dX8_restsHold_11 : decode cX8_restsHold 11 = .ok (.if_icmp .ge 21, 3) := by decide +kernel
theorem dX8_restsHold_14 : decode cX8_restsHold 14 = .ok (.aload_n 0, 1) := by decide +kernel
theorem dX8_restsHold_15 : decode cX8_restsHold 15 = .ok (.getfield 28, 3) := by decide +kernel
theorem dX8_restsHold_18 : decode cX8_restsHold 18 = .ok (.iload_n 2, 1) := by decide +kernel
theorem dX8_restsHold_19 : decode cX8_restsHold 19 = .ok (.iaload, 1) := by decide +kernel
theorem dX8_restsHold_20 : decode cX8_restsHold 20 = .ok (.iconst 1, 1) := by decide +kernel
theorem dX8_restsHold_21 : decode cX8_restsHold 21 = .ok (.if_icmp .le 5, 3) := by decide +kernel
theorem dX8_restsHold_24 : decode cX8_restsHold 24 = .ok (.iconst 0, 1) := by decide +kernel
theorem dX8_restsHold_25 : decode cX8_restsHold 25 = .ok (.ireturn, 1) := by decide +kernel
theorem dX8_restsHold_26 : decode cX8_restsHold 26 = .ok (.iinc 2 1, 3) := by decide +kernel
theorem dX8_restsHold_29 : decode cX8_restsHold 29 = .ok (.goto (-22), 3) := by decide +kernel
theorem dX8_restsHold_32 : decode cX8_restsHold 32 = .ok (.aload_n 0, 1) := by decide +kernel
theorem dX8_restsHold_33 : decode cX8_restsHold 33 = .ok (.bipush 24, 2) := by decide +kernel
theorem dX8_restsHold_35 : decode cX8_restsHold 35 = .ok (.aload_n 0, 1) := by decide +kernel
theorem dX8_restsHold_36 : decode cX8_restsHold 36 = .ok (.getfield 7, 3) := by decide +kernel
theorem dX8_restsHold_39 : decode cX8_restsHold 39 = .ok (.iconst 4, 1) := by decide +kernel
theorem dX8_restsHold_40 : decode cX8_restsHold 40 = .ok (.iaload, 1) := by decide +kernel
theorem dX8_restsHold_41 : decode cX8_restsHold 41 = .ok (.invokevirtual 82, 3) := by decide +kernel
theorem dX8_restsHold_44 : decode cX8_restsHold 44 = .ok (.ifCond .eq 40, 3) := by decide +kernel
theorem dX8_restsHold_47 : decode cX8_restsHold 47 = .ok (.aload_n 0, 1) := by decide +kernel
theorem dX8_restsHold_48 : decode cX8_restsHold 48 = .ok (.getfield 7, 3) := by decide +kernel
theorem dX8_restsHold_51 : decode cX8_restsHold 51 = .ok (.iconst 5, 1) := by decide +kernel
theorem dX8_restsHold_52 : decode cX8_restsHold 52 = .ok (.iaload, 1) := by decide +kernel
theorem dX8_restsHold_53 : decode cX8_restsHold 53 = .ok (.ifCond .eq 10, 3) := by decide +kernel
theorem dX8_restsHold_56 : decode cX8_restsHold 56 = .ok (.aload_n 0, 1) := by decide +kernel
theorem dX8_restsHold_57 : decode cX8_restsHold 57 = .ok (.invokevirtual 85, 3) := by decide +kernel
theorem dX8_restsHold_60 : decode cX8_restsHold 60 = .ok (.ifCond .eq 24, 3) := by decide +kernel
theorem dX8_restsHold_63 : decode cX8_restsHold 63 = .ok (.aload_n 0, 1) := by decide +kernel
theorem dX8_restsHold_64 : decode cX8_restsHold 64 = .ok (.sipush 168, 3) := by decide +kernel
theorem dX8_restsHold_67 : decode cX8_restsHold 67 = .ok (.aload_n 0, 1) := by decide +kernel
theorem dX8_restsHold_68 : decode cX8_restsHold 68 = .ok (.getfield 7, 3) := by decide +kernel
theorem dX8_restsHold_71 : decode cX8_restsHold 71 = .ok (.bipush 6, 2) := by decide +kernel
theorem dX8_restsHold_73 : decode cX8_restsHold 73 = .ok (.iaload, 1) := by decide +kernel
theorem dX8_restsHold_74 : decode cX8_restsHold 74 = .ok (.invokevirtual 82, 3) := by decide +kernel
theorem dX8_restsHold_77 : decode cX8_restsHold 77 = .ok (.ifCond .eq 7, 3) := by decide +kernel
theorem dX8_restsHold_80 : decode cX8_restsHold 80 = .ok (.iconst 1, 1) := by decide +kernel
theorem dX8_restsHold_81 : decode cX8_restsHold 81 = .ok (.goto 4, 3) := by decide +kernel
theorem dX8_restsHold_84 : decode cX8_restsHold 84 = .ok (.iconst 0, 1) := by decide +kernel
theorem dX8_restsHold_85 : decode cX8_restsHold 85 = .ok (.ireturn, 1) := by decide +kernel
set_option maxRecDepth 20000 in
theorem wc_X8_countDuties : Cond.code yX8_countDuties cX8_countDuties 5 none ∈ zB := List.mem_filter.mpr ⟨List.mem_of_getElem? (i := 1007) (by decide +kernel), by decide +kernel⟩
set_option maxRecDepth 20000 in
theorem wm_X8_78 : Cond.methodLink RX8 78 yX8_countDuties ∈ zB := List.mem_filter.mpr ⟨List.mem_of_getElem? (i := 1004) (by decide +kernel), by decide +kernel⟩
theorem k_X8_78 : zCal RX8 78 yX8_countDuties cX8_countDuties 5 none 1 := ⟨wm_X8_78, wi_X8, wc_X8_countDuties, by decide +kernel, by decide +kernel, by decide +kernel⟩
set_option maxRecDepth 20000 in
theorem wn_X8_countDuties : Cond.instanceMethod yX8_countDuties ∈ zB := List.mem_filter.mpr ⟨List.mem_of_getElem? (i := 1006) (by decide +kernel), by decide +kernel⟩
set_option maxRecDepth 20000 in
theorem ws_X8_countDuties : Cond.selects RX8 yX8_countDuties yX8_countDuties ∈ zB := List.mem_filter.mpr ⟨List.mem_of_getElem? (i := 43) (by decide +kernel), by decide +kernel⟩
theorem v_X8_countDuties : zVir yX8_countDuties 8 := ⟨wn_X8_countDuties, ws_X8_countDuties, TX8, 12, rfl⟩
set_option maxRecDepth 20000 in
theorem wc_X8_rowsHold : Cond.code yX8_rowsHold cX8_rowsHold 5 (some .boolean) ∈ zB := List.mem_filter.mpr ⟨List.mem_of_getElem? (i := 1019) (by decide +kernel), by decide +kernel⟩
set_option maxRecDepth 20000 in
theorem wm_X8_82 : Cond.methodLink RX8 82 yX8_rowsHold ∈ zB := List.mem_filter.mpr ⟨List.mem_of_getElem? (i := 1016) (by decide +kernel), by decide +kernel⟩
theorem k_X8_82 : zCal RX8 82 yX8_rowsHold cX8_rowsHold 5 (some .boolean) 2 := ⟨wm_X8_82, wi_X8, wc_X8_rowsHold, by decide +kernel, by decide +kernel, by decide +kernel⟩
set_option maxRecDepth 20000 in
theorem wn_X8_rowsHold : Cond.instanceMethod yX8_rowsHold ∈ zB := List.mem_filter.mpr ⟨List.mem_of_getElem? (i := 1018) (by decide +kernel), by decide +kernel⟩
set_option maxRecDepth 20000 in
theorem ws_X8_rowsHold : Cond.selects RX8 yX8_rowsHold yX8_rowsHold ∈ zB := List.mem_filter.mpr ⟨List.mem_of_getElem? (i := 46) (by decide +kernel), by decide +kernel⟩
theorem v_X8_rowsHold : zVir yX8_rowsHold 8 := ⟨wn_X8_rowsHold, ws_X8_rowsHold, TX8, 12, rfl⟩
set_option maxRecDepth 20000 in
theorem wc_X8_longRestsHold : Cond.code yX8_longRestsHold cX8_longRestsHold 5 (some .boolean) ∈ zB := List.mem_filter.mpr ⟨List.mem_of_getElem? (i := 1027) (by decide +kernel), by decide +kernel⟩
set_option maxRecDepth 20000 in
theorem wm_X8_85 : Cond.methodLink RX8 85 yX8_longRestsHold ∈ zB := List.mem_filter.mpr ⟨List.mem_of_getElem? (i := 1024) (by decide +kernel), by decide +kernel⟩
theorem k_X8_85 : zCal RX8 85 yX8_longRestsHold cX8_longRestsHold 5 (some .boolean) 0 := ⟨wm_X8_85, wi_X8, wc_X8_longRestsHold, by decide +kernel, by decide +kernel, by decide +kernel⟩
set_option maxRecDepth 20000 in
theorem wn_X8_longRestsHold : Cond.instanceMethod yX8_longRestsHold ∈ zB := List.mem_filter.mpr ⟨List.mem_of_getElem? (i := 1026) (by decide +kernel), by decide +kernel⟩
set_option maxRecDepth 20000 in
theorem ws_X8_longRestsHold : Cond.selects RX8 yX8_longRestsHold yX8_longRestsHold ∈ zB := List.mem_filter.mpr ⟨List.mem_of_getElem? (i := 48) (by decide +kernel), by decide +kernel⟩
theorem v_X8_longRestsHold : zVir yX8_longRestsHold 8 := ⟨wn_X8_longRestsHold, ws_X8_longRestsHold, TX8, 12, rfl⟩
def rm_X8_restsHold : Room := { frames := 5, cells := 0, slots := 0, locals := 114 }
set_option maxHeartbeats 4000000 in
set_option maxRecDepth 20000 in
theorem t_X8_restsHold_84 {p : Program} {l : Launch} {e : Env} {s : State} {m : MethodId} {args : Array Value} {below : List Frame} {meth : Method} {c : Code} {G : zG} (Z : zF p s m args c meth cX8_restsHold 3 RX8 G) (hr : meth.sig.returnType = (some .boolean)) {out : Int32 × zHp} {h : zHp} {H : Heap} {locs : List Loc} {ls : Array Slot} (hf : f_X8_restsHold_84 h = some out) (E : zE G s h H locs) (hl : lv_has ls 3 []) : W p l e rm_X8_restsHold s m args below meth c H locs 0 0 (MQ below (zQi G out.1 out.2) args s 0 0 (zA G)) (F0 m 84 ls []) := by
  unfold f_X8_restsHold_84 at hf
  refine lv_iconst (v := 0) Z.x Z.b dX8_restsHold_84 (by decide) ?_
  exact z_zret Z E hr dX8_restsHold_85 hf
set_option maxHeartbeats 4000000 in
set_option maxRecDepth 20000 in
theorem t_X8_restsHold_63 {p : Program} {l : Launch} {e : Env} {s : State} {m : MethodId} {args : Array Value} {below : List Frame} {meth : Method} {c : Code} {G : zG} (Z : zF p s m args c meth cX8_restsHold 3 RX8 G) (hr : meth.sig.returnType = (some .boolean)) {out : Int32 × zHp} {a0 : Nat} {h : zHp} {H : Heap} {locs : List Loc} {ls : Array Slot} (hf : f_X8_restsHold_63 a0 h = some out) (E : zE G s h H locs) (hl : lv_has ls 3 [(0, .ref a0)]) : W p l e rm_X8_restsHold s m args below meth c H locs 0 0 (MQ below (zQi G out.1 out.2) args s 0 0 (zA G)) (F0 m 63 ls []) := by
  unfold f_X8_restsHold_63 at hf
  refine lv_aload_n Z.x Z.b dX8_restsHold_63 rfl (lv_at hl 0 rfl) ?_
  refine lv_sipush (v := 168) Z.x Z.b dX8_restsHold_64 (by decide) ?_
  refine lv_aload_n Z.x Z.b dX8_restsHold_67 rfl (lv_at hl 0 rfl) ?_
  refine z_getR Z E q_X8_7 dX8_restsHold_68 hf (fun v1 hf => ?_)
  refine lv_bipush (v := 6) Z.x Z.b dX8_restsHold_71 (by decide) ?_
  refine z_iald Z E dX8_restsHold_73 hf (fun v2 hf => ?_)
  refine z_Vi (As := [.int 168, .int v2]) Z E hl.1 k_X8_82 v_X8_rowsHold hf (fun r h' e => c_X8_rowsHold l G h h' a0 168 v2 r e) rfl rfl (Nat.le_of_ble_eq_true rfl) (zRm_of rfl (Nat.zero_le _) (Nat.zero_le _)) dX8_restsHold_74 (fun v3 h4 H locs hf E => ?_)
  refine lv_if_eq (tgt := 84) Z.x Z.b dX8_restsHold_77 (by decide) (fun c => ?_) (fun c => ?_)
  · have hf := zit hf c
    exact t_X8_restsHold_84 Z hr hf E (lv_sub hl [] rfl)
  · have hf := zif_ hf c
    refine lv_iconst (v := 1) Z.x Z.b dX8_restsHold_80 (by decide) ?_
    refine lv_goto (tgt := 85) Z.x Z.b dX8_restsHold_81 (by decide) ?_
    exact z_zret Z E hr dX8_restsHold_85 hf
set_option maxHeartbeats 4000000 in
set_option maxRecDepth 20000 in
theorem t_X8_restsHold_7_body {p : Program} {l : Launch} {e : Env} {s : State} {m : MethodId} {args : Array Value} {below : List Frame} {meth : Method} {c : Code} {G : zG} (Z : zF p s m args c meth cX8_restsHold 3 RX8 G) (hr : meth.sig.returnType = (some .boolean)) {out : Int32 × zHp} {r7 : Nat → Int32 → zHp → Option (Int32 × zHp)} (k7 : ∀ {a0 : Nat} {a2 : Int32} {h : zHp} {H : Heap} {locs : List Loc} {ls : Array Slot}, r7 a0 a2 h = some out → zE G s h H locs → lv_has ls 3 [(0, .ref a0), (2, .int a2)] → W p l e rm_X8_restsHold s m args below meth c H locs 0 0 (MQ below (zQi G out.1 out.2) args s 0 0 (zA G)) (F0 m 7 ls [])) {a0 : Nat} {a2 : Int32} {h : zHp} {H : Heap} {locs : List Loc} {ls : Array Slot} (hf : f_X8_restsHold_7_body r7 a0 a2 h = some out) (E : zE G s h H locs) (hl : lv_has ls 3 [(0, .ref a0), (2, .int a2)]) : W p l e rm_X8_restsHold s m args below meth c H locs 0 0 (MQ below (zQi G out.1 out.2) args s 0 0 (zA G)) (F0 m 7 ls []) := by
  unfold f_X8_restsHold_7_body at hf
  refine lv_iload_n Z.x Z.b dX8_restsHold_7 rfl (lv_at hl 1 rfl) ?_
  refine lv_sipush (v := 1200) Z.x Z.b dX8_restsHold_8 (by decide) ?_
  refine lv_icmp_ge (tgt := 32) Z.x Z.b dX8_restsHold_11 (by decide) (fun c => ?_) (fun c => ?_)
  · have hf := zit hf c
    refine lv_aload_n Z.x Z.b dX8_restsHold_32 rfl (lv_at hl 0 rfl) ?_
    refine lv_bipush (v := 24) Z.x Z.b dX8_restsHold_33 (by decide) ?_
    refine lv_aload_n Z.x Z.b dX8_restsHold_35 rfl (lv_at hl 0 rfl) ?_
    refine z_getR Z E q_X8_7 dX8_restsHold_36 hf (fun v1 hf => ?_)
    refine lv_iconst (v := 4) Z.x Z.b dX8_restsHold_39 (by decide) ?_
    refine z_iald Z E dX8_restsHold_40 hf (fun v2 hf => ?_)
    refine z_Vi (As := [.int 24, .int v2]) Z E hl.1 k_X8_82 v_X8_rowsHold hf (fun r h' e => c_X8_rowsHold l G h h' a0 24 v2 r e) rfl rfl (Nat.le_of_ble_eq_true rfl) (zRm_of rfl (Nat.zero_le _) (Nat.zero_le _)) dX8_restsHold_41 (fun v3 h4 H locs hf E => ?_)
    refine lv_if_eq (tgt := 84) Z.x Z.b dX8_restsHold_44 (by decide) (fun c => ?_) (fun c => ?_)
    · have hf := zit hf c
      exact t_X8_restsHold_84 Z hr hf E (lv_sub hl [] rfl)
    · have hf := zif_ hf c
      refine lv_aload_n Z.x Z.b dX8_restsHold_47 rfl (lv_at hl 0 rfl) ?_
      refine z_getR Z E q_X8_7 dX8_restsHold_48 hf (fun v5 hf => ?_)
      refine lv_iconst (v := 5) Z.x Z.b dX8_restsHold_51 (by decide) ?_
      refine z_iald Z E dX8_restsHold_52 hf (fun v6 hf => ?_)
      refine lv_if_eq (tgt := 63) Z.x Z.b dX8_restsHold_53 (by decide) (fun c => ?_) (fun c => ?_)
      · have hf := zit hf c
        exact t_X8_restsHold_63 Z hr hf E (lv_sub hl [0] rfl)
      · have hf := zif_ hf c
        refine lv_aload_n Z.x Z.b dX8_restsHold_56 rfl (lv_at hl 0 rfl) ?_
        refine z_Vi (As := []) Z E hl.1 k_X8_85 v_X8_longRestsHold hf (fun r h' e => c_X8_longRestsHold l G h4 h' a0 r e) rfl rfl (Nat.le_of_ble_eq_true rfl) (zRm_of rfl (Nat.zero_le _) (Nat.zero_le _)) dX8_restsHold_57 (fun v7 h8 H locs hf E => ?_)
        refine lv_if_eq (tgt := 84) Z.x Z.b dX8_restsHold_60 (by decide) (fun c => ?_) (fun c => ?_)
        · have hf := zit hf c
          exact t_X8_restsHold_84 Z hr hf E (lv_sub hl [] rfl)
        · have hf := zif_ hf c
          exact t_X8_restsHold_63 Z hr hf E (lv_sub hl [0] rfl)
  · have hf := zif_ hf c
    refine lv_aload_n Z.x Z.b dX8_restsHold_14 rfl (lv_at hl 0 rfl) ?_
    refine z_getR Z E q_X8_28 dX8_restsHold_15 hf (fun v9 hf => ?_)
    refine lv_iload_n Z.x Z.b dX8_restsHold_18 rfl (lv_at hl 1 rfl) ?_
    refine z_iald Z E dX8_restsHold_19 hf (fun v10 hf => ?_)
    refine lv_iconst (v := 1) Z.x Z.b dX8_restsHold_20 (by decide) ?_
    refine lv_icmp_le (tgt := 26) Z.x Z.b dX8_restsHold_21 (by decide) (fun c => ?_) (fun c => ?_)
    · have hf := zit hf c
      refine lv_iinc (v := (a2 + 1)) (lv' := [(2, .int (a2 + 1)), (0, .ref a0)]) Z.x Z.b dX8_restsHold_26 hl (k := 1) rfl rfl (by decide) rfl (fun ls hl => ?_)
      refine lv_goto (tgt := 7) Z.x Z.b dX8_restsHold_29 (by decide) ?_
      exact k7 hf E (lv_sub hl [1, 0] rfl)
    · have hf := zif_ hf c
      refine lv_iconst (v := 0) Z.x Z.b dX8_restsHold_24 (by decide) ?_
      exact z_zret Z E hr dX8_restsHold_25 hf
theorem t_X8_restsHold_7 {p : Program} {l : Launch} {e : Env} {s : State} {m : MethodId} {args : Array Value} {below : List Frame} {meth : Method} {c : Code} {G : zG} (Z : zF p s m args c meth cX8_restsHold 3 RX8 G) (hr : meth.sig.returnType = (some .boolean)) {out : Int32 × zHp} : ∀ (n : Nat), ∀ {a0 : Nat} {a2 : Int32} {h : zHp} {H : Heap} {locs : List Loc} {ls : Array Slot}, f_X8_restsHold_7 n a0 a2 h = some out → zE G s h H locs → lv_has ls 3 [(0, .ref a0), (2, .int a2)] → W p l e rm_X8_restsHold s m args below meth c H locs 0 0 (MQ below (zQi G out.1 out.2) args s 0 0 (zA G)) (F0 m 7 ls [])
  | 0 => fun hf => by cases hf
  | n + 1 => fun hf E hl => t_X8_restsHold_7_body Z hr (r7 := f_X8_restsHold_7 n) (t_X8_restsHold_7 Z hr n) hf E hl
set_option maxHeartbeats 4000000 in
set_option maxRecDepth 20000 in
theorem t_X8_restsHold {p : Program} {l : Launch} {e : Env} {s : State} {m : MethodId} {args : Array Value} {below : List Frame} {meth : Method} {c : Code} {G : zG} (Z : zF p s m args c meth cX8_restsHold 3 RX8 G) (hr : meth.sig.returnType = (some .boolean)) {out : Int32 × zHp} {a0 : Nat} {a1 : Int32} {h : zHp} {H : Heap} {locs : List Loc} {ls : Array Slot} (hf : f_X8_restsHold a0 a1 h = some out) (E : zE G s h H locs) (hl : lv_has ls 3 [(0, .ref a0), (1, .int a1)]) : W p l e rm_X8_restsHold s m args below meth c H locs 0 0 (MQ below (zQi G out.1 out.2) args s 0 0 (zA G)) (F0 m 0 ls []) := by
  unfold f_X8_restsHold at hf
  refine lv_aload_n Z.x Z.b dX8_restsHold_0 rfl (lv_at hl 0 rfl) ?_
  refine lv_iload_n Z.x Z.b dX8_restsHold_1 rfl (lv_at hl 1 rfl) ?_
  refine z_Vv (As := [.int a1]) Z E hl.1 k_X8_78 v_X8_countDuties hf (fun h' e => c_X8_countDuties l G h h' a0 a1 e) rfl rfl (Nat.le_of_ble_eq_true rfl) (zRm_of rfl (Nat.zero_le _) (Nat.zero_le _)) dX8_restsHold_2 (fun h1 H locs hf E => ?_)
  refine lv_iconst (v := 0) Z.x Z.b dX8_restsHold_5 (by decide) ?_
  refine lv_istore_n (lv' := [(2, .int 0), (0, .ref a0), (1, .int a1)]) Z.x Z.b dX8_restsHold_6 rfl hl (by decide) rfl (fun ls hl => ?_)
  exact t_X8_restsHold_7 Z hr zN hf E (lv_sub hl [1, 0] rfl)
set_option maxHeartbeats 4000000 in
set_option maxRecDepth 20000 in
theorem c_X8_restsHold (l : Launch) (G : zG) (h : zHp) (h' : zHp) (a0 : Nat) (a1 : Int32) (r : Int32) (hf : f_X8_restsHold a0 a1 h = some (r, h')) : zM0 l yX8_restsHold cX8_restsHold 3 (some .boolean) rm_X8_restsHold G [.ref a0, .int a1] h (zQi G r h') := by
  refine Met.ofW (cc := cX8_restsHold) (maxL := 3) (ret := (some .boolean)) (by decide) rfl ?_
  intro p e s m args below meth c s₁ B hml hv
  obtain ⟨rfl, hW⟩ := hv
  obtain ⟨Z, E, hr⟩ := zEnter (own := RX8) B hml rfl hW
  have hl := lv_entry ([.ref a0, .int a1]) (n := 3) (Nat.le_of_ble_eq_true rfl)
  rw [lg_entry_eq]
  generalize (lg_sl ([.ref a0, .int a1]) ++ List.replicate (3 - (lg_sl ([.ref a0, .int a1])).length) Slot.unset).toArray = ls at hl ⊢
  have hl : lv_has ls 3 [(0, .ref a0), (1, .int a1)] := hl
  exact t_X8_restsHold (out := (r, h')) Z hr hf E hl
/-! FerryCrewsModel.dutyHours(I)I -/
theorem dX8_dutyHours_0 : decode cX8_dutyHours 0 = .ok (.aload_n 0, 1) := by decide +kernel
theorem dX8_dutyHours_1 : decode cX8_dutyHours 1 = .ok (.iload_n 1, 1) := by decide +kernel
theorem dX8_dutyHours_2 : decode cX8_dutyHours 2 = .ok (.invokevirtual 78, 3) := by decide +kernel
theorem dX8_dutyHours_5 : decode cX8_dutyHours 5 = .ok (.iconst 0, 1) := by decide +kernel
theorem dX8_dutyHours_6 : decode cX8_dutyHours 6 = .ok (.istore_n 2, 1) := by decide +kernel
theorem dX8_dutyHours_7 : decode cX8_dutyHours 7 = .ok (.iconst 0, 1) := by decide +kernel
theorem dX8_dutyHours_8 : decode cX8_dutyHours 8 = .ok (.istore_n 3, 1) := by decide +kernel
theorem dX8_dutyHours_9 : decode cX8_dutyHours 9 = .ok (.iload_n 3, 1) := by decide +kernel
theorem dX8_dutyHours_10 : decode cX8_dutyHours 10 = .ok (.sipush 1200, 3) := by decide +kernel
theorem dX8_dutyHours_13 : decode cX8_dutyHours 13 = .ok (.if_icmp .ge 18, 3) := by decide +kernel
theorem dX8_dutyHours_16 : decode cX8_dutyHours 16 = .ok (.iload_n 2, 1) := by decide +kernel
theorem dX8_dutyHours_17 : decode cX8_dutyHours 17 = .ok (.aload_n 0, 1) := by decide +kernel
theorem dX8_dutyHours_18 : decode cX8_dutyHours 18 = .ok (.getfield 28, 3) := by decide +kernel
theorem dX8_dutyHours_21 : decode cX8_dutyHours 21 = .ok (.iload_n 3, 1) := by decide +kernel
theorem dX8_dutyHours_22 : decode cX8_dutyHours 22 = .ok (.iaload, 1) := by decide +kernel
theorem dX8_dutyHours_23 : decode cX8_dutyHours 23 = .ok (.iadd, 1) := by decide +kernel
theorem dX8_dutyHours_24 : decode cX8_dutyHours 24 = .ok (.istore_n 2, 1) := by decide +kernel
theorem dX8_dutyHours_25 : decode cX8_dutyHours 25 = .ok (.iinc 3 1, 3) := by decide +kernel
theorem dX8_dutyHours_28 : decode cX8_dutyHours 28 = .ok (.goto (-19), 3) := by decide +kernel
theorem dX8_dutyHours_31 : decode cX8_dutyHours 31 = .ok (.iload_n 2, 1) := by decide +kernel
theorem dX8_dutyHours_32 : decode cX8_dutyHours 32 = .ok (.ireturn, 1) := by decide +kernel
def rm_X8_dutyHours : Room := { frames := 5, cells := 0, slots := 0, locals := 114 }
set_option maxHeartbeats 4000000 in
set_option maxRecDepth 20000 in
theorem t_X8_dutyHours_9_body {p : Program} {l : Launch} {e : Env} {s : State} {m : MethodId} {args : Array Value} {below : List Frame} {meth : Method} {c : Code} {G : zG} (Z : zF p s m args c meth cX8_dutyHours 4 RX8 G) (hr : meth.sig.returnType = (some .int)) {out : Int32 × zHp} {r9 : Nat → Int32 → Int32 → zHp → Option (Int32 × zHp)} (k9 : ∀ {a0 : Nat} {a2 : Int32} {a3 : Int32} {h : zHp} {H : Heap} {locs : List Loc} {ls : Array Slot}, r9 a0 a2 a3 h = some out → zE G s h H locs → lv_has ls 4 [(0, .ref a0), (2, .int a2), (3, .int a3)] → W p l e rm_X8_dutyHours s m args below meth c H locs 0 0 (MQ below (zQi G out.1 out.2) args s 0 0 (zA G)) (F0 m 9 ls [])) {a0 : Nat} {a2 : Int32} {a3 : Int32} {h : zHp} {H : Heap} {locs : List Loc} {ls : Array Slot} (hf : f_X8_dutyHours_9_body r9 a0 a2 a3 h = some out) (E : zE G s h H locs) (hl : lv_has ls 4 [(0, .ref a0), (2, .int a2), (3, .int a3)]) : W p l e rm_X8_dutyHours s m args below meth c H locs 0 0 (MQ below (zQi G out.1 out.2) args s 0 0 (zA G)) (F0 m 9 ls []) := by
  unfold f_X8_dutyHours_9_body at hf
  refine lv_iload_n Z.x Z.b dX8_dutyHours_9 rfl (lv_at hl 2 rfl) ?_
  refine lv_sipush (v := 1200) Z.x Z.b dX8_dutyHours_10 (by decide) ?_
  refine lv_icmp_ge (tgt := 31) Z.x Z.b dX8_dutyHours_13 (by decide) (fun c => ?_) (fun c => ?_)
  · have hf := zit hf c
    refine lv_iload_n Z.x Z.b dX8_dutyHours_31 rfl (lv_at hl 1 rfl) ?_
    exact z_iret Z E hr dX8_dutyHours_32 hf
  · have hf := zif_ hf c
    refine lv_iload_n Z.x Z.b dX8_dutyHours_16 rfl (lv_at hl 1 rfl) ?_
    refine lv_aload_n Z.x Z.b dX8_dutyHours_17 rfl (lv_at hl 0 rfl) ?_
    refine z_getR Z E q_X8_28 dX8_dutyHours_18 hf (fun v1 hf => ?_)
    refine lv_iload_n Z.x Z.b dX8_dutyHours_21 rfl (lv_at hl 2 rfl) ?_
    refine z_iald Z E dX8_dutyHours_22 hf (fun v2 hf => ?_)
    refine lv_iadd Z.x Z.b dX8_dutyHours_23 ?_
    refine lv_istore_n (lv' := [(2, .int (a2 + v2)), (0, .ref a0), (3, .int a3)]) Z.x Z.b dX8_dutyHours_24 rfl hl (by decide) rfl (fun ls hl => ?_)
    refine lv_iinc (v := (a3 + 1)) (lv' := [(3, .int (a3 + 1)), (2, .int (a2 + v2)), (0, .ref a0)]) Z.x Z.b dX8_dutyHours_25 hl (k := 2) rfl rfl (by decide) rfl (fun ls hl => ?_)
    refine lv_goto (tgt := 9) Z.x Z.b dX8_dutyHours_28 (by decide) ?_
    exact k9 hf E (lv_sub hl [2, 1, 0] rfl)
theorem t_X8_dutyHours_9 {p : Program} {l : Launch} {e : Env} {s : State} {m : MethodId} {args : Array Value} {below : List Frame} {meth : Method} {c : Code} {G : zG} (Z : zF p s m args c meth cX8_dutyHours 4 RX8 G) (hr : meth.sig.returnType = (some .int)) {out : Int32 × zHp} : ∀ (n : Nat), ∀ {a0 : Nat} {a2 : Int32} {a3 : Int32} {h : zHp} {H : Heap} {locs : List Loc} {ls : Array Slot}, f_X8_dutyHours_9 n a0 a2 a3 h = some out → zE G s h H locs → lv_has ls 4 [(0, .ref a0), (2, .int a2), (3, .int a3)] → W p l e rm_X8_dutyHours s m args below meth c H locs 0 0 (MQ below (zQi G out.1 out.2) args s 0 0 (zA G)) (F0 m 9 ls [])
  | 0 => fun hf => by cases hf
  | n + 1 => fun hf E hl => t_X8_dutyHours_9_body Z hr (r9 := f_X8_dutyHours_9 n) (t_X8_dutyHours_9 Z hr n) hf E hl
set_option maxHeartbeats 4000000 in
set_option maxRecDepth 20000 in
theorem t_X8_dutyHours {p : Program} {l : Launch} {e : Env} {s : State} {m : MethodId} {args : Array Value} {below : List Frame} {meth : Method} {c : Code} {G : zG} (Z : zF p s m args c meth cX8_dutyHours 4 RX8 G) (hr : meth.sig.returnType = (some .int)) {out : Int32 × zHp} {a0 : Nat} {a1 : Int32} {h : zHp} {H : Heap} {locs : List Loc} {ls : Array Slot} (hf : f_X8_dutyHours a0 a1 h = some out) (E : zE G s h H locs) (hl : lv_has ls 4 [(0, .ref a0), (1, .int a1)]) : W p l e rm_X8_dutyHours s m args below meth c H locs 0 0 (MQ below (zQi G out.1 out.2) args s 0 0 (zA G)) (F0 m 0 ls []) := by
  unfold f_X8_dutyHours at hf
  refine lv_aload_n Z.x Z.b dX8_dutyHours_0 rfl (lv_at hl 0 rfl) ?_
  refine lv_iload_n Z.x Z.b dX8_dutyHours_1 rfl (lv_at hl 1 rfl) ?_
  refine z_Vv (As := [.int a1]) Z E hl.1 k_X8_78 v_X8_countDuties hf (fun h' e => c_X8_countDuties l G h h' a0 a1 e) rfl rfl (Nat.le_of_ble_eq_true rfl) (zRm_of rfl (Nat.zero_le _) (Nat.zero_le _)) dX8_dutyHours_2 (fun h1 H locs hf E => ?_)
  refine lv_iconst (v := 0) Z.x Z.b dX8_dutyHours_5 (by decide) ?_
  refine lv_istore_n (lv' := [(2, .int 0), (0, .ref a0), (1, .int a1)]) Z.x Z.b dX8_dutyHours_6 rfl hl (by decide) rfl (fun ls hl => ?_)
  refine lv_iconst (v := 0) Z.x Z.b dX8_dutyHours_7 (by decide) ?_
  refine lv_istore_n (lv' := [(3, .int 0), (2, .int 0), (0, .ref a0), (1, .int a1)]) Z.x Z.b dX8_dutyHours_8 rfl hl (by decide) rfl (fun ls hl => ?_)
  exact t_X8_dutyHours_9 Z hr zN hf E (lv_sub hl [2, 1, 0] rfl)
set_option maxHeartbeats 4000000 in
set_option maxRecDepth 20000 in
theorem c_X8_dutyHours (l : Launch) (G : zG) (h : zHp) (h' : zHp) (a0 : Nat) (a1 : Int32) (r : Int32) (hf : f_X8_dutyHours a0 a1 h = some (r, h')) : zM0 l yX8_dutyHours cX8_dutyHours 4 (some .int) rm_X8_dutyHours G [.ref a0, .int a1] h (zQi G r h') := by
  refine Met.ofW (cc := cX8_dutyHours) (maxL := 4) (ret := (some .int)) (by decide) rfl ?_
  intro p e s m args below meth c s₁ B hml hv
  obtain ⟨rfl, hW⟩ := hv
  obtain ⟨Z, E, hr⟩ := zEnter (own := RX8) B hml rfl hW
  have hl := lv_entry ([.ref a0, .int a1]) (n := 4) (Nat.le_of_ble_eq_true rfl)
  rw [lg_entry_eq]
  generalize (lg_sl ([.ref a0, .int a1]) ++ List.replicate (4 - (lg_sl ([.ref a0, .int a1])).length) Slot.unset).toArray = ls at hl ⊢
  have hl : lv_has ls 4 [(0, .ref a0), (1, .int a1)] := hl
  exact t_X8_dutyHours (out := (r, h')) Z hr hf E hl
/-! FerryCrewsModel.reason(III)I -/
theorem dX8_reason_0 : decode cX8_reason 0 = .ok (.aload_n 0, 1) := by decide +kernel
theorem dX8_reason_1 : decode cX8_reason 1 = .ok (.iload_n 2, 1) := by decide +kernel
theorem dX8_reason_2 : decode cX8_reason 2 = .ok (.iconst 0, 1) := by decide +kernel
theorem dX8_reason_3 : decode cX8_reason 3 = .ok (.invokevirtual 62, 3) := by decide +kernel
theorem dX8_reason_6 : decode cX8_reason 6 = .ok (.ifCond .eq 18, 3) := by decide +kernel
theorem dX8_reason_9 : decode cX8_reason 9 = .ok (.aload_n 0, 1) := by decide +kernel
theorem dX8_reason_10 : decode cX8_reason 10 = .ok (.iload_n 2, 1) := by decide +kernel
theorem dX8_reason_11 : decode cX8_reason 11 = .ok (.iconst 2, 1) := by decide +kernel
theorem dX8_reason_12 : decode cX8_reason 12 = .ok (.invokevirtual 38, 3) := by decide +kernel
theorem dX8_reason_15 : decode cX8_reason 15 = .ok (.aload_n 0, 1) := by decide +kernel
theorem dX8_reason_16 : decode cX8_reason 16 = .ok (.getfield 7, 3) := by decide +kernel
theorem dX8_reason_19 : decode cX8_reason 19 = .ok (.iconst 0, 1) := by decide +kernel
theorem dX8_reason_20 : decode cX8_reason 20 = .ok (.iaload, 1) := by decide +kernel
theorem dX8_reason_21 : decode cX8_reason 21 = .ok (.if_icmp .ge 5, 3) := by decide +kernel
theorem dX8_reason_24 : decode cX8_reason 24 = .ok (.iconst 1, 1) := by decide +kernel
theorem dX8_reason_25 : decode cX8_reason 25 = .ok (.ireturn, 1) := by decide +kernel
theorem dX8_reason_26 : decode cX8_reason 26 = .ok (.aload_n 0, 1) := by decide +kernel
theorem dX8_reason_27 : decode cX8_reason 27 = .ok (.iload_n 2, 1) := by decide +kernel
theorem dX8_reason_28 : decode cX8_reason 28 = .ok (.iload_n 3, 1) := by decide +kernel
theorem dX8_reason_29 : decode cX8_reason 29 = .ok (.invokevirtual 49, 3) := by decide +kernel
theorem dX8_reason_32 : decode cX8_reason 32 = .ok (.aload_n 0, 1) := by decide +kernel
theorem dX8_reason_33 : decode cX8_reason 33 = .ok (.iload_n 2, 1) := by decide +kernel
theorem dX8_reason_34 : decode cX8_reason 34 = .ok (.iconst 4, 1) := by decide +kernel
theorem dX8_reason_35 : decode cX8_reason 35 = .ok (.iload_n 3, 1) := by decide +kernel
theorem dX8_reason_36 : decode cX8_reason 36 = .ok (.iadd, 1) := by decide +kernel
theorem dX8_reason_37 : decode cX8_reason 37 = .ok (.invokevirtual 38, 3) := by decide +kernel
theorem dX8_reason_40 : decode cX8_reason 40 = .ok (.if_icmp .lt 5, 3) := by decide +kernel
theorem dX8_reason_43 : decode cX8_reason 43 = .ok (.iconst 2, 1) := by decide +kernel
theorem dX8_reason_44 : decode cX8_reason 44 = .ok (.ireturn, 1) := by decide +kernel
theorem dX8_reason_45 : decode cX8_reason 45 = .ok (.aload_n 0, 1) := by decide +kernel
theorem dX8_reason_46 : decode cX8_reason 46 = .ok (.iload_n 1, 1) := by decide +kernel
theorem dX8_reason_47 : decode cX8_reason 47 = .ok (.iload_n 3, 1) := by decide +kernel
theorem dX8_reason_48 : decode cX8_reason 48 = .ok (.invokevirtual 59, 3) := by decide +kernel
theorem dX8_reason_51 : decode cX8_reason 51 = .ok (.aload_n 0, 1) := by decide +kernel
theorem dX8_reason_52 : decode cX8_reason 52 = .ok (.iload_n 2, 1) := by decide +kernel
theorem dX8_reason_53 : decode cX8_reason 53 = .ok (.invokevirtual 69, 3) := by decide +kernel
theorem dX8_reason_56 : decode cX8_reason 56 = .ok (.if_icmp .ge 5, 3) := by decide +kernel
theorem dX8_reason_59 : decode cX8_reason 59 = .ok (.iconst 3, 1) := by decide +kernel
theorem dX8_reason_60 : decode cX8_reason 60 = .ok (.ireturn, 1) := by decide +kernel
theorem dX8_reason_61 : decode cX8_reason 61 = .ok (.aload_n 0, 1) := by decide +kernel
theorem dX8_reason_62 : decode cX8_reason 62 = .ok (.iload_n 1, 1) := by decide +kernel
theorem dX8_reason_63 : decode cX8_reason 63 = .ok (.invokevirtual 89, 3) := by decide +kernel
theorem dX8_reason_66 : decode cX8_reason 66 = .ok (.ifCond .eq 20, 3) := by decide +kernel
theorem dX8_reason_69 : decode cX8_reason 69 = .ok (.aload_n 0, 1) := by decide +kernel
theorem dX8_reason_70 : decode cX8_reason 70 = .ok (.iload_n 2, 1) := by decide +kernel
theorem dX8_reason_71 : decode cX8_reason 71 = .ok (.iconst 2, 1) := by decide +kernel
theorem dX8_reason_72 : decode cX8_reason 72 = .ok (.invokevirtual 38, 3) := by decide +kernel
theorem dX8_reason_75 : decode cX8_reason 75 = .ok (.aload_n 0, 1) := by decide +kernel
theorem dX8_reason_76 : decode cX8_reason 76 = .ok (.iload_n 1, 1) := by decide +kernel
theorem dX8_reason_77 : decode cX8_reason 77 = .ok (.iconst 4, 1) := by decide +kernel
theorem dX8_reason_78 : decode cX8_reason 78 = .ok (.invokevirtual 59, 3) := by decide +kernel
theorem dX8_reason_81 : decode cX8_reason 81 = .ok (.if_icmp .ge 5, 3) := by decide +kernel
theorem dX8_reason_84 : decode cX8_reason 84 = .ok (.iconst 4, 1) := by decide +kernel
theorem dX8_reason_85 : decode cX8_reason 85 = .ok (.ireturn, 1) := by decide +kernel
theorem dX8_reason_86 : decode cX8_reason 86 = .ok (.aload_n 0, 1) := by decide +kernel
theorem dX8_reason_87 : decode cX8_reason 87 = .ok (.iload_n 2, 1) := by decide +kernel
theorem dX8_reason_88 : decode cX8_reason 88 = .ok (.iload_n 1, 1) := by decide +kernel
theorem dX8_reason_89 : decode cX8_reason 89 = .ok (.invokevirtual 46, 3) := by decide +kernel
theorem dX8_reason_92 : decode cX8_reason 92 = .ok (.ifCond .le 5, 3) := by decide +kernel
theorem dX8_reason_95 : decode cX8_reason 95 = .ok (.iconst 5, 1) := by decide +kernel
theorem dX8_reason_96 : decode cX8_reason 96 = .ok (.ireturn, 1) := by decide +kernel
theorem dX8_reason_97 : decode cX8_reason 97 = .ok (.aload_n 0, 1) := by decide +kernel
theorem dX8_reason_98 : decode cX8_reason 98 = .ok (.iload_n 2, 1) := by decide +kernel
theorem dX8_reason_99 : decode cX8_reason 99 = .ok (.iload_n 1, 1) := by decide +kernel
theorem dX8_reason_100 : decode cX8_reason 100 = .ok (.iload_n 3, 1) := by decide +kernel
theorem dX8_reason_101 : decode cX8_reason 101 = .ok (.iconst 1, 1) := by decide +kernel
theorem dX8_reason_102 : decode cX8_reason 102 = .ok (.iadd, 1) := by decide +kernel
theorem dX8_reason_103 : decode cX8_reason 103 = .ok (.invokevirtual 93, 3) := by decide +kernel
theorem dX8_reason_106 : decode cX8_reason 106 = .ok (.aload_n 0, 1) := by decide +kernel
theorem dX8_reason_107 : decode cX8_reason 107 = .ok (.iload_n 1, 1) := by decide +kernel
theorem dX8_reason_108 : decode cX8_reason 108 = .ok (.invokevirtual 97, 3) := by decide +kernel
theorem dX8_reason_111 : decode cX8_reason 111 = .ok (.istore 4, 2) := by decide +kernel
theorem dX8_reason_113 : decode cX8_reason 113 = .ok (.aload_n 0, 1) := by decide +kernel
theorem dX8_reason_114 : decode cX8_reason 114 = .ok (.iload_n 2, 1) := by decide +kernel
theorem dX8_reason_115 : decode cX8_reason 115 = .ok (.iload_n 1, 1) := by decide +kernel
theorem dX8_reason_116 : decode cX8_reason 116 = .ok (.iconst 0, 1) := by decide +kernel
theorem dX8_reason_117 : decode cX8_reason 117 = .ok (.invokevirtual 93, 3) := by decide +kernel
theorem dX8_reason_120 : decode cX8_reason 120 = .ok (.iload 4, 2) := by decide +kernel
theorem dX8_reason_122 : decode cX8_reason 122 = .ok (.ifCond .eq 7, 3) := by decide +kernel
theorem dX8_reason_125 : decode cX8_reason 125 = .ok (.iconst 0, 1) := by decide +kernel
theorem dX8_reason_126 : decode cX8_reason 126 = .ok (.goto 5, 3) := by decide +kernel
theorem dX8_reason_129 : decode cX8_reason 129 = .ok (.bipush 6, 2) := by decide +kernel
theorem dX8_reason_131 : decode cX8_reason 131 = .ok (.ireturn, 1) := by decide +kernel
set_option maxRecDepth 20000 in
theorem wc_X8_isSick : Cond.code yX8_isSick cX8_isSick 2 (some .boolean) ∈ zB := List.mem_filter.mpr ⟨List.mem_of_getElem? (i := 999) (by decide +kernel), by decide +kernel⟩
set_option maxRecDepth 20000 in
theorem wm_X8_89 : Cond.methodLink RX8 89 yX8_isSick ∈ zB := List.mem_filter.mpr ⟨List.mem_of_getElem? (i := 996) (by decide +kernel), by decide +kernel⟩
theorem k_X8_89 : zCal RX8 89 yX8_isSick cX8_isSick 2 (some .boolean) 1 := ⟨wm_X8_89, wi_X8, wc_X8_isSick, by decide +kernel, by decide +kernel, by decide +kernel⟩
set_option maxRecDepth 20000 in
theorem wn_X8_isSick : Cond.instanceMethod yX8_isSick ∈ zB := List.mem_filter.mpr ⟨List.mem_of_getElem? (i := 998) (by decide +kernel), by decide +kernel⟩
set_option maxRecDepth 20000 in
theorem ws_X8_isSick : Cond.selects RX8 yX8_isSick yX8_isSick ∈ zB := List.mem_filter.mpr ⟨List.mem_of_getElem? (i := 41) (by decide +kernel), by decide +kernel⟩
theorem v_X8_isSick : zVir yX8_isSick 8 := ⟨wn_X8_isSick, ws_X8_isSick, TX8, 12, rfl⟩
set_option maxRecDepth 20000 in
theorem wc_X8_setPlace : Cond.code yX8_setPlace cX8_setPlace 4 none ∈ zB := List.mem_filter.mpr ⟨List.mem_of_getElem? (i := 940) (by decide +kernel), by decide +kernel⟩
set_option maxRecDepth 20000 in
theorem wm_X8_93 : Cond.methodLink RX8 93 yX8_setPlace ∈ zB := List.mem_filter.mpr ⟨List.mem_of_getElem? (i := 937) (by decide +kernel), by decide +kernel⟩
theorem k_X8_93 : zCal RX8 93 yX8_setPlace cX8_setPlace 4 none 3 := ⟨wm_X8_93, wi_X8, wc_X8_setPlace, by decide +kernel, by decide +kernel, by decide +kernel⟩
set_option maxRecDepth 20000 in
theorem wn_X8_setPlace : Cond.instanceMethod yX8_setPlace ∈ zB := List.mem_filter.mpr ⟨List.mem_of_getElem? (i := 939) (by decide +kernel), by decide +kernel⟩
set_option maxRecDepth 20000 in
theorem ws_X8_setPlace : Cond.selects RX8 yX8_setPlace yX8_setPlace ∈ zB := List.mem_filter.mpr ⟨List.mem_of_getElem? (i := 32) (by decide +kernel), by decide +kernel⟩
theorem v_X8_setPlace : zVir yX8_setPlace 8 := ⟨wn_X8_setPlace, ws_X8_setPlace, TX8, 12, rfl⟩
set_option maxRecDepth 20000 in
theorem wc_X8_restsHold : Cond.code yX8_restsHold cX8_restsHold 3 (some .boolean) ∈ zB := List.mem_filter.mpr ⟨List.mem_of_getElem? (i := 1003) (by decide +kernel), by decide +kernel⟩
set_option maxRecDepth 20000 in
theorem wm_X8_97 : Cond.methodLink RX8 97 yX8_restsHold ∈ zB := List.mem_filter.mpr ⟨List.mem_of_getElem? (i := 1000) (by decide +kernel), by decide +kernel⟩
theorem k_X8_97 : zCal RX8 97 yX8_restsHold cX8_restsHold 3 (some .boolean) 1 := ⟨wm_X8_97, wi_X8, wc_X8_restsHold, by decide +kernel, by decide +kernel, by decide +kernel⟩
set_option maxRecDepth 20000 in
theorem wn_X8_restsHold : Cond.instanceMethod yX8_restsHold ∈ zB := List.mem_filter.mpr ⟨List.mem_of_getElem? (i := 1002) (by decide +kernel), by decide +kernel⟩
set_option maxRecDepth 20000 in
theorem ws_X8_restsHold : Cond.selects RX8 yX8_restsHold yX8_restsHold ∈ zB := List.mem_filter.mpr ⟨List.mem_of_getElem? (i := 42) (by decide +kernel), by decide +kernel⟩
theorem v_X8_restsHold : zVir yX8_restsHold 8 := ⟨wn_X8_restsHold, ws_X8_restsHold, TX8, 12, rfl⟩
def rm_X8_reason : Room := { frames := 6, cells := 0, slots := 0, locals := 136 }
set_option maxHeartbeats 4000000 in
set_option maxRecDepth 20000 in
theorem t_X8_reason_86 {p : Program} {l : Launch} {e : Env} {s : State} {m : MethodId} {args : Array Value} {below : List Frame} {meth : Method} {c : Code} {G : zG} (Z : zF p s m args c meth cX8_reason 5 RX8 G) (hr : meth.sig.returnType = (some .int)) {out : Int32 × zHp} {a0 : Nat} {a1 : Int32} {a2 : Int32} {a3 : Int32} {h : zHp} {H : Heap} {locs : List Loc} {ls : Array Slot} (hf : f_X8_reason_86 a0 a1 a2 a3 h = some out) (E : zE G s h H locs) (hl : lv_has ls 5 [(0, .ref a0), (1, .int a1), (2, .int a2), (3, .int a3)]) : W p l e rm_X8_reason s m args below meth c H locs 0 0 (MQ below (zQi G out.1 out.2) args s 0 0 (zA G)) (F0 m 86 ls []) := by
  unfold f_X8_reason_86 at hf
  refine lv_aload_n Z.x Z.b dX8_reason_86 rfl (lv_at hl 0 rfl) ?_
  refine lv_iload_n Z.x Z.b dX8_reason_87 rfl (lv_at hl 2 rfl) ?_
  refine lv_iload_n Z.x Z.b dX8_reason_88 rfl (lv_at hl 1 rfl) ?_
  refine z_Vi (As := [.int a2, .int a1]) Z E hl.1 k_X8_46 v_X8_placeOf hf (fun r h' e => c_X8_placeOf l G h h' a0 a2 a1 r e) rfl rfl (Nat.le_of_ble_eq_true rfl) (zRm_of rfl (Nat.zero_le _) (Nat.zero_le _)) dX8_reason_89 (fun v1 h2 H locs hf E => ?_)
  refine lv_if_le (tgt := 97) Z.x Z.b dX8_reason_92 (by decide) (fun c => ?_) (fun c => ?_)
  · have hf := zit hf c
    refine lv_aload_n Z.x Z.b dX8_reason_97 rfl (lv_at hl 0 rfl) ?_
    refine lv_iload_n Z.x Z.b dX8_reason_98 rfl (lv_at hl 2 rfl) ?_
    refine lv_iload_n Z.x Z.b dX8_reason_99 rfl (lv_at hl 1 rfl) ?_
    refine lv_iload_n Z.x Z.b dX8_reason_100 rfl (lv_at hl 3 rfl) ?_
    refine lv_iconst (v := 1) Z.x Z.b dX8_reason_101 (by decide) ?_
    refine lv_iadd Z.x Z.b dX8_reason_102 ?_
    refine z_Vv (As := [.int a2, .int a1, .int (a3 + 1)]) Z E hl.1 k_X8_93 v_X8_setPlace hf (fun h' e => c_X8_setPlace l G h2 h' a0 a2 a1 (a3 + 1) e) rfl rfl (Nat.le_of_ble_eq_true rfl) (zRm_of rfl (Nat.zero_le _) (Nat.zero_le _)) dX8_reason_103 (fun h3 H locs hf E => ?_)
    refine lv_aload_n Z.x Z.b dX8_reason_106 rfl (lv_at hl 0 rfl) ?_
    refine lv_iload_n Z.x Z.b dX8_reason_107 rfl (lv_at hl 1 rfl) ?_
    refine z_Vi (As := [.int a1]) Z E hl.1 k_X8_97 v_X8_restsHold hf (fun r h' e => c_X8_restsHold l G h3 h' a0 a1 r e) rfl rfl (Nat.le_of_ble_eq_true rfl) (zRm_of rfl (Nat.zero_le _) (Nat.zero_le _)) dX8_reason_108 (fun v4 h5 H locs hf E => ?_)
    refine lv_istore (lv' := [(4, .int v4), (0, .ref a0), (1, .int a1), (2, .int a2), (3, .int a3)]) Z.x Z.b dX8_reason_111 hl (by decide) rfl (fun ls hl => ?_)
    refine lv_aload_n Z.x Z.b dX8_reason_113 rfl (lv_at hl 1 rfl) ?_
    refine lv_iload_n Z.x Z.b dX8_reason_114 rfl (lv_at hl 3 rfl) ?_
    refine lv_iload_n Z.x Z.b dX8_reason_115 rfl (lv_at hl 2 rfl) ?_
    refine lv_iconst (v := 0) Z.x Z.b dX8_reason_116 (by decide) ?_
    refine z_Vv (As := [.int a2, .int a1, .int 0]) Z E hl.1 k_X8_93 v_X8_setPlace hf (fun h' e => c_X8_setPlace l G h5 h' a0 a2 a1 0 e) rfl rfl (Nat.le_of_ble_eq_true rfl) (zRm_of rfl (Nat.zero_le _) (Nat.zero_le _)) dX8_reason_117 (fun h6 H locs hf E => ?_)
    refine lv_iload Z.x Z.b dX8_reason_120 (lv_at hl 0 rfl) ?_
    refine lv_if_eq (tgt := 129) Z.x Z.b dX8_reason_122 (by decide) (fun c => ?_) (fun c => ?_)
    · have hf := zit hf c
      refine lv_bipush (v := 6) Z.x Z.b dX8_reason_129 (by decide) ?_
      exact z_iret Z E hr dX8_reason_131 hf
    · have hf := zif_ hf c
      refine lv_iconst (v := 0) Z.x Z.b dX8_reason_125 (by decide) ?_
      refine lv_goto (tgt := 131) Z.x Z.b dX8_reason_126 (by decide) ?_
      exact z_iret Z E hr dX8_reason_131 hf
  · have hf := zif_ hf c
    refine lv_iconst (v := 5) Z.x Z.b dX8_reason_95 (by decide) ?_
    exact z_iret Z E hr dX8_reason_96 hf
set_option maxHeartbeats 4000000 in
set_option maxRecDepth 20000 in
theorem t_X8_reason {p : Program} {l : Launch} {e : Env} {s : State} {m : MethodId} {args : Array Value} {below : List Frame} {meth : Method} {c : Code} {G : zG} (Z : zF p s m args c meth cX8_reason 5 RX8 G) (hr : meth.sig.returnType = (some .int)) {out : Int32 × zHp} {a0 : Nat} {a1 : Int32} {a2 : Int32} {a3 : Int32} {h : zHp} {H : Heap} {locs : List Loc} {ls : Array Slot} (hf : f_X8_reason a0 a1 a2 a3 h = some out) (E : zE G s h H locs) (hl : lv_has ls 5 [(0, .ref a0), (1, .int a1), (2, .int a2), (3, .int a3)]) : W p l e rm_X8_reason s m args below meth c H locs 0 0 (MQ below (zQi G out.1 out.2) args s 0 0 (zA G)) (F0 m 0 ls []) := by
  unfold f_X8_reason at hf
  refine lv_aload_n Z.x Z.b dX8_reason_0 rfl (lv_at hl 0 rfl) ?_
  refine lv_iload_n Z.x Z.b dX8_reason_1 rfl (lv_at hl 2 rfl) ?_
  refine lv_iconst (v := 0) Z.x Z.b dX8_reason_2 (by decide) ?_
  refine z_Vi (As := [.int a2, .int 0]) Z E hl.1 k_X8_62 v_X8_is hf (fun r h' e => c_X8_is l G h h' a0 a2 0 r e) rfl rfl (Nat.le_of_ble_eq_true rfl) (zRm_of rfl (Nat.zero_le _) (Nat.zero_le _)) dX8_reason_3 (fun v1 h2 H locs hf E => ?_)
  refine lv_if_eq (tgt := 24) Z.x Z.b dX8_reason_6 (by decide) (fun c => ?_) (fun c => ?_)
  · have hf := zit hf c
    refine lv_iconst (v := 1) Z.x Z.b dX8_reason_24 (by decide) ?_
    exact z_iret Z E hr dX8_reason_25 hf
  · have hf := zif_ hf c
    refine lv_aload_n Z.x Z.b dX8_reason_9 rfl (lv_at hl 0 rfl) ?_
    refine lv_iload_n Z.x Z.b dX8_reason_10 rfl (lv_at hl 2 rfl) ?_
    refine lv_iconst (v := 2) Z.x Z.b dX8_reason_11 (by decide) ?_
    refine z_Vi (As := [.int a2, .int 2]) Z E hl.1 k_X8_38 v_X8_of hf (fun r h' e => c_X8_of l G h2 h' a0 a2 2 r e) rfl rfl (Nat.le_of_ble_eq_true rfl) (zRm_of rfl (Nat.zero_le _) (Nat.zero_le _)) dX8_reason_12 (fun v3 h4 H locs hf E => ?_)
    refine lv_aload_n Z.x Z.b dX8_reason_15 rfl (lv_at hl 0 rfl) ?_
    refine z_getR Z E q_X8_7 dX8_reason_16 hf (fun v5 hf => ?_)
    refine lv_iconst (v := 0) Z.x Z.b dX8_reason_19 (by decide) ?_
    refine z_iald Z E dX8_reason_20 hf (fun v6 hf => ?_)
    refine lv_icmp_ge (tgt := 26) Z.x Z.b dX8_reason_21 (by decide) (fun c => ?_) (fun c => ?_)
    · have hf := zit hf c
      refine lv_aload_n Z.x Z.b dX8_reason_26 rfl (lv_at hl 0 rfl) ?_
      refine lv_iload_n Z.x Z.b dX8_reason_27 rfl (lv_at hl 2 rfl) ?_
      refine lv_iload_n Z.x Z.b dX8_reason_28 rfl (lv_at hl 3 rfl) ?_
      refine z_Vi (As := [.int a2, .int a3]) Z E hl.1 k_X8_49 v_X8_taken hf (fun r h' e => c_X8_taken l G h4 h' a0 a2 a3 r e) rfl rfl (Nat.le_of_ble_eq_true rfl) (zRm_of rfl (Nat.zero_le _) (Nat.zero_le _)) dX8_reason_29 (fun v7 h8 H locs hf E => ?_)
      refine lv_aload_n Z.x Z.b dX8_reason_32 rfl (lv_at hl 0 rfl) ?_
      refine lv_iload_n Z.x Z.b dX8_reason_33 rfl (lv_at hl 2 rfl) ?_
      refine lv_iconst (v := 4) Z.x Z.b dX8_reason_34 (by decide) ?_
      refine lv_iload_n Z.x Z.b dX8_reason_35 rfl (lv_at hl 3 rfl) ?_
      refine lv_iadd Z.x Z.b dX8_reason_36 ?_
      refine z_Vi (As := [.int a2, .int (4 + a3)]) Z E hl.1 k_X8_38 v_X8_of hf (fun r h' e => c_X8_of l G h8 h' a0 a2 (4 + a3) r e) rfl rfl (Nat.le_of_ble_eq_true rfl) (zRm_of rfl (Nat.zero_le _) (Nat.zero_le _)) dX8_reason_37 (fun v9 h10 H locs hf E => ?_)
      refine lv_icmp_lt (tgt := 45) Z.x Z.b dX8_reason_40 (by decide) (fun c => ?_) (fun c => ?_)
      · have hf := zit hf c
        refine lv_aload_n Z.x Z.b dX8_reason_45 rfl (lv_at hl 0 rfl) ?_
        refine lv_iload_n Z.x Z.b dX8_reason_46 rfl (lv_at hl 1 rfl) ?_
        refine lv_iload_n Z.x Z.b dX8_reason_47 rfl (lv_at hl 3 rfl) ?_
        refine z_Vi (As := [.int a1, .int a3]) Z E hl.1 k_X8_59 v_X8_has hf (fun r h' e => c_X8_has l G h10 h' a0 a1 a3 r e) rfl rfl (Nat.le_of_ble_eq_true rfl) (zRm_of rfl (Nat.zero_le _) (Nat.zero_le _)) dX8_reason_48 (fun v11 h12 H locs hf E => ?_)
        refine lv_aload_n Z.x Z.b dX8_reason_51 rfl (lv_at hl 0 rfl) ?_
        refine lv_iload_n Z.x Z.b dX8_reason_52 rfl (lv_at hl 2 rfl) ?_
        refine z_Vi (As := [.int a2]) Z E hl.1 k_X8_69 v_X8_end hf (fun r h' e => c_X8_end l G h12 h' a0 a2 r e) rfl rfl (Nat.le_of_ble_eq_true rfl) (zRm_of rfl (Nat.zero_le _) (Nat.zero_le _)) dX8_reason_53 (fun v13 h14 H locs hf E => ?_)
        refine lv_icmp_ge (tgt := 61) Z.x Z.b dX8_reason_56 (by decide) (fun c => ?_) (fun c => ?_)
        · have hf := zit hf c
          refine lv_aload_n Z.x Z.b dX8_reason_61 rfl (lv_at hl 0 rfl) ?_
          refine lv_iload_n Z.x Z.b dX8_reason_62 rfl (lv_at hl 1 rfl) ?_
          refine z_Vi (As := [.int a1]) Z E hl.1 k_X8_89 v_X8_isSick hf (fun r h' e => c_X8_isSick l G h14 h' a0 a1 r e) rfl rfl (Nat.le_of_ble_eq_true rfl) (zRm_of rfl (Nat.zero_le _) (Nat.zero_le _)) dX8_reason_63 (fun v15 h16 H locs hf E => ?_)
          refine lv_if_eq (tgt := 86) Z.x Z.b dX8_reason_66 (by decide) (fun c => ?_) (fun c => ?_)
          · have hf := zit hf c
            exact t_X8_reason_86 Z hr hf E (lv_sub hl [0, 1, 2, 3] rfl)
          · have hf := zif_ hf c
            refine lv_aload_n Z.x Z.b dX8_reason_69 rfl (lv_at hl 0 rfl) ?_
            refine lv_iload_n Z.x Z.b dX8_reason_70 rfl (lv_at hl 2 rfl) ?_
            refine lv_iconst (v := 2) Z.x Z.b dX8_reason_71 (by decide) ?_
            refine z_Vi (As := [.int a2, .int 2]) Z E hl.1 k_X8_38 v_X8_of hf (fun r h' e => c_X8_of l G h16 h' a0 a2 2 r e) rfl rfl (Nat.le_of_ble_eq_true rfl) (zRm_of rfl (Nat.zero_le _) (Nat.zero_le _)) dX8_reason_72 (fun v17 h18 H locs hf E => ?_)
            refine lv_aload_n Z.x Z.b dX8_reason_75 rfl (lv_at hl 0 rfl) ?_
            refine lv_iload_n Z.x Z.b dX8_reason_76 rfl (lv_at hl 1 rfl) ?_
            refine lv_iconst (v := 4) Z.x Z.b dX8_reason_77 (by decide) ?_
            refine z_Vi (As := [.int a1, .int 4]) Z E hl.1 k_X8_59 v_X8_has hf (fun r h' e => c_X8_has l G h18 h' a0 a1 4 r e) rfl rfl (Nat.le_of_ble_eq_true rfl) (zRm_of rfl (Nat.zero_le _) (Nat.zero_le _)) dX8_reason_78 (fun v19 h20 H locs hf E => ?_)
            refine lv_icmp_ge (tgt := 86) Z.x Z.b dX8_reason_81 (by decide) (fun c => ?_) (fun c => ?_)
            · have hf := zit hf c
              exact t_X8_reason_86 Z hr hf E (lv_sub hl [0, 1, 2, 3] rfl)
            · have hf := zif_ hf c
              refine lv_iconst (v := 4) Z.x Z.b dX8_reason_84 (by decide) ?_
              exact z_iret Z E hr dX8_reason_85 hf
        · have hf := zif_ hf c
          refine lv_iconst (v := 3) Z.x Z.b dX8_reason_59 (by decide) ?_
          exact z_iret Z E hr dX8_reason_60 hf
      · have hf := zif_ hf c
        refine lv_iconst (v := 2) Z.x Z.b dX8_reason_43 (by decide) ?_
        exact z_iret Z E hr dX8_reason_44 hf
    · have hf := zif_ hf c
      refine lv_iconst (v := 1) Z.x Z.b dX8_reason_24 (by decide) ?_
      exact z_iret Z E hr dX8_reason_25 hf
set_option maxHeartbeats 4000000 in
set_option maxRecDepth 20000 in
theorem c_X8_reason (l : Launch) (G : zG) (h : zHp) (h' : zHp) (a0 : Nat) (a1 : Int32) (a2 : Int32) (a3 : Int32) (r : Int32) (hf : f_X8_reason a0 a1 a2 a3 h = some (r, h')) : zM0 l yX8_reason cX8_reason 5 (some .int) rm_X8_reason G [.ref a0, .int a1, .int a2, .int a3] h (zQi G r h') := by
  refine Met.ofW (cc := cX8_reason) (maxL := 5) (ret := (some .int)) (by decide) rfl ?_
  intro p e s m args below meth c s₁ B hml hv
  obtain ⟨rfl, hW⟩ := hv
  obtain ⟨Z, E, hr⟩ := zEnter (own := RX8) B hml rfl hW
  have hl := lv_entry ([.ref a0, .int a1, .int a2, .int a3]) (n := 5) (Nat.le_of_ble_eq_true rfl)
  rw [lg_entry_eq]
  generalize (lg_sl ([.ref a0, .int a1, .int a2, .int a3]) ++ List.replicate (5 - (lg_sl ([.ref a0, .int a1, .int a2, .int a3])).length) Slot.unset).toArray = ls at hl ⊢
  have hl : lv_has ls 5 [(0, .ref a0), (1, .int a1), (2, .int a2), (3, .int a3)] := hl
  exact t_X8_reason (out := (r, h')) Z hr hf E hl
/-! FerryCrewsModel.cover(II)Z -/
theorem dX8_cover_0 : decode cX8_cover 0 = .ok (.iconst 0, 1) := by decide +kernel
theorem dX8_cover_1 : decode cX8_cover 1 = .ok (.istore_n 3, 1) := by decide +kernel
theorem dX8_cover_2 : decode cX8_cover 2 = .ok (.iload_n 3, 1) := by decide +kernel
theorem dX8_cover_3 : decode cX8_cover 3 = .ok (.aload_n 0, 1) := by decide +kernel
theorem dX8_cover_4 : decode cX8_cover 4 = .ok (.getfield 7, 3) := by decide +kernel
theorem dX8_cover_7 : decode cX8_cover 7 = .ok (.sipush 1041, 3) := by decide +kernel
theorem dX8_cover_10 : decode cX8_cover 10 = .ok (.iload_n 2, 1) := by decide +kernel
theorem dX8_cover_11 : decode cX8_cover 11 = .ok (.iadd, 1) := by decide +kernel
theorem dX8_cover_12 : decode cX8_cover 12 = .ok (.iaload, 1) := by decide +kernel
theorem dX8_cover_13 : decode cX8_cover 13 = .ok (.if_icmp .ge 75, 3) := by decide +kernel
theorem dX8_cover_16 : decode cX8_cover 16 = .ok (.aload_n 0, 1) := by decide +kernel
theorem dX8_cover_17 : decode cX8_cover 17 = .ok (.getfield 7, 3) := by decide +kernel
theorem dX8_cover_20 : decode cX8_cover 20 = .ok (.sipush 1045, 3) := by decide +kernel
theorem dX8_cover_23 : decode cX8_cover 23 = .ok (.bipush 12, 2) := by decide +kernel
theorem dX8_cover_25 : decode cX8_cover 25 = .ok (.iload_n 2, 1) := by decide +kernel
theorem dX8_cover_26 : decode cX8_cover 26 = .ok (.imul, 1) := by decide +kernel
theorem dX8_cover_27 : decode cX8_cover 27 = .ok (.iadd, 1) := by decide +kernel
theorem dX8_cover_28 : decode cX8_cover 28 = .ok (.iload_n 3, 1) := by decide +kernel
theorem dX8_cover_29 : decode cX8_cover 29 = .ok (.iadd, 1) := by decide +kernel
theorem dX8_cover_30 : decode cX8_cover 30 = .ok (.iaload, 1) := by decide +kernel
theorem dX8_cover_31 : decode cX8_cover 31 = .ok (.istore 4, 2) := by decide +kernel
theorem dX8_cover_33 : decode cX8_cover 33 = .ok (.aload_n 0, 1) := by decide +kernel
theorem dX8_cover_34 : decode cX8_cover 34 = .ok (.iload 4, 2) := by decide +kernel
theorem dX8_cover_36 : decode cX8_cover 36 = .ok (.iload_n 1, 1) := by decide +kernel
theorem dX8_cover_37 : decode cX8_cover 37 = .ok (.iload_n 2, 1) := by decide +kernel
theorem dX8_cover_38 : decode cX8_cover 38 = .ok (.invokevirtual 100, 3) := by decide +kernel
theorem dX8_cover_41 : decode cX8_cover 41 = .ok (.ifCond .ne 41, 3) := by decide +kernel
theorem dX8_cover_44 : decode cX8_cover 44 = .ok (.aload_n 0, 1) := by decide +kernel
theorem dX8_cover_45 : decode cX8_cover 45 = .ok (.iload_n 1, 1) := by decide +kernel
theorem dX8_cover_46 : decode cX8_cover 46 = .ok (.iload 4, 2) := by decide +kernel
theorem dX8_cover_48 : decode cX8_cover 48 = .ok (.iload_n 2, 1) := by decide +kernel
theorem dX8_cover_49 : decode cX8_cover 49 = .ok (.iconst 1, 1) := by decide +kernel
theorem dX8_cover_50 : decode cX8_cover 50 = .ok (.iadd, 1) := by decide +kernel
theorem dX8_cover_51 : decode cX8_cover 51 = .ok (.invokevirtual 93, 3) := by decide +kernel
theorem dX8_cover_54 : decode cX8_cover 54 = .ok (.aload_n 0, 1) := by decide +kernel
theorem dX8_cover_55 : decode cX8_cover 55 = .ok (.iload 4, 2) := by decide +kernel
theorem dX8_cover_57 : decode cX8_cover 57 = .ok (.iconst 5, 1) := by decide +kernel
theorem dX8_cover_58 : decode cX8_cover 58 = .ok (.aload_n 0, 1) := by decide +kernel
theorem dX8_cover_59 : decode cX8_cover 59 = .ok (.iload 4, 2) := by decide +kernel
theorem dX8_cover_61 : decode cX8_cover 61 = .ok (.iconst 5, 1) := by decide +kernel
theorem dX8_cover_62 : decode cX8_cover 62 = .ok (.invokevirtual 59, 3) := by decide +kernel
theorem dX8_cover_65 : decode cX8_cover 65 = .ok (.iconst 1, 1) := by decide +kernel
theorem dX8_cover_66 : decode cX8_cover 66 = .ok (.iadd, 1) := by decide +kernel
theorem dX8_cover_67 : decode cX8_cover 67 = .ok (.invokevirtual 104, 3) := by decide +kernel
theorem dX8_cover_70 : decode cX8_cover 70 = .ok (.aload_n 0, 1) := by decide +kernel
theorem dX8_cover_71 : decode cX8_cover 71 = .ok (.getfield 7, 3) := by decide +kernel
theorem dX8_cover_74 : decode cX8_cover 74 = .ok (.iconst 3, 1) := by decide +kernel
theorem dX8_cover_75 : decode cX8_cover 75 = .ok (.dup2, 1) := by decide +kernel
theorem dX8_cover_76 : decode cX8_cover 76 = .ok (.iaload, 1) := by decide +kernel
theorem dX8_cover_77 : decode cX8_cover 77 = .ok (.iconst 1, 1) := by decide +kernel
theorem dX8_cover_78 : decode cX8_cover 78 = .ok (.iadd, 1) := by decide +kernel
theorem dX8_cover_79 : decode cX8_cover 79 = .ok (.iastore, 1) := by decide +kernel
theorem dX8_cover_80 : decode cX8_cover 80 = .ok (.iconst 1, 1) := by decide +kernel
theorem dX8_cover_81 : decode cX8_cover 81 = .ok (.ireturn, 1) := by decide +kernel
theorem dX8_cover_82 : decode cX8_cover 82 = .ok (.iinc 3 1, 3) := by decide +kernel
theorem dX8_cover_85 : decode cX8_cover 85 = .ok (.goto (-83), 3) := by decide +kernel
theorem dX8_cover_88 : decode cX8_cover 88 = .ok (.iconst 0, 1) := by decide +kernel
theorem dX8_cover_89 : decode cX8_cover 89 = .ok (.ireturn, 1) := by decide +kernel
set_option maxRecDepth 20000 in
theorem wc_X8_reason : Cond.code yX8_reason cX8_reason 5 (some .int) ∈ zB := List.mem_filter.mpr ⟨List.mem_of_getElem? (i := 995) (by decide +kernel), by decide +kernel⟩
set_option maxRecDepth 20000 in
theorem wm_X8_100 : Cond.methodLink RX8 100 yX8_reason ∈ zB := List.mem_filter.mpr ⟨List.mem_of_getElem? (i := 992) (by decide +kernel), by decide +kernel⟩
theorem k_X8_100 : zCal RX8 100 yX8_reason cX8_reason 5 (some .int) 3 := ⟨wm_X8_100, wi_X8, wc_X8_reason, by decide +kernel, by decide +kernel, by decide +kernel⟩
set_option maxRecDepth 20000 in
theorem wn_X8_reason : Cond.instanceMethod yX8_reason ∈ zB := List.mem_filter.mpr ⟨List.mem_of_getElem? (i := 994) (by decide +kernel), by decide +kernel⟩
set_option maxRecDepth 20000 in
theorem ws_X8_reason : Cond.selects RX8 yX8_reason yX8_reason ∈ zB := List.mem_filter.mpr ⟨List.mem_of_getElem? (i := 40) (by decide +kernel), by decide +kernel⟩
theorem v_X8_reason : zVir yX8_reason 8 := ⟨wn_X8_reason, ws_X8_reason, TX8, 12, rfl⟩
set_option maxRecDepth 20000 in
theorem wc_X8_note : Cond.code yX8_note cX8_note 4 none ∈ zB := List.mem_filter.mpr ⟨List.mem_of_getElem? (i := 951) (by decide +kernel), by decide +kernel⟩
set_option maxRecDepth 20000 in
theorem wm_X8_104 : Cond.methodLink RX8 104 yX8_note ∈ zB := List.mem_filter.mpr ⟨List.mem_of_getElem? (i := 948) (by decide +kernel), by decide +kernel⟩
theorem k_X8_104 : zCal RX8 104 yX8_note cX8_note 4 none 3 := ⟨wm_X8_104, wi_X8, wc_X8_note, by decide +kernel, by decide +kernel, by decide +kernel⟩
set_option maxRecDepth 20000 in
theorem wn_X8_note : Cond.instanceMethod yX8_note ∈ zB := List.mem_filter.mpr ⟨List.mem_of_getElem? (i := 950) (by decide +kernel), by decide +kernel⟩
set_option maxRecDepth 20000 in
theorem ws_X8_note : Cond.selects RX8 yX8_note yX8_note ∈ zB := List.mem_filter.mpr ⟨List.mem_of_getElem? (i := 33) (by decide +kernel), by decide +kernel⟩
theorem v_X8_note : zVir yX8_note 8 := ⟨wn_X8_note, ws_X8_note, TX8, 12, rfl⟩
def rm_X8_cover : Room := { frames := 7, cells := 0, slots := 0, locals := 160 }
set_option maxHeartbeats 4000000 in
set_option maxRecDepth 20000 in
theorem t_X8_cover_2_body {p : Program} {l : Launch} {e : Env} {s : State} {m : MethodId} {args : Array Value} {below : List Frame} {meth : Method} {c : Code} {G : zG} (Z : zF p s m args c meth cX8_cover 5 RX8 G) (hr : meth.sig.returnType = (some .boolean)) {out : Int32 × zHp} {r2 : Nat → Int32 → Int32 → Int32 → zHp → Option (Int32 × zHp)} (k2 : ∀ {a0 : Nat} {a1 : Int32} {a2 : Int32} {a3 : Int32} {h : zHp} {H : Heap} {locs : List Loc} {ls : Array Slot}, r2 a0 a1 a2 a3 h = some out → zE G s h H locs → lv_has ls 5 [(0, .ref a0), (1, .int a1), (2, .int a2), (3, .int a3)] → W p l e rm_X8_cover s m args below meth c H locs 0 0 (MQ below (zQi G out.1 out.2) args s 0 0 (zA G)) (F0 m 2 ls [])) {a0 : Nat} {a1 : Int32} {a2 : Int32} {a3 : Int32} {h : zHp} {H : Heap} {locs : List Loc} {ls : Array Slot} (hf : f_X8_cover_2_body r2 a0 a1 a2 a3 h = some out) (E : zE G s h H locs) (hl : lv_has ls 5 [(0, .ref a0), (1, .int a1), (2, .int a2), (3, .int a3)]) : W p l e rm_X8_cover s m args below meth c H locs 0 0 (MQ below (zQi G out.1 out.2) args s 0 0 (zA G)) (F0 m 2 ls []) := by
  unfold f_X8_cover_2_body at hf
  refine lv_iload_n Z.x Z.b dX8_cover_2 rfl (lv_at hl 3 rfl) ?_
  refine lv_aload_n Z.x Z.b dX8_cover_3 rfl (lv_at hl 0 rfl) ?_
  refine z_getR Z E q_X8_7 dX8_cover_4 hf (fun v1 hf => ?_)
  refine lv_sipush (v := 1041) Z.x Z.b dX8_cover_7 (by decide) ?_
  refine lv_iload_n Z.x Z.b dX8_cover_10 rfl (lv_at hl 2 rfl) ?_
  refine lv_iadd Z.x Z.b dX8_cover_11 ?_
  refine z_iald Z E dX8_cover_12 hf (fun v2 hf => ?_)
  refine lv_icmp_ge (tgt := 88) Z.x Z.b dX8_cover_13 (by decide) (fun c => ?_) (fun c => ?_)
  · have hf := zit hf c
    refine lv_iconst (v := 0) Z.x Z.b dX8_cover_88 (by decide) ?_
    exact z_zret Z E hr dX8_cover_89 hf
  · have hf := zif_ hf c
    refine lv_aload_n Z.x Z.b dX8_cover_16 rfl (lv_at hl 0 rfl) ?_
    refine z_getR Z E q_X8_7 dX8_cover_17 hf (fun v3 hf => ?_)
    refine lv_sipush (v := 1045) Z.x Z.b dX8_cover_20 (by decide) ?_
    refine lv_bipush (v := 12) Z.x Z.b dX8_cover_23 (by decide) ?_
    refine lv_iload_n Z.x Z.b dX8_cover_25 rfl (lv_at hl 2 rfl) ?_
    refine lv_imul Z.x Z.b dX8_cover_26 ?_
    refine lv_iadd Z.x Z.b dX8_cover_27 ?_
    refine lv_iload_n Z.x Z.b dX8_cover_28 rfl (lv_at hl 3 rfl) ?_
    refine lv_iadd Z.x Z.b dX8_cover_29 ?_
    refine z_iald Z E dX8_cover_30 hf (fun v4 hf => ?_)
    refine lv_istore (lv' := [(4, .int v4), (0, .ref a0), (1, .int a1), (2, .int a2), (3, .int a3)]) Z.x Z.b dX8_cover_31 hl (by decide) rfl (fun ls hl => ?_)
    refine lv_aload_n Z.x Z.b dX8_cover_33 rfl (lv_at hl 1 rfl) ?_
    refine lv_iload Z.x Z.b dX8_cover_34 (lv_at hl 0 rfl) ?_
    refine lv_iload_n Z.x Z.b dX8_cover_36 rfl (lv_at hl 2 rfl) ?_
    refine lv_iload_n Z.x Z.b dX8_cover_37 rfl (lv_at hl 3 rfl) ?_
    refine z_Vi (As := [.int v4, .int a1, .int a2]) Z E hl.1 k_X8_100 v_X8_reason hf (fun r h' e => c_X8_reason l G h h' a0 v4 a1 a2 r e) rfl rfl (Nat.le_of_ble_eq_true rfl) (zRm_of rfl (Nat.zero_le _) (Nat.zero_le _)) dX8_cover_38 (fun v5 h6 H locs hf E => ?_)
    refine lv_if_ne (tgt := 82) Z.x Z.b dX8_cover_41 (by decide) (fun c => ?_) (fun c => ?_)
    · have hf := zif_ hf c
      refine lv_iinc (v := (a3 + 1)) (lv' := [(3, .int (a3 + 1)), (4, .int v4), (0, .ref a0), (1, .int a1), (2, .int a2)]) Z.x Z.b dX8_cover_82 hl (k := 4) rfl rfl (by decide) rfl (fun ls hl => ?_)
      refine lv_goto (tgt := 2) Z.x Z.b dX8_cover_85 (by decide) ?_
      exact k2 hf E (lv_sub hl [2, 3, 4, 0] rfl)
    · have hf := zit hf c
      refine lv_aload_n Z.x Z.b dX8_cover_44 rfl (lv_at hl 1 rfl) ?_
      refine lv_iload_n Z.x Z.b dX8_cover_45 rfl (lv_at hl 2 rfl) ?_
      refine lv_iload Z.x Z.b dX8_cover_46 (lv_at hl 0 rfl) ?_
      refine lv_iload_n Z.x Z.b dX8_cover_48 rfl (lv_at hl 3 rfl) ?_
      refine lv_iconst (v := 1) Z.x Z.b dX8_cover_49 (by decide) ?_
      refine lv_iadd Z.x Z.b dX8_cover_50 ?_
      refine z_Vv (As := [.int a1, .int v4, .int (a2 + 1)]) Z E hl.1 k_X8_93 v_X8_setPlace hf (fun h' e => c_X8_setPlace l G h6 h' a0 a1 v4 (a2 + 1) e) rfl rfl (Nat.le_of_ble_eq_true rfl) (zRm_of rfl (Nat.zero_le _) (Nat.zero_le _)) dX8_cover_51 (fun h7 H locs hf E => ?_)
      refine lv_aload_n Z.x Z.b dX8_cover_54 rfl (lv_at hl 1 rfl) ?_
      refine lv_iload Z.x Z.b dX8_cover_55 (lv_at hl 0 rfl) ?_
      refine lv_iconst (v := 5) Z.x Z.b dX8_cover_57 (by decide) ?_
      refine lv_aload_n Z.x Z.b dX8_cover_58 rfl (lv_at hl 1 rfl) ?_
      refine lv_iload Z.x Z.b dX8_cover_59 (lv_at hl 0 rfl) ?_
      refine lv_iconst (v := 5) Z.x Z.b dX8_cover_61 (by decide) ?_
      refine z_Vi (As := [.int v4, .int 5]) Z E hl.1 k_X8_59 v_X8_has hf (fun r h' e => c_X8_has l G h7 h' a0 v4 5 r e) rfl rfl (Nat.le_of_ble_eq_true rfl) (zRm_of rfl (Nat.zero_le _) (Nat.zero_le _)) dX8_cover_62 (fun v8 h9 H locs hf E => ?_)
      refine lv_iconst (v := 1) Z.x Z.b dX8_cover_65 (by decide) ?_
      refine lv_iadd Z.x Z.b dX8_cover_66 ?_
      refine z_Vv (As := [.int v4, .int 5, .int (v8 + 1)]) Z E hl.1 k_X8_104 v_X8_note hf (fun h' e => c_X8_note l G h9 h' a0 v4 5 (v8 + 1) e) rfl rfl (Nat.le_of_ble_eq_true rfl) (zRm_of rfl (Nat.zero_le _) (Nat.zero_le _)) dX8_cover_67 (fun h10 H locs hf E => ?_)
      refine lv_aload_n Z.x Z.b dX8_cover_70 rfl (lv_at hl 1 rfl) ?_
      refine z_getR Z E q_X8_7 dX8_cover_71 hf (fun v11 hf => ?_)
      refine lv_iconst (v := 3) Z.x Z.b dX8_cover_74 (by decide) ?_
      refine lv_dup2_11 Z.x Z.b dX8_cover_75 rfl rfl ?_
      refine z_iald Z E dX8_cover_76 hf (fun v12 hf => ?_)
      refine lv_iconst (v := 1) Z.x Z.b dX8_cover_77 (by decide) ?_
      refine lv_iadd Z.x Z.b dX8_cover_78 ?_
      refine z_iast Z E dX8_cover_79 hf (fun h13 H locs hf E => ?_)
      refine lv_iconst (v := 1) Z.x Z.b dX8_cover_80 (by decide) ?_
      exact z_zret Z E hr dX8_cover_81 hf
theorem t_X8_cover_2 {p : Program} {l : Launch} {e : Env} {s : State} {m : MethodId} {args : Array Value} {below : List Frame} {meth : Method} {c : Code} {G : zG} (Z : zF p s m args c meth cX8_cover 5 RX8 G) (hr : meth.sig.returnType = (some .boolean)) {out : Int32 × zHp} : ∀ (n : Nat), ∀ {a0 : Nat} {a1 : Int32} {a2 : Int32} {a3 : Int32} {h : zHp} {H : Heap} {locs : List Loc} {ls : Array Slot}, f_X8_cover_2 n a0 a1 a2 a3 h = some out → zE G s h H locs → lv_has ls 5 [(0, .ref a0), (1, .int a1), (2, .int a2), (3, .int a3)] → W p l e rm_X8_cover s m args below meth c H locs 0 0 (MQ below (zQi G out.1 out.2) args s 0 0 (zA G)) (F0 m 2 ls [])
  | 0 => fun hf => by cases hf
  | n + 1 => fun hf E hl => t_X8_cover_2_body Z hr (r2 := f_X8_cover_2 n) (t_X8_cover_2 Z hr n) hf E hl
set_option maxHeartbeats 4000000 in
set_option maxRecDepth 20000 in
theorem t_X8_cover {p : Program} {l : Launch} {e : Env} {s : State} {m : MethodId} {args : Array Value} {below : List Frame} {meth : Method} {c : Code} {G : zG} (Z : zF p s m args c meth cX8_cover 5 RX8 G) (hr : meth.sig.returnType = (some .boolean)) {out : Int32 × zHp} {a0 : Nat} {a1 : Int32} {a2 : Int32} {h : zHp} {H : Heap} {locs : List Loc} {ls : Array Slot} (hf : f_X8_cover a0 a1 a2 h = some out) (E : zE G s h H locs) (hl : lv_has ls 5 [(0, .ref a0), (1, .int a1), (2, .int a2)]) : W p l e rm_X8_cover s m args below meth c H locs 0 0 (MQ below (zQi G out.1 out.2) args s 0 0 (zA G)) (F0 m 0 ls []) := by
  unfold f_X8_cover at hf
  refine lv_iconst (v := 0) Z.x Z.b dX8_cover_0 (by decide) ?_
  refine lv_istore_n (lv' := [(3, .int 0), (0, .ref a0), (1, .int a1), (2, .int a2)]) Z.x Z.b dX8_cover_1 rfl hl (by decide) rfl (fun ls hl => ?_)
  exact t_X8_cover_2 Z hr zN hf E (lv_sub hl [1, 2, 3, 0] rfl)
set_option maxHeartbeats 4000000 in
set_option maxRecDepth 20000 in
theorem c_X8_cover (l : Launch) (G : zG) (h : zHp) (h' : zHp) (a0 : Nat) (a1 : Int32) (a2 : Int32) (r : Int32) (hf : f_X8_cover a0 a1 a2 h = some (r, h')) : zM0 l yX8_cover cX8_cover 5 (some .boolean) rm_X8_cover G [.ref a0, .int a1, .int a2] h (zQi G r h') := by
  refine Met.ofW (cc := cX8_cover) (maxL := 5) (ret := (some .boolean)) (by decide) rfl ?_
  intro p e s m args below meth c s₁ B hml hv
  obtain ⟨rfl, hW⟩ := hv
  obtain ⟨Z, E, hr⟩ := zEnter (own := RX8) B hml rfl hW
  have hl := lv_entry ([.ref a0, .int a1, .int a2]) (n := 5) (Nat.le_of_ble_eq_true rfl)
  rw [lg_entry_eq]
  generalize (lg_sl ([.ref a0, .int a1, .int a2]) ++ List.replicate (5 - (lg_sl ([.ref a0, .int a1, .int a2])).length) Slot.unset).toArray = ls at hl ⊢
  have hl : lv_has ls 5 [(0, .ref a0), (1, .int a1), (2, .int a2)] := hl
  exact t_X8_cover (out := (r, h')) Z hr hf E hl
/-! FerryCrewsModel.clearPlaces(I)V -/
theorem dX8_clearPlaces_0 : decode cX8_clearPlaces 0 = .ok (.iconst 0, 1) := by decide +kernel
theorem dX8_clearPlaces_1 : decode cX8_clearPlaces 1 = .ok (.istore_n 2, 1) := by decide +kernel
theorem dX8_clearPlaces_2 : decode cX8_clearPlaces 2 = .ok (.iload_n 2, 1) := by decide +kernel
theorem dX8_clearPlaces_3 : decode cX8_clearPlaces 3 = .ok (.bipush 12, 2) := by decide +kernel
theorem dX8_clearPlaces_5 : decode cX8_clearPlaces 5 = .ok (.if_icmp .ge 16, 3) := by decide +kernel
theorem dX8_clearPlaces_8 : decode cX8_clearPlaces 8 = .ok (.aload_n 0, 1) := by decide +kernel
theorem dX8_clearPlaces_9 : decode cX8_clearPlaces 9 = .ok (.iload_n 1, 1) := by decide +kernel
theorem dX8_clearPlaces_10 : decode cX8_clearPlaces 10 = .ok (.iload_n 2, 1) := by decide +kernel
theorem dX8_clearPlaces_11 : decode cX8_clearPlaces 11 = .ok (.iconst 0, 1) := by decide +kernel
theorem dX8_clearPlaces_12 : decode cX8_clearPlaces 12 = .ok (.invokevirtual 93, 3) := by decide +kernel
theorem dX8_clearPlaces_15 : decode cX8_clearPlaces 15 = .ok (.iinc 2 1, 3) := by decide +kernel
theorem dX8_clearPlaces_18 : decode cX8_clearPlaces 18 = .ok (.goto (-16), 3) := by decide +kernel
theorem dX8_clearPlaces_21 : decode cX8_clearPlaces 21 = .ok (.return_, 1) := by decide +kernel
def rm_X8_clearPlaces : Room := { frames := 1, cells := 0, slots := 0, locals := 23 }
set_option maxHeartbeats 4000000 in
set_option maxRecDepth 20000 in
theorem t_X8_clearPlaces_2_body {p : Program} {l : Launch} {e : Env} {s : State} {m : MethodId} {args : Array Value} {below : List Frame} {meth : Method} {c : Code} {G : zG} (Z : zF p s m args c meth cX8_clearPlaces 3 RX8 G) (hr : meth.sig.returnType = none) {out : zHp} {r2 : Nat → Int32 → Int32 → zHp → Option (zHp)} (k2 : ∀ {a0 : Nat} {a1 : Int32} {a2 : Int32} {h : zHp} {H : Heap} {locs : List Loc} {ls : Array Slot}, r2 a0 a1 a2 h = some out → zE G s h H locs → lv_has ls 3 [(0, .ref a0), (1, .int a1), (2, .int a2)] → W p l e rm_X8_clearPlaces s m args below meth c H locs 0 0 (MQ below (zQv G out) args s 0 0 (zA G)) (F0 m 2 ls [])) {a0 : Nat} {a1 : Int32} {a2 : Int32} {h : zHp} {H : Heap} {locs : List Loc} {ls : Array Slot} (hf : f_X8_clearPlaces_2_body r2 a0 a1 a2 h = some out) (E : zE G s h H locs) (hl : lv_has ls 3 [(0, .ref a0), (1, .int a1), (2, .int a2)]) : W p l e rm_X8_clearPlaces s m args below meth c H locs 0 0 (MQ below (zQv G out) args s 0 0 (zA G)) (F0 m 2 ls []) := by
  unfold f_X8_clearPlaces_2_body at hf
  refine lv_iload_n Z.x Z.b dX8_clearPlaces_2 rfl (lv_at hl 2 rfl) ?_
  refine lv_bipush (v := 12) Z.x Z.b dX8_clearPlaces_3 (by decide) ?_
  refine lv_icmp_ge (tgt := 21) Z.x Z.b dX8_clearPlaces_5 (by decide) (fun c => ?_) (fun c => ?_)
  · have hf := zit hf c
    exact z_vret Z E hr dX8_clearPlaces_21 hf
  · have hf := zif_ hf c
    refine lv_aload_n Z.x Z.b dX8_clearPlaces_8 rfl (lv_at hl 0 rfl) ?_
    refine lv_iload_n Z.x Z.b dX8_clearPlaces_9 rfl (lv_at hl 1 rfl) ?_
    refine lv_iload_n Z.x Z.b dX8_clearPlaces_10 rfl (lv_at hl 2 rfl) ?_
    refine lv_iconst (v := 0) Z.x Z.b dX8_clearPlaces_11 (by decide) ?_
    refine z_Vv (As := [.int a1, .int a2, .int 0]) Z E hl.1 k_X8_93 v_X8_setPlace hf (fun h' e => c_X8_setPlace l G h h' a0 a1 a2 0 e) rfl rfl (Nat.le_of_ble_eq_true rfl) (zRm_of rfl (Nat.zero_le _) (Nat.zero_le _)) dX8_clearPlaces_12 (fun h1 H locs hf E => ?_)
    refine lv_iinc (v := (a2 + 1)) (lv' := [(2, .int (a2 + 1)), (0, .ref a0), (1, .int a1)]) Z.x Z.b dX8_clearPlaces_15 hl (k := 2) rfl rfl (by decide) rfl (fun ls hl => ?_)
    refine lv_goto (tgt := 2) Z.x Z.b dX8_clearPlaces_18 (by decide) ?_
    exact k2 hf E (lv_sub hl [1, 2, 0] rfl)
theorem t_X8_clearPlaces_2 {p : Program} {l : Launch} {e : Env} {s : State} {m : MethodId} {args : Array Value} {below : List Frame} {meth : Method} {c : Code} {G : zG} (Z : zF p s m args c meth cX8_clearPlaces 3 RX8 G) (hr : meth.sig.returnType = none) {out : zHp} : ∀ (n : Nat), ∀ {a0 : Nat} {a1 : Int32} {a2 : Int32} {h : zHp} {H : Heap} {locs : List Loc} {ls : Array Slot}, f_X8_clearPlaces_2 n a0 a1 a2 h = some out → zE G s h H locs → lv_has ls 3 [(0, .ref a0), (1, .int a1), (2, .int a2)] → W p l e rm_X8_clearPlaces s m args below meth c H locs 0 0 (MQ below (zQv G out) args s 0 0 (zA G)) (F0 m 2 ls [])
  | 0 => fun hf => by cases hf
  | n + 1 => fun hf E hl => t_X8_clearPlaces_2_body Z hr (r2 := f_X8_clearPlaces_2 n) (t_X8_clearPlaces_2 Z hr n) hf E hl
set_option maxHeartbeats 4000000 in
set_option maxRecDepth 20000 in
theorem t_X8_clearPlaces {p : Program} {l : Launch} {e : Env} {s : State} {m : MethodId} {args : Array Value} {below : List Frame} {meth : Method} {c : Code} {G : zG} (Z : zF p s m args c meth cX8_clearPlaces 3 RX8 G) (hr : meth.sig.returnType = none) {out : zHp} {a0 : Nat} {a1 : Int32} {h : zHp} {H : Heap} {locs : List Loc} {ls : Array Slot} (hf : f_X8_clearPlaces a0 a1 h = some out) (E : zE G s h H locs) (hl : lv_has ls 3 [(0, .ref a0), (1, .int a1)]) : W p l e rm_X8_clearPlaces s m args below meth c H locs 0 0 (MQ below (zQv G out) args s 0 0 (zA G)) (F0 m 0 ls []) := by
  unfold f_X8_clearPlaces at hf
  refine lv_iconst (v := 0) Z.x Z.b dX8_clearPlaces_0 (by decide) ?_
  refine lv_istore_n (lv' := [(2, .int 0), (0, .ref a0), (1, .int a1)]) Z.x Z.b dX8_clearPlaces_1 rfl hl (by decide) rfl (fun ls hl => ?_)
  exact t_X8_clearPlaces_2 Z hr zN hf E (lv_sub hl [1, 2, 0] rfl)
set_option maxHeartbeats 4000000 in
set_option maxRecDepth 20000 in
theorem c_X8_clearPlaces (l : Launch) (G : zG) (h : zHp) (h' : zHp) (a0 : Nat) (a1 : Int32) (hf : f_X8_clearPlaces a0 a1 h = some h') : zM0 l yX8_clearPlaces cX8_clearPlaces 3 none rm_X8_clearPlaces G [.ref a0, .int a1] h (zQv G h') := by
  refine Met.ofW (cc := cX8_clearPlaces) (maxL := 3) (ret := none) (by decide) rfl ?_
  intro p e s m args below meth c s₁ B hml hv
  obtain ⟨rfl, hW⟩ := hv
  obtain ⟨Z, E, hr⟩ := zEnter (own := RX8) B hml rfl hW
  have hl := lv_entry ([.ref a0, .int a1]) (n := 3) (Nat.le_of_ble_eq_true rfl)
  rw [lg_entry_eq]
  generalize (lg_sl ([.ref a0, .int a1]) ++ List.replicate (3 - (lg_sl ([.ref a0, .int a1])).length) Slot.unset).toArray = ls at hl ⊢
  have hl : lv_has ls 3 [(0, .ref a0), (1, .int a1)] := hl
  exact t_X8_clearPlaces (out := h') Z hr hf E hl
/-! FerryCrewsModel.cancelNow(I)V -/
theorem dX8_cancelNow_0 : decode cX8_cancelNow 0 = .ok (.aload_n 0, 1) := by decide +kernel
theorem dX8_cancelNow_1 : decode cX8_cancelNow 1 = .ok (.iload_n 1, 1) := by decide +kernel
theorem dX8_cancelNow_2 : decode cX8_cancelNow 2 = .ok (.iconst 0, 1) := by decide +kernel
theorem dX8_cancelNow_3 : decode cX8_cancelNow 3 = .ok (.iconst 2, 1) := by decide +kernel
theorem dX8_cancelNow_4 : decode cX8_cancelNow 4 = .ok (.invokevirtual 107, 3) := by decide +kernel
theorem dX8_cancelNow_7 : decode cX8_cancelNow 7 = .ok (.aload_n 0, 1) := by decide +kernel
theorem dX8_cancelNow_8 : decode cX8_cancelNow 8 = .ok (.iload_n 1, 1) := by decide +kernel
theorem dX8_cancelNow_9 : decode cX8_cancelNow 9 = .ok (.invokevirtual 110, 3) := by decide +kernel
theorem dX8_cancelNow_12 : decode cX8_cancelNow 12 = .ok (.return_, 1) := by decide +kernel
set_option maxRecDepth 20000 in
theorem wc_X8_put : Cond.code yX8_put cX8_put 4 none ∈ zB := List.mem_filter.mpr ⟨List.mem_of_getElem? (i := 876) (by decide +kernel), by decide +kernel⟩
set_option maxRecDepth 20000 in
theorem wm_X8_107 : Cond.methodLink RX8 107 yX8_put ∈ zB := List.mem_filter.mpr ⟨List.mem_of_getElem? (i := 873) (by decide +kernel), by decide +kernel⟩
theorem k_X8_107 : zCal RX8 107 yX8_put cX8_put 4 none 3 := ⟨wm_X8_107, wi_X8, wc_X8_put, by decide +kernel, by decide +kernel, by decide +kernel⟩
set_option maxRecDepth 20000 in
theorem wn_X8_put : Cond.instanceMethod yX8_put ∈ zB := List.mem_filter.mpr ⟨List.mem_of_getElem? (i := 875) (by decide +kernel), by decide +kernel⟩
set_option maxRecDepth 20000 in
theorem ws_X8_put : Cond.selects RX8 yX8_put yX8_put ∈ zB := List.mem_filter.mpr ⟨List.mem_of_getElem? (i := 18) (by decide +kernel), by decide +kernel⟩
theorem v_X8_put : zVir yX8_put 8 := ⟨wn_X8_put, ws_X8_put, TX8, 12, rfl⟩
set_option maxRecDepth 20000 in
theorem wc_X8_clearPlaces : Cond.code yX8_clearPlaces cX8_clearPlaces 3 none ∈ zB := List.mem_filter.mpr ⟨List.mem_of_getElem? (i := 936) (by decide +kernel), by decide +kernel⟩
set_option maxRecDepth 20000 in
theorem wm_X8_110 : Cond.methodLink RX8 110 yX8_clearPlaces ∈ zB := List.mem_filter.mpr ⟨List.mem_of_getElem? (i := 933) (by decide +kernel), by decide +kernel⟩
theorem k_X8_110 : zCal RX8 110 yX8_clearPlaces cX8_clearPlaces 3 none 1 := ⟨wm_X8_110, wi_X8, wc_X8_clearPlaces, by decide +kernel, by decide +kernel, by decide +kernel⟩
set_option maxRecDepth 20000 in
theorem wn_X8_clearPlaces : Cond.instanceMethod yX8_clearPlaces ∈ zB := List.mem_filter.mpr ⟨List.mem_of_getElem? (i := 935) (by decide +kernel), by decide +kernel⟩
set_option maxRecDepth 20000 in
theorem ws_X8_clearPlaces : Cond.selects RX8 yX8_clearPlaces yX8_clearPlaces ∈ zB := List.mem_filter.mpr ⟨List.mem_of_getElem? (i := 31) (by decide +kernel), by decide +kernel⟩
theorem v_X8_clearPlaces : zVir yX8_clearPlaces 8 := ⟨wn_X8_clearPlaces, ws_X8_clearPlaces, TX8, 12, rfl⟩
def rm_X8_cancelNow : Room := { frames := 2, cells := 0, slots := 0, locals := 45 }
set_option maxHeartbeats 4000000 in
set_option maxRecDepth 20000 in
theorem t_X8_cancelNow {p : Program} {l : Launch} {e : Env} {s : State} {m : MethodId} {args : Array Value} {below : List Frame} {meth : Method} {c : Code} {G : zG} (Z : zF p s m args c meth cX8_cancelNow 2 RX8 G) (hr : meth.sig.returnType = none) {out : zHp} {a0 : Nat} {a1 : Int32} {h : zHp} {H : Heap} {locs : List Loc} {ls : Array Slot} (hf : f_X8_cancelNow a0 a1 h = some out) (E : zE G s h H locs) (hl : lv_has ls 2 [(0, .ref a0), (1, .int a1)]) : W p l e rm_X8_cancelNow s m args below meth c H locs 0 0 (MQ below (zQv G out) args s 0 0 (zA G)) (F0 m 0 ls []) := by
  unfold f_X8_cancelNow at hf
  refine lv_aload_n Z.x Z.b dX8_cancelNow_0 rfl (lv_at hl 0 rfl) ?_
  refine lv_iload_n Z.x Z.b dX8_cancelNow_1 rfl (lv_at hl 1 rfl) ?_
  refine lv_iconst (v := 0) Z.x Z.b dX8_cancelNow_2 (by decide) ?_
  refine lv_iconst (v := 2) Z.x Z.b dX8_cancelNow_3 (by decide) ?_
  refine z_Vv (As := [.int a1, .int 0, .int 2]) Z E hl.1 k_X8_107 v_X8_put hf (fun h' e => c_X8_put l G h h' a0 a1 0 2 e) rfl rfl (Nat.le_of_ble_eq_true rfl) (zRm_of rfl (Nat.zero_le _) (Nat.zero_le _)) dX8_cancelNow_4 (fun h1 H locs hf E => ?_)
  refine lv_aload_n Z.x Z.b dX8_cancelNow_7 rfl (lv_at hl 0 rfl) ?_
  refine lv_iload_n Z.x Z.b dX8_cancelNow_8 rfl (lv_at hl 1 rfl) ?_
  refine z_Vv (As := [.int a1]) Z E hl.1 k_X8_110 v_X8_clearPlaces hf (fun h' e => c_X8_clearPlaces l G h1 h' a0 a1 e) rfl rfl (Nat.le_of_ble_eq_true rfl) (zRm_of rfl (Nat.zero_le _) (Nat.zero_le _)) dX8_cancelNow_9 (fun h2 H locs hf E => ?_)
  exact z_vret Z E hr dX8_cancelNow_12 hf
set_option maxHeartbeats 4000000 in
set_option maxRecDepth 20000 in
theorem c_X8_cancelNow (l : Launch) (G : zG) (h : zHp) (h' : zHp) (a0 : Nat) (a1 : Int32) (hf : f_X8_cancelNow a0 a1 h = some h') : zM0 l yX8_cancelNow cX8_cancelNow 2 none rm_X8_cancelNow G [.ref a0, .int a1] h (zQv G h') := by
  refine Met.ofW (cc := cX8_cancelNow) (maxL := 2) (ret := none) (by decide) rfl ?_
  intro p e s m args below meth c s₁ B hml hv
  obtain ⟨rfl, hW⟩ := hv
  obtain ⟨Z, E, hr⟩ := zEnter (own := RX8) B hml rfl hW
  have hl := lv_entry ([.ref a0, .int a1]) (n := 2) (Nat.le_of_ble_eq_true rfl)
  rw [lg_entry_eq]
  generalize (lg_sl ([.ref a0, .int a1]) ++ List.replicate (2 - (lg_sl ([.ref a0, .int a1])).length) Slot.unset).toArray = ls at hl ⊢
  have hl : lv_has ls 2 [(0, .ref a0), (1, .int a1)] := hl
  exact t_X8_cancelNow (out := h') Z hr hf E hl
