/-! FerryCrews$Ladder.memberOfRank(I)I -/
theorem dX2_memberOfRank_0 : decode cX2_memberOfRank 0 = .ok (.iload_n 1, 1) := by decide +kernel
theorem dX2_memberOfRank_1 : decode cX2_memberOfRank 1 = .ok (.ifCond .lt 26, 3) := by decide +kernel
theorem dX2_memberOfRank_4 : decode cX2_memberOfRank 4 = .ok (.iload_n 1, 1) := by decide +kernel
theorem dX2_memberOfRank_5 : decode cX2_memberOfRank 5 = .ok (.aload_n 0, 1) := by decide +kernel
theorem dX2_memberOfRank_6 : decode cX2_memberOfRank 6 = .ok (.getfield 21, 3) := by decide +kernel
theorem dX2_memberOfRank_9 : decode cX2_memberOfRank 9 = .ok (.if_icmp .ge 18, 3) := by decide +kernel
theorem dX2_memberOfRank_12 : decode cX2_memberOfRank 12 = .ok (.iload_n 1, 1) := by decide +kernel
theorem dX2_memberOfRank_13 : decode cX2_memberOfRank 13 = .ok (.bipush 12, 2) := by decide +kernel
theorem dX2_memberOfRank_15 : decode cX2_memberOfRank 15 = .ok (.if_icmp .ge 12, 3) := by decide +kernel
theorem dX2_memberOfRank_18 : decode cX2_memberOfRank 18 = .ok (.aload_n 0, 1) := by decide +kernel
theorem dX2_memberOfRank_19 : decode cX2_memberOfRank 19 = .ok (.getfield 9, 3) := by decide +kernel
theorem dX2_memberOfRank_22 : decode cX2_memberOfRank 22 = .ok (.iload_n 1, 1) := by decide +kernel
theorem dX2_memberOfRank_23 : decode cX2_memberOfRank 23 = .ok (.iaload, 1) := by decide +kernel
theorem dX2_memberOfRank_24 : decode cX2_memberOfRank 24 = .ok (.goto 5, 3) := by decide +kernel
theorem dX2_memberOfRank_27 : decode cX2_memberOfRank 27 = .ok (.bipush (-5), 2) := by decide +kernel
theorem dX2_memberOfRank_29 : decode cX2_memberOfRank 29 = .ok (.ireturn, 1) := by decide +kernel
def rm_X2_memberOfRank : Room := { frames := 0, cells := 0, slots := 0, locals := 0 }
set_option maxHeartbeats 4000000 in
set_option maxRecDepth 20000 in
theorem t_X2_memberOfRank_27 {p : Program} {l : Launch} {e : Env} {s : State} {m : MethodId} {args : Array Value} {below : List Frame} {meth : Method} {c : Code} {G : zG} (Z : zF p s m args c meth cX2_memberOfRank 2 RX2 G) (hr : meth.sig.returnType = (some .int)) {out : Int32 × zHp} {h : zHp} {H : Heap} {locs : List Loc} {ls : Array Slot} (hf : f_X2_memberOfRank_27 h = some out) (E : zE G s h H locs) (hl : lv_has ls 2 []) : W p l e rm_X2_memberOfRank s m args below meth c H locs 0 0 (MQ below (zQi G out.1 out.2) args s 0 0 (zA G)) (F0 m 27 ls []) := by
  unfold f_X2_memberOfRank_27 at hf
  refine lv_bipush (v := (-5)) Z.x Z.b dX2_memberOfRank_27 (by decide) ?_
  exact z_iret Z E hr dX2_memberOfRank_29 hf
set_option maxHeartbeats 4000000 in
set_option maxRecDepth 20000 in
theorem t_X2_memberOfRank {p : Program} {l : Launch} {e : Env} {s : State} {m : MethodId} {args : Array Value} {below : List Frame} {meth : Method} {c : Code} {G : zG} (Z : zF p s m args c meth cX2_memberOfRank 2 RX2 G) (hr : meth.sig.returnType = (some .int)) {out : Int32 × zHp} {a0 : Nat} {a1 : Int32} {h : zHp} {H : Heap} {locs : List Loc} {ls : Array Slot} (hf : f_X2_memberOfRank a0 a1 h = some out) (E : zE G s h H locs) (hl : lv_has ls 2 [(0, .ref a0), (1, .int a1)]) : W p l e rm_X2_memberOfRank s m args below meth c H locs 0 0 (MQ below (zQi G out.1 out.2) args s 0 0 (zA G)) (F0 m 0 ls []) := by
  unfold f_X2_memberOfRank at hf
  refine lv_iload_n Z.x Z.b dX2_memberOfRank_0 rfl (lv_at hl 1 rfl) ?_
  refine lv_if_lt (tgt := 27) Z.x Z.b dX2_memberOfRank_1 (by decide) (fun c => ?_) (fun c => ?_)
  · have hf := zit hf c
    exact t_X2_memberOfRank_27 Z hr hf E (lv_sub hl [] rfl)
  · have hf := zif_ hf c
    refine lv_iload_n Z.x Z.b dX2_memberOfRank_4 rfl (lv_at hl 1 rfl) ?_
    refine lv_aload_n Z.x Z.b dX2_memberOfRank_5 rfl (lv_at hl 0 rfl) ?_
    refine z_getI Z E q_X2_21 dX2_memberOfRank_6 hf (fun v1 hf => ?_)
    refine lv_icmp_ge (tgt := 27) Z.x Z.b dX2_memberOfRank_9 (by decide) (fun c => ?_) (fun c => ?_)
    · have hf := zit hf c
      exact t_X2_memberOfRank_27 Z hr hf E (lv_sub hl [] rfl)
    · have hf := zif_ hf c
      refine lv_iload_n Z.x Z.b dX2_memberOfRank_12 rfl (lv_at hl 1 rfl) ?_
      refine lv_bipush (v := 12) Z.x Z.b dX2_memberOfRank_13 (by decide) ?_
      refine lv_icmp_ge (tgt := 27) Z.x Z.b dX2_memberOfRank_15 (by decide) (fun c => ?_) (fun c => ?_)
      · have hf := zit hf c
        exact t_X2_memberOfRank_27 Z hr hf E (lv_sub hl [] rfl)
      · have hf := zif_ hf c
        refine lv_aload_n Z.x Z.b dX2_memberOfRank_18 rfl (lv_at hl 0 rfl) ?_
        refine z_getR Z E q_X2_9 dX2_memberOfRank_19 hf (fun v2 hf => ?_)
        refine lv_iload_n Z.x Z.b dX2_memberOfRank_22 rfl (lv_at hl 1 rfl) ?_
        refine z_iald Z E dX2_memberOfRank_23 hf (fun v3 hf => ?_)
        refine lv_goto (tgt := 29) Z.x Z.b dX2_memberOfRank_24 (by decide) ?_
        exact z_iret Z E hr dX2_memberOfRank_29 hf
set_option maxHeartbeats 4000000 in
set_option maxRecDepth 20000 in
theorem c_X2_memberOfRank (l : Launch) (G : zG) (h : zHp) (h' : zHp) (a0 : Nat) (a1 : Int32) (r : Int32) (hf : f_X2_memberOfRank a0 a1 h = some (r, h')) : zM0 l yX2_memberOfRank cX2_memberOfRank 2 (some .int) rm_X2_memberOfRank G [.ref a0, .int a1] h (zQi G r h') := by
  refine Met.ofW (cc := cX2_memberOfRank) (maxL := 2) (ret := (some .int)) (by decide) rfl ?_
  intro p e s m args below meth c s₁ B hml hv
  obtain ⟨rfl, hW⟩ := hv
  obtain ⟨Z, E, hr⟩ := zEnter (own := RX2) B hml rfl hW
  have hl := lv_entry ([.ref a0, .int a1]) (n := 2) (Nat.le_of_ble_eq_true rfl)
  rw [lg_entry_eq]
  generalize (lg_sl ([.ref a0, .int a1]) ++ List.replicate (2 - (lg_sl ([.ref a0, .int a1])).length) Slot.unset).toArray = ls at hl ⊢
  have hl : lv_has ls 2 [(0, .ref a0), (1, .int a1)] := hl
  exact t_X2_memberOfRank (out := (r, h')) Z hr hf E hl
/-! FerryCrews$Ladder.has(I)Z -/
theorem dX2_has_0 : decode cX2_has 0 = .ok (.iconst 0, 1) := by decide +kernel
theorem dX2_has_1 : decode cX2_has 1 = .ok (.istore_n 2, 1) := by decide +kernel
theorem dX2_has_2 : decode cX2_has 2 = .ok (.iload_n 2, 1) := by decide +kernel
theorem dX2_has_3 : decode cX2_has 3 = .ok (.aload_n 0, 1) := by decide +kernel
theorem dX2_has_4 : decode cX2_has 4 = .ok (.getfield 21, 3) := by decide +kernel
theorem dX2_has_7 : decode cX2_has 7 = .ok (.if_icmp .ge 20, 3) := by decide +kernel
theorem dX2_has_10 : decode cX2_has 10 = .ok (.aload_n 0, 1) := by decide +kernel
theorem dX2_has_11 : decode cX2_has 11 = .ok (.iload_n 2, 1) := by decide +kernel
theorem dX2_has_12 : decode cX2_has 12 = .ok (.invokevirtual 25, 3) := by decide +kernel
theorem dX2_has_15 : decode cX2_has 15 = .ok (.iload_n 1, 1) := by decide +kernel
theorem dX2_has_16 : decode cX2_has 16 = .ok (.if_icmp .ne 5, 3) := by decide +kernel
theorem dX2_has_19 : decode cX2_has 19 = .ok (.iconst 1, 1) := by decide +kernel
theorem dX2_has_20 : decode cX2_has 20 = .ok (.ireturn, 1) := by decide +kernel
theorem dX2_has_21 : decode cX2_has 21 = .ok (.iinc 2 1, 3) := by decide +kernel
theorem dX2_has_24 : decode cX2_has 24 = .ok (.goto (-22), 3) := by decide +kernel
theorem dX2_has_27 : decode cX2_has 27 = .ok (.iconst 0, 1) := by decide +kernel
theorem dX2_has_28 : decode cX2_has 28 = .ok (.ireturn, 1) := by decide +kernel
set_option maxRecDepth 20000 in
theorem wc_X2_memberOfRank : Cond.code yX2_memberOfRank cX2_memberOfRank 2 (some .int) ∈ zB := List.mem_filter.mpr ⟨List.mem_of_getElem? (i := 283) (by decide +kernel), by decide +kernel⟩
set_option maxRecDepth 20000 in
theorem wm_X2_25 : Cond.methodLink RX2 25 yX2_memberOfRank ∈ zB := List.mem_filter.mpr ⟨List.mem_of_getElem? (i := 579) (by decide +kernel), by decide +kernel⟩
theorem k_X2_25 : zCal RX2 25 yX2_memberOfRank cX2_memberOfRank 2 (some .int) 1 := ⟨wm_X2_25, wi_X2, wc_X2_memberOfRank, by decide +kernel, by decide +kernel, by decide +kernel⟩
set_option maxRecDepth 20000 in
theorem wn_X2_memberOfRank : Cond.instanceMethod yX2_memberOfRank ∈ zB := List.mem_filter.mpr ⟨List.mem_of_getElem? (i := 281) (by decide +kernel), by decide +kernel⟩
set_option maxRecDepth 20000 in
theorem ws_X2_memberOfRank : Cond.selects RX2 yX2_memberOfRank yX2_memberOfRank ∈ zB := List.mem_filter.mpr ⟨List.mem_of_getElem? (i := 282) (by decide +kernel), by decide +kernel⟩
theorem v_X2_memberOfRank : zVir yX2_memberOfRank 2 := ⟨wn_X2_memberOfRank, ws_X2_memberOfRank, TX2, 2, rfl⟩
def rm_X2_has : Room := { frames := 1, cells := 0, slots := 0, locals := 21 }
set_option maxHeartbeats 4000000 in
set_option maxRecDepth 20000 in
theorem t_X2_has_2_body {p : Program} {l : Launch} {e : Env} {s : State} {m : MethodId} {args : Array Value} {below : List Frame} {meth : Method} {c : Code} {G : zG} (Z : zF p s m args c meth cX2_has 3 RX2 G) (hr : meth.sig.returnType = (some .boolean)) {out : Int32 × zHp} {r2 : Nat → Int32 → Int32 → zHp → Option (Int32 × zHp)} (k2 : ∀ {a0 : Nat} {a1 : Int32} {a2 : Int32} {h : zHp} {H : Heap} {locs : List Loc} {ls : Array Slot}, r2 a0 a1 a2 h = some out → zE G s h H locs → lv_has ls 3 [(0, .ref a0), (1, .int a1), (2, .int a2)] → W p l e rm_X2_has s m args below meth c H locs 0 0 (MQ below (zQi G out.1 out.2) args s 0 0 (zA G)) (F0 m 2 ls [])) {a0 : Nat} {a1 : Int32} {a2 : Int32} {h : zHp} {H : Heap} {locs : List Loc} {ls : Array Slot} (hf : f_X2_has_2_body r2 a0 a1 a2 h = some out) (E : zE G s h H locs) (hl : lv_has ls 3 [(0, .ref a0), (1, .int a1), (2, .int a2)]) : W p l e rm_X2_has s m args below meth c H locs 0 0 (MQ below (zQi G out.1 out.2) args s 0 0 (zA G)) (F0 m 2 ls []) := by
  unfold f_X2_has_2_body at hf
  refine lv_iload_n Z.x Z.b dX2_has_2 rfl (lv_at hl 2 rfl) ?_
  refine lv_aload_n Z.x Z.b dX2_has_3 rfl (lv_at hl 0 rfl) ?_
  refine z_getI Z E q_X2_21 dX2_has_4 hf (fun v1 hf => ?_)
  refine lv_icmp_ge (tgt := 27) Z.x Z.b dX2_has_7 (by decide) (fun c => ?_) (fun c => ?_)
  · have hf := zit hf c
    refine lv_iconst (v := 0) Z.x Z.b dX2_has_27 (by decide) ?_
    exact z_zret Z E hr dX2_has_28 hf
  · have hf := zif_ hf c
    refine lv_aload_n Z.x Z.b dX2_has_10 rfl (lv_at hl 0 rfl) ?_
    refine lv_iload_n Z.x Z.b dX2_has_11 rfl (lv_at hl 2 rfl) ?_
    refine z_Vi (As := [.int a2]) Z E hl.1 k_X2_25 v_X2_memberOfRank hf (fun r h' e => c_X2_memberOfRank l G h h' a0 a2 r e) rfl rfl (Nat.le_of_ble_eq_true rfl) (zRm_of rfl (Nat.zero_le _) (Nat.zero_le _)) dX2_has_12 (fun v2 h3 H locs hf E => ?_)
    refine lv_iload_n Z.x Z.b dX2_has_15 rfl (lv_at hl 1 rfl) ?_
    refine lv_icmp_ne (tgt := 21) Z.x Z.b dX2_has_16 (by decide) (fun c => ?_) (fun c => ?_)
    · have hf := zif_ hf c
      refine lv_iinc (v := (a2 + 1)) (lv' := [(2, .int (a2 + 1)), (0, .ref a0), (1, .int a1)]) Z.x Z.b dX2_has_21 hl (k := 2) rfl rfl (by decide) rfl (fun ls hl => ?_)
      refine lv_goto (tgt := 2) Z.x Z.b dX2_has_24 (by decide) ?_
      exact k2 hf E (lv_sub hl [1, 2, 0] rfl)
    · have hf := zit hf c
      refine lv_iconst (v := 1) Z.x Z.b dX2_has_19 (by decide) ?_
      exact z_zret Z E hr dX2_has_20 hf
theorem t_X2_has_2 {p : Program} {l : Launch} {e : Env} {s : State} {m : MethodId} {args : Array Value} {below : List Frame} {meth : Method} {c : Code} {G : zG} (Z : zF p s m args c meth cX2_has 3 RX2 G) (hr : meth.sig.returnType = (some .boolean)) {out : Int32 × zHp} : ∀ (n : Nat), ∀ {a0 : Nat} {a1 : Int32} {a2 : Int32} {h : zHp} {H : Heap} {locs : List Loc} {ls : Array Slot}, f_X2_has_2 n a0 a1 a2 h = some out → zE G s h H locs → lv_has ls 3 [(0, .ref a0), (1, .int a1), (2, .int a2)] → W p l e rm_X2_has s m args below meth c H locs 0 0 (MQ below (zQi G out.1 out.2) args s 0 0 (zA G)) (F0 m 2 ls [])
  | 0 => fun hf => by cases hf
  | n + 1 => fun hf E hl => t_X2_has_2_body Z hr (r2 := f_X2_has_2 n) (t_X2_has_2 Z hr n) hf E hl
set_option maxHeartbeats 4000000 in
set_option maxRecDepth 20000 in
theorem t_X2_has {p : Program} {l : Launch} {e : Env} {s : State} {m : MethodId} {args : Array Value} {below : List Frame} {meth : Method} {c : Code} {G : zG} (Z : zF p s m args c meth cX2_has 3 RX2 G) (hr : meth.sig.returnType = (some .boolean)) {out : Int32 × zHp} {a0 : Nat} {a1 : Int32} {h : zHp} {H : Heap} {locs : List Loc} {ls : Array Slot} (hf : f_X2_has a0 a1 h = some out) (E : zE G s h H locs) (hl : lv_has ls 3 [(0, .ref a0), (1, .int a1)]) : W p l e rm_X2_has s m args below meth c H locs 0 0 (MQ below (zQi G out.1 out.2) args s 0 0 (zA G)) (F0 m 0 ls []) := by
  unfold f_X2_has at hf
  refine lv_iconst (v := 0) Z.x Z.b dX2_has_0 (by decide) ?_
  refine lv_istore_n (lv' := [(2, .int 0), (0, .ref a0), (1, .int a1)]) Z.x Z.b dX2_has_1 rfl hl (by decide) rfl (fun ls hl => ?_)
  exact t_X2_has_2 Z hr zN hf E (lv_sub hl [1, 2, 0] rfl)
set_option maxHeartbeats 4000000 in
set_option maxRecDepth 20000 in
theorem c_X2_has (l : Launch) (G : zG) (h : zHp) (h' : zHp) (a0 : Nat) (a1 : Int32) (r : Int32) (hf : f_X2_has a0 a1 h = some (r, h')) : zM0 l yX2_has cX2_has 3 (some .boolean) rm_X2_has G [.ref a0, .int a1] h (zQi G r h') := by
  refine Met.ofW (cc := cX2_has) (maxL := 3) (ret := (some .boolean)) (by decide) rfl ?_
  intro p e s m args below meth c s₁ B hml hv
  obtain ⟨rfl, hW⟩ := hv
  obtain ⟨Z, E, hr⟩ := zEnter (own := RX2) B hml rfl hW
  have hl := lv_entry ([.ref a0, .int a1]) (n := 3) (Nat.le_of_ble_eq_true rfl)
  rw [lg_entry_eq]
  generalize (lg_sl ([.ref a0, .int a1]) ++ List.replicate (3 - (lg_sl ([.ref a0, .int a1])).length) Slot.unset).toArray = ls at hl ⊢
  have hl : lv_has ls 3 [(0, .ref a0), (1, .int a1)] := hl
  exact t_X2_has (out := (r, h')) Z hr hf E hl
/-! FerryCrews$Ladder.takeOff(I)I -/
theorem dX2_takeOff_0 : decode cX2_takeOff 0 = .ok (.iconst 0, 1) := by decide +kernel
theorem dX2_takeOff_1 : decode cX2_takeOff 1 = .ok (.istore_n 2, 1) := by decide +kernel
theorem dX2_takeOff_2 : decode cX2_takeOff 2 = .ok (.iconst 0, 1) := by decide +kernel
theorem dX2_takeOff_3 : decode cX2_takeOff 3 = .ok (.istore_n 3, 1) := by decide +kernel
theorem dX2_takeOff_4 : decode cX2_takeOff 4 = .ok (.iload_n 3, 1) := by decide +kernel
theorem dX2_takeOff_5 : decode cX2_takeOff 5 = .ok (.aload_n 0, 1) := by decide +kernel
theorem dX2_takeOff_6 : decode cX2_takeOff 6 = .ok (.getfield 21, 3) := by decide +kernel
theorem dX2_takeOff_9 : decode cX2_takeOff 9 = .ok (.if_icmp .ge 52, 3) := by decide +kernel
theorem dX2_takeOff_12 : decode cX2_takeOff 12 = .ok (.iload_n 3, 1) := by decide +kernel
theorem dX2_takeOff_13 : decode cX2_takeOff 13 = .ok (.bipush 12, 2) := by decide +kernel
theorem dX2_takeOff_15 : decode cX2_takeOff 15 = .ok (.if_icmp .ge 46, 3) := by decide +kernel
theorem dX2_takeOff_18 : decode cX2_takeOff 18 = .ok (.iload_n 2, 1) := by decide +kernel
theorem dX2_takeOff_19 : decode cX2_takeOff 19 = .ok (.ifCond .eq 24, 3) := by decide +kernel
theorem dX2_takeOff_22 : decode cX2_takeOff 22 = .ok (.iload_n 3, 1) := by decide +kernel
theorem dX2_takeOff_23 : decode cX2_takeOff 23 = .ok (.ifCond .le 20, 3) := by decide +kernel
theorem dX2_takeOff_26 : decode cX2_takeOff 26 = .ok (.aload_n 0, 1) := by decide +kernel
theorem dX2_takeOff_27 : decode cX2_takeOff 27 = .ok (.getfield 9, 3) := by decide +kernel
theorem dX2_takeOff_30 : decode cX2_takeOff 30 = .ok (.iload_n 3, 1) := by decide +kernel
theorem dX2_takeOff_31 : decode cX2_takeOff 31 = .ok (.iconst 1, 1) := by decide +kernel
theorem dX2_takeOff_32 : decode cX2_takeOff 32 = .ok (.isub, 1) := by decide +kernel
theorem dX2_takeOff_33 : decode cX2_takeOff 33 = .ok (.aload_n 0, 1) := by decide +kernel
theorem dX2_takeOff_34 : decode cX2_takeOff 34 = .ok (.getfield 9, 3) := by decide +kernel
theorem dX2_takeOff_37 : decode cX2_takeOff 37 = .ok (.iload_n 3, 1) := by decide +kernel
theorem dX2_takeOff_38 : decode cX2_takeOff 38 = .ok (.iaload, 1) := by decide +kernel
theorem dX2_takeOff_39 : decode cX2_takeOff 39 = .ok (.iastore, 1) := by decide +kernel
theorem dX2_takeOff_40 : decode cX2_takeOff 40 = .ok (.goto 15, 3) := by decide +kernel
theorem dX2_takeOff_43 : decode cX2_takeOff 43 = .ok (.aload_n 0, 1) := by decide +kernel
theorem dX2_takeOff_44 : decode cX2_takeOff 44 = .ok (.getfield 9, 3) := by decide +kernel
theorem dX2_takeOff_47 : decode cX2_takeOff 47 = .ok (.iload_n 3, 1) := by decide +kernel
theorem dX2_takeOff_48 : decode cX2_takeOff 48 = .ok (.iaload, 1) := by decide +kernel
theorem dX2_takeOff_49 : decode cX2_takeOff 49 = .ok (.iload_n 1, 1) := by decide +kernel
theorem dX2_takeOff_50 : decode cX2_takeOff 50 = .ok (.if_icmp .ne 5, 3) := by decide +kernel
theorem dX2_takeOff_53 : decode cX2_takeOff 53 = .ok (.iconst 1, 1) := by decide +kernel
theorem dX2_takeOff_54 : decode cX2_takeOff 54 = .ok (.istore_n 2, 1) := by decide +kernel
theorem dX2_takeOff_55 : decode cX2_takeOff 55 = .ok (.iinc 3 1, 3) := by decide +kernel
theorem dX2_takeOff_58 : decode cX2_takeOff 58 = .ok (.goto (-54), 3) := by decide +kernel
theorem dX2_takeOff_61 : decode cX2_takeOff 61 = .ok (.iload_n 2, 1) := by decide +kernel
theorem dX2_takeOff_62 : decode cX2_takeOff 62 = .ok (.ifCond .eq 13, 3) := by decide +kernel
theorem dX2_takeOff_65 : decode cX2_takeOff 65 = .ok (.aload_n 0, 1) := by decide +kernel
theorem dX2_takeOff_66 : decode cX2_takeOff 66 = .ok (.dup, 1) := by decide +kernel
theorem dX2_takeOff_67 : decode cX2_takeOff 67 = .ok (.getfield 21, 3) := by decide +kernel
theorem dX2_takeOff_70 : decode cX2_takeOff 70 = .ok (.iconst 1, 1) := by decide +kernel
theorem dX2_takeOff_71 : decode cX2_takeOff 71 = .ok (.isub, 1) := by decide +kernel
theorem dX2_takeOff_72 : decode cX2_takeOff 72 = .ok (.putfield 21, 3) := by decide +kernel
theorem dX2_takeOff_75 : decode cX2_takeOff 75 = .ok (.aload_n 0, 1) := by decide +kernel
theorem dX2_takeOff_76 : decode cX2_takeOff 76 = .ok (.getfield 21, 3) := by decide +kernel
theorem dX2_takeOff_79 : decode cX2_takeOff 79 = .ok (.ireturn, 1) := by decide +kernel
def rm_X2_takeOff : Room := { frames := 0, cells := 0, slots := 0, locals := 0 }
set_option maxHeartbeats 4000000 in
set_option maxRecDepth 20000 in
theorem t_X2_takeOff_61 {p : Program} {l : Launch} {e : Env} {s : State} {m : MethodId} {args : Array Value} {below : List Frame} {meth : Method} {c : Code} {G : zG} (Z : zF p s m args c meth cX2_takeOff 4 RX2 G) (hr : meth.sig.returnType = (some .int)) {out : Int32 × zHp} {a0 : Nat} {a2 : Int32} {h : zHp} {H : Heap} {locs : List Loc} {ls : Array Slot} (hf : f_X2_takeOff_61 a0 a2 h = some out) (E : zE G s h H locs) (hl : lv_has ls 4 [(0, .ref a0), (2, .int a2)]) : W p l e rm_X2_takeOff s m args below meth c H locs 0 0 (MQ below (zQi G out.1 out.2) args s 0 0 (zA G)) (F0 m 61 ls []) := by
  unfold f_X2_takeOff_61 at hf
  refine lv_iload_n Z.x Z.b dX2_takeOff_61 rfl (lv_at hl 1 rfl) ?_
  refine lv_if_eq (tgt := 75) Z.x Z.b dX2_takeOff_62 (by decide) (fun c => ?_) (fun c => ?_)
  · have hf := zit hf c
    refine lv_aload_n Z.x Z.b dX2_takeOff_75 rfl (lv_at hl 0 rfl) ?_
    refine z_getI Z E q_X2_21 dX2_takeOff_76 hf (fun v1 hf => ?_)
    exact z_iret Z E hr dX2_takeOff_79 hf
  · have hf := zif_ hf c
    refine lv_aload_n Z.x Z.b dX2_takeOff_65 rfl (lv_at hl 0 rfl) ?_
    refine lv_dup Z.x Z.b dX2_takeOff_66 rfl ?_
    refine z_getI Z E q_X2_21 dX2_takeOff_67 hf (fun v2 hf => ?_)
    refine lv_iconst (v := 1) Z.x Z.b dX2_takeOff_70 (by decide) ?_
    refine lv_isub Z.x Z.b dX2_takeOff_71 ?_
    refine z_put Z E p_X2_21 rfl rfl dX2_takeOff_72 hf (fun h3 H locs hf E => ?_)
    refine lv_aload_n Z.x Z.b dX2_takeOff_75 rfl (lv_at hl 0 rfl) ?_
    refine z_getI Z E q_X2_21 dX2_takeOff_76 hf (fun v4 hf => ?_)
    exact z_iret Z E hr dX2_takeOff_79 hf
set_option maxHeartbeats 4000000 in
set_option maxRecDepth 20000 in
theorem t_X2_takeOff_55 {p : Program} {l : Launch} {e : Env} {s : State} {m : MethodId} {args : Array Value} {below : List Frame} {meth : Method} {c : Code} {G : zG} (Z : zF p s m args c meth cX2_takeOff 4 RX2 G) (hr : meth.sig.returnType = (some .int)) {out : Int32 × zHp} {r4 : Nat → Int32 → Int32 → Int32 → zHp → Option (Int32 × zHp)} (k4 : ∀ {a0 : Nat} {a1 : Int32} {a2 : Int32} {a3 : Int32} {h : zHp} {H : Heap} {locs : List Loc} {ls : Array Slot}, r4 a0 a1 a2 a3 h = some out → zE G s h H locs → lv_has ls 4 [(0, .ref a0), (1, .int a1), (2, .int a2), (3, .int a3)] → W p l e rm_X2_takeOff s m args below meth c H locs 0 0 (MQ below (zQi G out.1 out.2) args s 0 0 (zA G)) (F0 m 4 ls [])) {a0 : Nat} {a1 : Int32} {a2 : Int32} {a3 : Int32} {h : zHp} {H : Heap} {locs : List Loc} {ls : Array Slot} (hf : f_X2_takeOff_55 r4 a0 a1 a2 a3 h = some out) (E : zE G s h H locs) (hl : lv_has ls 4 [(0, .ref a0), (1, .int a1), (2, .int a2), (3, .int a3)]) : W p l e rm_X2_takeOff s m args below meth c H locs 0 0 (MQ below (zQi G out.1 out.2) args s 0 0 (zA G)) (F0 m 55 ls []) := by
  unfold f_X2_takeOff_55 at hf
  refine lv_iinc (v := (a3 + 1)) (lv' := [(3, .int (a3 + 1)), (0, .ref a0), (1, .int a1), (2, .int a2)]) Z.x Z.b dX2_takeOff_55 hl (k := 3) rfl rfl (by decide) rfl (fun ls hl => ?_)
  refine lv_goto (tgt := 4) Z.x Z.b dX2_takeOff_58 (by decide) ?_
  exact k4 hf E (lv_sub hl [1, 2, 3, 0] rfl)
set_option maxHeartbeats 4000000 in
set_option maxRecDepth 20000 in
theorem t_X2_takeOff_43 {p : Program} {l : Launch} {e : Env} {s : State} {m : MethodId} {args : Array Value} {below : List Frame} {meth : Method} {c : Code} {G : zG} (Z : zF p s m args c meth cX2_takeOff 4 RX2 G) (hr : meth.sig.returnType = (some .int)) {out : Int32 × zHp} {r4 : Nat → Int32 → Int32 → Int32 → zHp → Option (Int32 × zHp)} (k4 : ∀ {a0 : Nat} {a1 : Int32} {a2 : Int32} {a3 : Int32} {h : zHp} {H : Heap} {locs : List Loc} {ls : Array Slot}, r4 a0 a1 a2 a3 h = some out → zE G s h H locs → lv_has ls 4 [(0, .ref a0), (1, .int a1), (2, .int a2), (3, .int a3)] → W p l e rm_X2_takeOff s m args below meth c H locs 0 0 (MQ below (zQi G out.1 out.2) args s 0 0 (zA G)) (F0 m 4 ls [])) {a0 : Nat} {a1 : Int32} {a2 : Int32} {a3 : Int32} {h : zHp} {H : Heap} {locs : List Loc} {ls : Array Slot} (hf : f_X2_takeOff_43 r4 a0 a1 a2 a3 h = some out) (E : zE G s h H locs) (hl : lv_has ls 4 [(0, .ref a0), (1, .int a1), (2, .int a2), (3, .int a3)]) : W p l e rm_X2_takeOff s m args below meth c H locs 0 0 (MQ below (zQi G out.1 out.2) args s 0 0 (zA G)) (F0 m 43 ls []) := by
  unfold f_X2_takeOff_43 at hf
  refine lv_aload_n Z.x Z.b dX2_takeOff_43 rfl (lv_at hl 0 rfl) ?_
  refine z_getR Z E q_X2_9 dX2_takeOff_44 hf (fun v1 hf => ?_)
  refine lv_iload_n Z.x Z.b dX2_takeOff_47 rfl (lv_at hl 3 rfl) ?_
  refine z_iald Z E dX2_takeOff_48 hf (fun v2 hf => ?_)
  refine lv_iload_n Z.x Z.b dX2_takeOff_49 rfl (lv_at hl 1 rfl) ?_
  refine lv_icmp_ne (tgt := 55) Z.x Z.b dX2_takeOff_50 (by decide) (fun c => ?_) (fun c => ?_)
  · have hf := zif_ hf c
    exact t_X2_takeOff_55 Z hr k4 hf E (lv_sub hl [0, 1, 2, 3] rfl)
  · have hf := zit hf c
    refine lv_iconst (v := 1) Z.x Z.b dX2_takeOff_53 (by decide) ?_
    refine lv_istore_n (lv' := [(2, .int 1), (0, .ref a0), (1, .int a1), (3, .int a3)]) Z.x Z.b dX2_takeOff_54 rfl hl (by decide) rfl (fun ls hl => ?_)
    exact t_X2_takeOff_55 Z hr k4 hf E (lv_sub hl [1, 2, 0, 3] rfl)
set_option maxHeartbeats 4000000 in
set_option maxRecDepth 20000 in
theorem t_X2_takeOff_4_body {p : Program} {l : Launch} {e : Env} {s : State} {m : MethodId} {args : Array Value} {below : List Frame} {meth : Method} {c : Code} {G : zG} (Z : zF p s m args c meth cX2_takeOff 4 RX2 G) (hr : meth.sig.returnType = (some .int)) {out : Int32 × zHp} {r4 : Nat → Int32 → Int32 → Int32 → zHp → Option (Int32 × zHp)} (k4 : ∀ {a0 : Nat} {a1 : Int32} {a2 : Int32} {a3 : Int32} {h : zHp} {H : Heap} {locs : List Loc} {ls : Array Slot}, r4 a0 a1 a2 a3 h = some out → zE G s h H locs → lv_has ls 4 [(0, .ref a0), (1, .int a1), (2, .int a2), (3, .int a3)] → W p l e rm_X2_takeOff s m args below meth c H locs 0 0 (MQ below (zQi G out.1 out.2) args s 0 0 (zA G)) (F0 m 4 ls [])) {a0 : Nat} {a1 : Int32} {a2 : Int32} {a3 : Int32} {h : zHp} {H : Heap} {locs : List Loc} {ls : Array Slot} (hf : f_X2_takeOff_4_body r4 a0 a1 a2 a3 h = some out) (E : zE G s h H locs) (hl : lv_has ls 4 [(0, .ref a0), (1, .int a1), (2, .int a2), (3, .int a3)]) : W p l e rm_X2_takeOff s m args below meth c H locs 0 0 (MQ below (zQi G out.1 out.2) args s 0 0 (zA G)) (F0 m 4 ls []) := by
  unfold f_X2_takeOff_4_body at hf
  refine lv_iload_n Z.x Z.b dX2_takeOff_4 rfl (lv_at hl 3 rfl) ?_
  refine lv_aload_n Z.x Z.b dX2_takeOff_5 rfl (lv_at hl 0 rfl) ?_
  refine z_getI Z E q_X2_21 dX2_takeOff_6 hf (fun v1 hf => ?_)
  refine lv_icmp_ge (tgt := 61) Z.x Z.b dX2_takeOff_9 (by decide) (fun c => ?_) (fun c => ?_)
  · have hf := zit hf c
    exact t_X2_takeOff_61 Z hr hf E (lv_sub hl [0, 2] rfl)
  · have hf := zif_ hf c
    refine lv_iload_n Z.x Z.b dX2_takeOff_12 rfl (lv_at hl 3 rfl) ?_
    refine lv_bipush (v := 12) Z.x Z.b dX2_takeOff_13 (by decide) ?_
    refine lv_icmp_ge (tgt := 61) Z.x Z.b dX2_takeOff_15 (by decide) (fun c => ?_) (fun c => ?_)
    · have hf := zit hf c
      exact t_X2_takeOff_61 Z hr hf E (lv_sub hl [0, 2] rfl)
    · have hf := zif_ hf c
      refine lv_iload_n Z.x Z.b dX2_takeOff_18 rfl (lv_at hl 2 rfl) ?_
      refine lv_if_eq (tgt := 43) Z.x Z.b dX2_takeOff_19 (by decide) (fun c => ?_) (fun c => ?_)
      · have hf := zit hf c
        exact t_X2_takeOff_43 Z hr k4 hf E (lv_sub hl [0, 1, 2, 3] rfl)
      · have hf := zif_ hf c
        refine lv_iload_n Z.x Z.b dX2_takeOff_22 rfl (lv_at hl 3 rfl) ?_
        refine lv_if_le (tgt := 43) Z.x Z.b dX2_takeOff_23 (by decide) (fun c => ?_) (fun c => ?_)
        · have hf := zit hf c
          exact t_X2_takeOff_43 Z hr k4 hf E (lv_sub hl [0, 1, 2, 3] rfl)
        · have hf := zif_ hf c
          refine lv_aload_n Z.x Z.b dX2_takeOff_26 rfl (lv_at hl 0 rfl) ?_
          refine z_getR Z E q_X2_9 dX2_takeOff_27 hf (fun v2 hf => ?_)
          refine lv_iload_n Z.x Z.b dX2_takeOff_30 rfl (lv_at hl 3 rfl) ?_
          refine lv_iconst (v := 1) Z.x Z.b dX2_takeOff_31 (by decide) ?_
          refine lv_isub Z.x Z.b dX2_takeOff_32 ?_
          refine lv_aload_n Z.x Z.b dX2_takeOff_33 rfl (lv_at hl 0 rfl) ?_
          refine z_getR Z E q_X2_9 dX2_takeOff_34 hf (fun v3 hf => ?_)
          refine lv_iload_n Z.x Z.b dX2_takeOff_37 rfl (lv_at hl 3 rfl) ?_
          refine z_iald Z E dX2_takeOff_38 hf (fun v4 hf => ?_)
          refine z_iast Z E dX2_takeOff_39 hf (fun h5 H locs hf E => ?_)
          refine lv_goto (tgt := 55) Z.x Z.b dX2_takeOff_40 (by decide) ?_
          exact t_X2_takeOff_55 Z hr k4 hf E (lv_sub hl [0, 1, 2, 3] rfl)
theorem t_X2_takeOff_4 {p : Program} {l : Launch} {e : Env} {s : State} {m : MethodId} {args : Array Value} {below : List Frame} {meth : Method} {c : Code} {G : zG} (Z : zF p s m args c meth cX2_takeOff 4 RX2 G) (hr : meth.sig.returnType = (some .int)) {out : Int32 × zHp} : ∀ (n : Nat), ∀ {a0 : Nat} {a1 : Int32} {a2 : Int32} {a3 : Int32} {h : zHp} {H : Heap} {locs : List Loc} {ls : Array Slot}, f_X2_takeOff_4 n a0 a1 a2 a3 h = some out → zE G s h H locs → lv_has ls 4 [(0, .ref a0), (1, .int a1), (2, .int a2), (3, .int a3)] → W p l e rm_X2_takeOff s m args below meth c H locs 0 0 (MQ below (zQi G out.1 out.2) args s 0 0 (zA G)) (F0 m 4 ls [])
  | 0 => fun hf => by cases hf
  | n + 1 => fun hf E hl => t_X2_takeOff_4_body Z hr (r4 := f_X2_takeOff_4 n) (t_X2_takeOff_4 Z hr n) hf E hl
set_option maxHeartbeats 4000000 in
set_option maxRecDepth 20000 in
theorem t_X2_takeOff {p : Program} {l : Launch} {e : Env} {s : State} {m : MethodId} {args : Array Value} {below : List Frame} {meth : Method} {c : Code} {G : zG} (Z : zF p s m args c meth cX2_takeOff 4 RX2 G) (hr : meth.sig.returnType = (some .int)) {out : Int32 × zHp} {a0 : Nat} {a1 : Int32} {h : zHp} {H : Heap} {locs : List Loc} {ls : Array Slot} (hf : f_X2_takeOff a0 a1 h = some out) (E : zE G s h H locs) (hl : lv_has ls 4 [(0, .ref a0), (1, .int a1)]) : W p l e rm_X2_takeOff s m args below meth c H locs 0 0 (MQ below (zQi G out.1 out.2) args s 0 0 (zA G)) (F0 m 0 ls []) := by
  unfold f_X2_takeOff at hf
  refine lv_iconst (v := 0) Z.x Z.b dX2_takeOff_0 (by decide) ?_
  refine lv_istore_n (lv' := [(2, .int 0), (0, .ref a0), (1, .int a1)]) Z.x Z.b dX2_takeOff_1 rfl hl (by decide) rfl (fun ls hl => ?_)
  refine lv_iconst (v := 0) Z.x Z.b dX2_takeOff_2 (by decide) ?_
  refine lv_istore_n (lv' := [(3, .int 0), (2, .int 0), (0, .ref a0), (1, .int a1)]) Z.x Z.b dX2_takeOff_3 rfl hl (by decide) rfl (fun ls hl => ?_)
  exact t_X2_takeOff_4 Z hr zN hf E (lv_sub hl [2, 3, 1, 0] rfl)
set_option maxHeartbeats 4000000 in
set_option maxRecDepth 20000 in
theorem c_X2_takeOff (l : Launch) (G : zG) (h : zHp) (h' : zHp) (a0 : Nat) (a1 : Int32) (r : Int32) (hf : f_X2_takeOff a0 a1 h = some (r, h')) : zM0 l yX2_takeOff cX2_takeOff 4 (some .int) rm_X2_takeOff G [.ref a0, .int a1] h (zQi G r h') := by
  refine Met.ofW (cc := cX2_takeOff) (maxL := 4) (ret := (some .int)) (by decide) rfl ?_
  intro p e s m args below meth c s₁ B hml hv
  obtain ⟨rfl, hW⟩ := hv
  obtain ⟨Z, E, hr⟩ := zEnter (own := RX2) B hml rfl hW
  have hl := lv_entry ([.ref a0, .int a1]) (n := 4) (Nat.le_of_ble_eq_true rfl)
  rw [lg_entry_eq]
  generalize (lg_sl ([.ref a0, .int a1]) ++ List.replicate (4 - (lg_sl ([.ref a0, .int a1])).length) Slot.unset).toArray = ls at hl ⊢
  have hl : lv_has ls 4 [(0, .ref a0), (1, .int a1)] := hl
  exact t_X2_takeOff (out := (r, h')) Z hr hf E hl
/-! FerryCrews$Ladder.putLast(I)I -/
theorem dX2_putLast_0 : decode cX2_putLast 0 = .ok (.aload_n 0, 1) := by decide +kernel
theorem dX2_putLast_1 : decode cX2_putLast 1 = .ok (.iload_n 1, 1) := by decide +kernel
theorem dX2_putLast_2 : decode cX2_putLast 2 = .ok (.invokevirtual 29, 3) := by decide +kernel
theorem dX2_putLast_5 : decode cX2_putLast 5 = .ok (.pop, 1) := by decide +kernel
theorem dX2_putLast_6 : decode cX2_putLast 6 = .ok (.aload_n 0, 1) := by decide +kernel
theorem dX2_putLast_7 : decode cX2_putLast 7 = .ok (.getfield 21, 3) := by decide +kernel
theorem dX2_putLast_10 : decode cX2_putLast 10 = .ok (.iconst 0, 1) := by decide +kernel
theorem dX2_putLast_11 : decode cX2_putLast 11 = .ok (.bipush 11, 2) := by decide +kernel
theorem dX2_putLast_13 : decode cX2_putLast 13 = .ok (.invokestatic 32, 3) := by decide +kernel
theorem dX2_putLast_16 : decode cX2_putLast 16 = .ok (.ifCond .eq 23, 3) := by decide +kernel
theorem dX2_putLast_19 : decode cX2_putLast 19 = .ok (.aload_n 0, 1) := by decide +kernel
theorem dX2_putLast_20 : decode cX2_putLast 20 = .ok (.getfield 9, 3) := by decide +kernel
theorem dX2_putLast_23 : decode cX2_putLast 23 = .ok (.aload_n 0, 1) := by decide +kernel
theorem dX2_putLast_24 : decode cX2_putLast 24 = .ok (.getfield 21, 3) := by decide +kernel
theorem dX2_putLast_27 : decode cX2_putLast 27 = .ok (.iload_n 1, 1) := by decide +kernel
theorem dX2_putLast_28 : decode cX2_putLast 28 = .ok (.iastore, 1) := by decide +kernel
theorem dX2_putLast_29 : decode cX2_putLast 29 = .ok (.aload_n 0, 1) := by decide +kernel
theorem dX2_putLast_30 : decode cX2_putLast 30 = .ok (.dup, 1) := by decide +kernel
theorem dX2_putLast_31 : decode cX2_putLast 31 = .ok (.getfield 21, 3) := by decide +kernel
theorem dX2_putLast_34 : decode cX2_putLast 34 = .ok (.iconst 1, 1) := by decide +kernel
theorem dX2_putLast_35 : decode cX2_putLast 35 = .ok (.iadd, 1) := by decide +kernel
theorem dX2_putLast_36 : decode cX2_putLast 36 = .ok (.putfield 21, 3) := by decide +kernel
theorem dX2_putLast_39 : decode cX2_putLast 39 = .ok (.aload_n 0, 1) := by decide +kernel
theorem dX2_putLast_40 : decode cX2_putLast 40 = .ok (.getfield 21, 3) := by decide +kernel
theorem dX2_putLast_43 : decode cX2_putLast 43 = .ok (.ireturn, 1) := by decide +kernel
set_option maxRecDepth 20000 in
theorem wc_X2_takeOff : Cond.code yX2_takeOff cX2_takeOff 4 (some .int) ∈ zB := List.mem_filter.mpr ⟨List.mem_of_getElem? (i := 556) (by decide +kernel), by decide +kernel⟩
set_option maxRecDepth 20000 in
theorem wm_X2_29 : Cond.methodLink RX2 29 yX2_takeOff ∈ zB := List.mem_filter.mpr ⟨List.mem_of_getElem? (i := 553) (by decide +kernel), by decide +kernel⟩
theorem k_X2_29 : zCal RX2 29 yX2_takeOff cX2_takeOff 4 (some .int) 1 := ⟨wm_X2_29, wi_X2, wc_X2_takeOff, by decide +kernel, by decide +kernel, by decide +kernel⟩
set_option maxRecDepth 20000 in
theorem wn_X2_takeOff : Cond.instanceMethod yX2_takeOff ∈ zB := List.mem_filter.mpr ⟨List.mem_of_getElem? (i := 554) (by decide +kernel), by decide +kernel⟩
set_option maxRecDepth 20000 in
theorem ws_X2_takeOff : Cond.selects RX2 yX2_takeOff yX2_takeOff ∈ zB := List.mem_filter.mpr ⟨List.mem_of_getElem? (i := 555) (by decide +kernel), by decide +kernel⟩
theorem v_X2_takeOff : zVir yX2_takeOff 2 := ⟨wn_X2_takeOff, ws_X2_takeOff, TX2, 2, rfl⟩
set_option maxRecDepth 20000 in
theorem k_X2_32 : zCalN RX2 32 yX7_isWithin "FerryCrews" cX7_isWithin 3 (some .boolean) 3 := ⟨List.mem_of_getElem? (i := 557) (by decide +kernel), wi_X7, wc_X7_isWithin, by decide +kernel, by decide +kernel, by decide +kernel⟩
def rm_X2_putLast : Room := { frames := 1, cells := 0, slots := 0, locals := 23 }
set_option maxHeartbeats 4000000 in
set_option maxRecDepth 20000 in
theorem t_X2_putLast {p : Program} {l : Launch} {e : Env} {s : State} {m : MethodId} {args : Array Value} {below : List Frame} {meth : Method} {c : Code} {G : zG} (Z : zF p s m args c meth cX2_putLast 2 RX2 G) (hr : meth.sig.returnType = (some .int)) {out : Int32 × zHp} {a0 : Nat} {a1 : Int32} {h : zHp} {H : Heap} {locs : List Loc} {ls : Array Slot} (hf : f_X2_putLast a0 a1 h = some out) (E : zE G s h H locs) (hl : lv_has ls 2 [(0, .ref a0), (1, .int a1)]) : W p l e rm_X2_putLast s m args below meth c H locs 0 0 (MQ below (zQi G out.1 out.2) args s 0 0 (zA G)) (F0 m 0 ls []) := by
  unfold f_X2_putLast at hf
  refine lv_aload_n Z.x Z.b dX2_putLast_0 rfl (lv_at hl 0 rfl) ?_
  refine lv_iload_n Z.x Z.b dX2_putLast_1 rfl (lv_at hl 1 rfl) ?_
  refine z_Vi (As := [.int a1]) Z E hl.1 k_X2_29 v_X2_takeOff hf (fun r h' e => c_X2_takeOff l G h h' a0 a1 r e) rfl rfl (Nat.le_of_ble_eq_true rfl) (zRm_of rfl (Nat.zero_le _) (Nat.zero_le _)) dX2_putLast_2 (fun v1 h2 H locs hf E => ?_)
  refine lv_pop Z.x Z.b dX2_putLast_5 rfl ?_
  refine lv_aload_n Z.x Z.b dX2_putLast_6 rfl (lv_at hl 0 rfl) ?_
  refine z_getI Z E q_X2_21 dX2_putLast_7 hf (fun v3 hf => ?_)
  refine lv_iconst (v := 0) Z.x Z.b dX2_putLast_10 (by decide) ?_
  refine lv_bipush (v := 11) Z.x Z.b dX2_putLast_11 (by decide) ?_
  refine z_SNi (As := [.int v3, .int 0, .int 11]) Z E hl.1 k_X2_32 wt_X7_isWithin hf (fun r h' e => c_X7_isWithin l G h2 h' v3 0 11 r e) rfl rfl (Nat.le_of_ble_eq_true rfl) (zRm_of rfl (Nat.zero_le _) (Nat.zero_le _)) dX2_putLast_13 (fun v4 h5 H locs hf E => ?_)
  refine lv_if_eq (tgt := 39) Z.x Z.b dX2_putLast_16 (by decide) (fun c => ?_) (fun c => ?_)
  · have hf := zit hf c
    refine lv_aload_n Z.x Z.b dX2_putLast_39 rfl (lv_at hl 0 rfl) ?_
    refine z_getI Z E q_X2_21 dX2_putLast_40 hf (fun v6 hf => ?_)
    exact z_iret Z E hr dX2_putLast_43 hf
  · have hf := zif_ hf c
    refine lv_aload_n Z.x Z.b dX2_putLast_19 rfl (lv_at hl 0 rfl) ?_
    refine z_getR Z E q_X2_9 dX2_putLast_20 hf (fun v7 hf => ?_)
    refine lv_aload_n Z.x Z.b dX2_putLast_23 rfl (lv_at hl 0 rfl) ?_
    refine z_getI Z E q_X2_21 dX2_putLast_24 hf (fun v8 hf => ?_)
    refine lv_iload_n Z.x Z.b dX2_putLast_27 rfl (lv_at hl 1 rfl) ?_
    refine z_iast Z E dX2_putLast_28 hf (fun h9 H locs hf E => ?_)
    refine lv_aload_n Z.x Z.b dX2_putLast_29 rfl (lv_at hl 0 rfl) ?_
    refine lv_dup Z.x Z.b dX2_putLast_30 rfl ?_
    refine z_getI Z E q_X2_21 dX2_putLast_31 hf (fun v10 hf => ?_)
    refine lv_iconst (v := 1) Z.x Z.b dX2_putLast_34 (by decide) ?_
    refine lv_iadd Z.x Z.b dX2_putLast_35 ?_
    refine z_put Z E p_X2_21 rfl rfl dX2_putLast_36 hf (fun h11 H locs hf E => ?_)
    refine lv_aload_n Z.x Z.b dX2_putLast_39 rfl (lv_at hl 0 rfl) ?_
    refine z_getI Z E q_X2_21 dX2_putLast_40 hf (fun v12 hf => ?_)
    exact z_iret Z E hr dX2_putLast_43 hf
set_option maxHeartbeats 4000000 in
set_option maxRecDepth 20000 in
theorem c_X2_putLast (l : Launch) (G : zG) (h : zHp) (h' : zHp) (a0 : Nat) (a1 : Int32) (r : Int32) (hf : f_X2_putLast a0 a1 h = some (r, h')) : zM0 l yX2_putLast cX2_putLast 2 (some .int) rm_X2_putLast G [.ref a0, .int a1] h (zQi G r h') := by
  refine Met.ofW (cc := cX2_putLast) (maxL := 2) (ret := (some .int)) (by decide) rfl ?_
  intro p e s m args below meth c s₁ B hml hv
  obtain ⟨rfl, hW⟩ := hv
  obtain ⟨Z, E, hr⟩ := zEnter (own := RX2) B hml rfl hW
  have hl := lv_entry ([.ref a0, .int a1]) (n := 2) (Nat.le_of_ble_eq_true rfl)
  rw [lg_entry_eq]
  generalize (lg_sl ([.ref a0, .int a1]) ++ List.replicate (2 - (lg_sl ([.ref a0, .int a1])).length) Slot.unset).toArray = ls at hl ⊢
  have hl : lv_has ls 2 [(0, .ref a0), (1, .int a1)] := hl
  exact t_X2_putLast (out := (r, h')) Z hr hf E hl
/-! FerryCrews.isRole(I)Z -/
theorem dX7_isRole_0 : decode cX7_isRole 0 = .ok (.iload_n 0, 1) := by decide +kernel
theorem dX7_isRole_1 : decode cX7_isRole 1 = .ok (.ifCond .lt 12, 3) := by decide +kernel
theorem dX7_isRole_4 : decode cX7_isRole 4 = .ok (.iload_n 0, 1) := by decide +kernel
theorem dX7_isRole_5 : decode cX7_isRole 5 = .ok (.iconst 4, 1) := by decide +kernel
theorem dX7_isRole_6 : decode cX7_isRole 6 = .ok (.if_icmp .ge 7, 3) := by decide +kernel
theorem dX7_isRole_9 : decode cX7_isRole 9 = .ok (.iconst 1, 1) := by decide +kernel
theorem dX7_isRole_10 : decode cX7_isRole 10 = .ok (.goto 4, 3) := by decide +kernel
theorem dX7_isRole_13 : decode cX7_isRole 13 = .ok (.iconst 0, 1) := by decide +kernel
theorem dX7_isRole_14 : decode cX7_isRole 14 = .ok (.ireturn, 1) := by decide +kernel
def rm_X7_isRole : Room := { frames := 0, cells := 0, slots := 0, locals := 0 }
set_option maxHeartbeats 4000000 in
set_option maxRecDepth 20000 in
theorem t_X7_isRole_13 {p : Program} {l : Launch} {e : Env} {s : State} {m : MethodId} {args : Array Value} {below : List Frame} {meth : Method} {c : Code} {G : zG} (Z : zF p s m args c meth cX7_isRole 1 RX7 G) (hr : meth.sig.returnType = (some .boolean)) {out : Int32 × zHp} {h : zHp} {H : Heap} {locs : List Loc} {ls : Array Slot} (hf : f_X7_isRole_13 h = some out) (E : zE G s h H locs) (hl : lv_has ls 1 []) : W p l e rm_X7_isRole s m args below meth c H locs 0 0 (MQ below (zQi G out.1 out.2) args s 0 0 (zA G)) (F0 m 13 ls []) := by
  unfold f_X7_isRole_13 at hf
  refine lv_iconst (v := 0) Z.x Z.b dX7_isRole_13 (by decide) ?_
  exact z_zret Z E hr dX7_isRole_14 hf
set_option maxHeartbeats 4000000 in
set_option maxRecDepth 20000 in
theorem t_X7_isRole {p : Program} {l : Launch} {e : Env} {s : State} {m : MethodId} {args : Array Value} {below : List Frame} {meth : Method} {c : Code} {G : zG} (Z : zF p s m args c meth cX7_isRole 1 RX7 G) (hr : meth.sig.returnType = (some .boolean)) {out : Int32 × zHp} {a0 : Int32} {h : zHp} {H : Heap} {locs : List Loc} {ls : Array Slot} (hf : f_X7_isRole a0 h = some out) (E : zE G s h H locs) (hl : lv_has ls 1 [(0, .int a0)]) : W p l e rm_X7_isRole s m args below meth c H locs 0 0 (MQ below (zQi G out.1 out.2) args s 0 0 (zA G)) (F0 m 0 ls []) := by
  unfold f_X7_isRole at hf
  refine lv_iload_n Z.x Z.b dX7_isRole_0 rfl (lv_at hl 0 rfl) ?_
  refine lv_if_lt (tgt := 13) Z.x Z.b dX7_isRole_1 (by decide) (fun c => ?_) (fun c => ?_)
  · have hf := zit hf c
    exact t_X7_isRole_13 Z hr hf E (lv_sub hl [] rfl)
  · have hf := zif_ hf c
    refine lv_iload_n Z.x Z.b dX7_isRole_4 rfl (lv_at hl 0 rfl) ?_
    refine lv_iconst (v := 4) Z.x Z.b dX7_isRole_5 (by decide) ?_
    refine lv_icmp_ge (tgt := 13) Z.x Z.b dX7_isRole_6 (by decide) (fun c => ?_) (fun c => ?_)
    · have hf := zit hf c
      exact t_X7_isRole_13 Z hr hf E (lv_sub hl [] rfl)
    · have hf := zif_ hf c
      refine lv_iconst (v := 1) Z.x Z.b dX7_isRole_9 (by decide) ?_
      refine lv_goto (tgt := 14) Z.x Z.b dX7_isRole_10 (by decide) ?_
      exact z_zret Z E hr dX7_isRole_14 hf
set_option maxHeartbeats 4000000 in
set_option maxRecDepth 20000 in
theorem c_X7_isRole (l : Launch) (G : zG) (h : zHp) (h' : zHp) (a0 : Int32) (r : Int32) (hf : f_X7_isRole a0 h = some (r, h')) : zM0 l yX7_isRole cX7_isRole 1 (some .boolean) rm_X7_isRole G [.int a0] h (zQi G r h') := by
  refine Met.ofW (cc := cX7_isRole) (maxL := 1) (ret := (some .boolean)) (by decide) rfl ?_
  intro p e s m args below meth c s₁ B hml hv
  obtain ⟨rfl, hW⟩ := hv
  obtain ⟨Z, E, hr⟩ := zEnter (own := RX7) B hml rfl hW
  have hl := lv_entry ([.int a0]) (n := 1) (Nat.le_of_ble_eq_true rfl)
  rw [lg_entry_eq]
  generalize (lg_sl ([.int a0]) ++ List.replicate (1 - (lg_sl ([.int a0])).length) Slot.unset).toArray = ls at hl ⊢
  have hl : lv_has ls 1 [(0, .int a0)] := hl
  exact t_X7_isRole (out := (r, h')) Z hr hf E hl
/-! FerryCrews$Member.certificateOf(I)I -/
theorem dX3_certificateOf_0 : decode cX3_certificateOf 0 = .ok (.iload_n 1, 1) := by decide +kernel
theorem dX3_certificateOf_1 : decode cX3_certificateOf 1 = .ok (.invokestatic 28, 3) := by decide +kernel
theorem dX3_certificateOf_4 : decode cX3_certificateOf 4 = .ok (.ifCond .eq 12, 3) := by decide +kernel
theorem dX3_certificateOf_7 : decode cX3_certificateOf 7 = .ok (.aload_n 0, 1) := by decide +kernel
theorem dX3_certificateOf_8 : decode cX3_certificateOf 8 = .ok (.getfield 9, 3) := by decide +kernel
theorem dX3_certificateOf_11 : decode cX3_certificateOf 11 = .ok (.iload_n 1, 1) := by decide +kernel
theorem dX3_certificateOf_12 : decode cX3_certificateOf 12 = .ok (.iaload, 1) := by decide +kernel
theorem dX3_certificateOf_13 : decode cX3_certificateOf 13 = .ok (.goto 4, 3) := by decide +kernel
theorem dX3_certificateOf_16 : decode cX3_certificateOf 16 = .ok (.iconst 0, 1) := by decide +kernel
theorem dX3_certificateOf_17 : decode cX3_certificateOf 17 = .ok (.ireturn, 1) := by decide +kernel
set_option maxRecDepth 20000 in
theorem wc_X7_isRole : Cond.code yX7_isRole cX7_isRole 1 (some .boolean) ∈ zB := List.mem_filter.mpr ⟨List.mem_of_getElem? (i := 279) (by decide +kernel), by decide +kernel⟩
set_option maxRecDepth 20000 in
theorem k_X3_28 : zCalN RX3 28 yX7_isRole "FerryCrews" cX7_isRole 1 (some .boolean) 1 := ⟨List.mem_of_getElem? (i := 412) (by decide +kernel), wi_X7, wc_X7_isRole, by decide +kernel, by decide +kernel, by decide +kernel⟩
set_option maxRecDepth 20000 in
theorem wt_X7_isRole : Cond.static yX7_isRole ∈ zB := List.mem_filter.mpr ⟨List.mem_of_getElem? (i := 278) (by decide +kernel), by decide +kernel⟩
def rm_X3_certificateOf : Room := { frames := 1, cells := 0, slots := 0, locals := 20 }
set_option maxHeartbeats 4000000 in
set_option maxRecDepth 20000 in
theorem t_X3_certificateOf {p : Program} {l : Launch} {e : Env} {s : State} {m : MethodId} {args : Array Value} {below : List Frame} {meth : Method} {c : Code} {G : zG} (Z : zF p s m args c meth cX3_certificateOf 2 RX3 G) (hr : meth.sig.returnType = (some .int)) {out : Int32 × zHp} {a0 : Nat} {a1 : Int32} {h : zHp} {H : Heap} {locs : List Loc} {ls : Array Slot} (hf : f_X3_certificateOf a0 a1 h = some out) (E : zE G s h H locs) (hl : lv_has ls 2 [(0, .ref a0), (1, .int a1)]) : W p l e rm_X3_certificateOf s m args below meth c H locs 0 0 (MQ below (zQi G out.1 out.2) args s 0 0 (zA G)) (F0 m 0 ls []) := by
  unfold f_X3_certificateOf at hf
  refine lv_iload_n Z.x Z.b dX3_certificateOf_0 rfl (lv_at hl 1 rfl) ?_
  refine z_SNi (As := [.int a1]) Z E hl.1 k_X3_28 wt_X7_isRole hf (fun r h' e => c_X7_isRole l G h h' a1 r e) rfl rfl (Nat.le_of_ble_eq_true rfl) (zRm_of rfl (Nat.zero_le _) (Nat.zero_le _)) dX3_certificateOf_1 (fun v1 h2 H locs hf E => ?_)
  refine lv_if_eq (tgt := 16) Z.x Z.b dX3_certificateOf_4 (by decide) (fun c => ?_) (fun c => ?_)
  · have hf := zit hf c
    refine lv_iconst (v := 0) Z.x Z.b dX3_certificateOf_16 (by decide) ?_
    exact z_iret Z E hr dX3_certificateOf_17 hf
  · have hf := zif_ hf c
    refine lv_aload_n Z.x Z.b dX3_certificateOf_7 rfl (lv_at hl 0 rfl) ?_
    refine z_getR Z E q_X3_9 dX3_certificateOf_8 hf (fun v3 hf => ?_)
    refine lv_iload_n Z.x Z.b dX3_certificateOf_11 rfl (lv_at hl 1 rfl) ?_
    refine z_iald Z E dX3_certificateOf_12 hf (fun v4 hf => ?_)
    refine lv_goto (tgt := 17) Z.x Z.b dX3_certificateOf_13 (by decide) ?_
    exact z_iret Z E hr dX3_certificateOf_17 hf
set_option maxHeartbeats 4000000 in
set_option maxRecDepth 20000 in
theorem c_X3_certificateOf (l : Launch) (G : zG) (h : zHp) (h' : zHp) (a0 : Nat) (a1 : Int32) (r : Int32) (hf : f_X3_certificateOf a0 a1 h = some (r, h')) : zM0 l yX3_certificateOf cX3_certificateOf 2 (some .int) rm_X3_certificateOf G [.ref a0, .int a1] h (zQi G r h') := by
  refine Met.ofW (cc := cX3_certificateOf) (maxL := 2) (ret := (some .int)) (by decide) rfl ?_
  intro p e s m args below meth c s₁ B hml hv
  obtain ⟨rfl, hW⟩ := hv
  obtain ⟨Z, E, hr⟩ := zEnter (own := RX3) B hml rfl hW
  have hl := lv_entry ([.ref a0, .int a1]) (n := 2) (Nat.le_of_ble_eq_true rfl)
  rw [lg_entry_eq]
  generalize (lg_sl ([.ref a0, .int a1]) ++ List.replicate (2 - (lg_sl ([.ref a0, .int a1])).length) Slot.unset).toArray = ls at hl ⊢
  have hl : lv_has ls 2 [(0, .ref a0), (1, .int a1)] := hl
  exact t_X3_certificateOf (out := (r, h')) Z hr hf E hl
/-! FerryCrews$Member.replaceCertificate(II)I -/
theorem dX3_replaceCertificate_0 : decode cX3_replaceCertificate 0 = .ok (.aload_n 0, 1) := by decide +kernel
theorem dX3_replaceCertificate_1 : decode cX3_replaceCertificate 1 = .ok (.iload_n 1, 1) := by decide +kernel
theorem dX3_replaceCertificate_2 : decode cX3_replaceCertificate 2 = .ok (.invokevirtual 32, 3) := by decide +kernel
theorem dX3_replaceCertificate_5 : decode cX3_replaceCertificate 5 = .ok (.istore_n 3, 1) := by decide +kernel
theorem dX3_replaceCertificate_6 : decode cX3_replaceCertificate 6 = .ok (.iload_n 1, 1) := by decide +kernel
theorem dX3_replaceCertificate_7 : decode cX3_replaceCertificate 7 = .ok (.invokestatic 28, 3) := by decide +kernel
theorem dX3_replaceCertificate_10 : decode cX3_replaceCertificate 10 = .ok (.ifCond .eq 10, 3) := by decide +kernel
theorem dX3_replaceCertificate_13 : decode cX3_replaceCertificate 13 = .ok (.aload_n 0, 1) := by decide +kernel
theorem dX3_replaceCertificate_14 : decode cX3_replaceCertificate 14 = .ok (.getfield 9, 3) := by decide +kernel
theorem dX3_replaceCertificate_17 : decode cX3_replaceCertificate 17 = .ok (.iload_n 1, 1) := by decide +kernel
theorem dX3_replaceCertificate_18 : decode cX3_replaceCertificate 18 = .ok (.iload_n 2, 1) := by decide +kernel
theorem dX3_replaceCertificate_19 : decode cX3_replaceCertificate 19 = .ok (.iastore, 1) := by decide +kernel
theorem dX3_replaceCertificate_20 : decode cX3_replaceCertificate 20 = .ok (.iload_n 3, 1) := by decide +kernel
theorem dX3_replaceCertificate_21 : decode cX3_replaceCertificate 21 = .ok (.ireturn, 1) := by decide +kernel
set_option maxRecDepth 20000 in
theorem wc_X3_certificateOf : Cond.code yX3_certificateOf cX3_certificateOf 2 (some .int) ∈ zB := List.mem_filter.mpr ⟨List.mem_of_getElem? (i := 411) (by decide +kernel), by decide +kernel⟩
set_option maxRecDepth 20000 in
theorem wm_X3_32 : Cond.methodLink RX3 32 yX3_certificateOf ∈ zB := List.mem_filter.mpr ⟨List.mem_of_getElem? (i := 548) (by decide +kernel), by decide +kernel⟩
theorem k_X3_32 : zCal RX3 32 yX3_certificateOf cX3_certificateOf 2 (some .int) 1 := ⟨wm_X3_32, wi_X3, wc_X3_certificateOf, by decide +kernel, by decide +kernel, by decide +kernel⟩
set_option maxRecDepth 20000 in
theorem wn_X3_certificateOf : Cond.instanceMethod yX3_certificateOf ∈ zB := List.mem_filter.mpr ⟨List.mem_of_getElem? (i := 409) (by decide +kernel), by decide +kernel⟩
set_option maxRecDepth 20000 in
theorem ws_X3_certificateOf : Cond.selects RX3 yX3_certificateOf yX3_certificateOf ∈ zB := List.mem_filter.mpr ⟨List.mem_of_getElem? (i := 410) (by decide +kernel), by decide +kernel⟩
theorem v_X3_certificateOf : zVir yX3_certificateOf 3 := ⟨wn_X3_certificateOf, ws_X3_certificateOf, TX3, 3, rfl⟩
def rm_X3_replaceCertificate : Room := { frames := 2, cells := 0, slots := 0, locals := 41 }
set_option maxHeartbeats 4000000 in
set_option maxRecDepth 20000 in
theorem t_X3_replaceCertificate {p : Program} {l : Launch} {e : Env} {s : State} {m : MethodId} {args : Array Value} {below : List Frame} {meth : Method} {c : Code} {G : zG} (Z : zF p s m args c meth cX3_replaceCertificate 4 RX3 G) (hr : meth.sig.returnType = (some .int)) {out : Int32 × zHp} {a0 : Nat} {a1 : Int32} {a2 : Int32} {h : zHp} {H : Heap} {locs : List Loc} {ls : Array Slot} (hf : f_X3_replaceCertificate a0 a1 a2 h = some out) (E : zE G s h H locs) (hl : lv_has ls 4 [(0, .ref a0), (1, .int a1), (2, .int a2)]) : W p l e rm_X3_replaceCertificate s m args below meth c H locs 0 0 (MQ below (zQi G out.1 out.2) args s 0 0 (zA G)) (F0 m 0 ls []) := by
  unfold f_X3_replaceCertificate at hf
  refine lv_aload_n Z.x Z.b dX3_replaceCertificate_0 rfl (lv_at hl 0 rfl) ?_
  refine lv_iload_n Z.x Z.b dX3_replaceCertificate_1 rfl (lv_at hl 1 rfl) ?_
  refine z_Vi (As := [.int a1]) Z E hl.1 k_X3_32 v_X3_certificateOf hf (fun r h' e => c_X3_certificateOf l G h h' a0 a1 r e) rfl rfl (Nat.le_of_ble_eq_true rfl) (zRm_of rfl (Nat.zero_le _) (Nat.zero_le _)) dX3_replaceCertificate_2 (fun v1 h2 H locs hf E => ?_)
  refine lv_istore_n (lv' := [(3, .int v1), (0, .ref a0), (1, .int a1), (2, .int a2)]) Z.x Z.b dX3_replaceCertificate_5 rfl hl (by decide) rfl (fun ls hl => ?_)
  refine lv_iload_n Z.x Z.b dX3_replaceCertificate_6 rfl (lv_at hl 2 rfl) ?_
  refine z_SNi (As := [.int a1]) Z E hl.1 k_X3_28 wt_X7_isRole hf (fun r h' e => c_X7_isRole l G h2 h' a1 r e) rfl rfl (Nat.le_of_ble_eq_true rfl) (zRm_of rfl (Nat.zero_le _) (Nat.zero_le _)) dX3_replaceCertificate_7 (fun v3 h4 H locs hf E => ?_)
  refine lv_if_eq (tgt := 20) Z.x Z.b dX3_replaceCertificate_10 (by decide) (fun c => ?_) (fun c => ?_)
  · have hf := zit hf c
    refine lv_iload_n Z.x Z.b dX3_replaceCertificate_20 rfl (lv_at hl 0 rfl) ?_
    exact z_iret Z E hr dX3_replaceCertificate_21 hf
  · have hf := zif_ hf c
    refine lv_aload_n Z.x Z.b dX3_replaceCertificate_13 rfl (lv_at hl 1 rfl) ?_
    refine z_getR Z E q_X3_9 dX3_replaceCertificate_14 hf (fun v5 hf => ?_)
    refine lv_iload_n Z.x Z.b dX3_replaceCertificate_17 rfl (lv_at hl 2 rfl) ?_
    refine lv_iload_n Z.x Z.b dX3_replaceCertificate_18 rfl (lv_at hl 3 rfl) ?_
    refine z_iast Z E dX3_replaceCertificate_19 hf (fun h6 H locs hf E => ?_)
    refine lv_iload_n Z.x Z.b dX3_replaceCertificate_20 rfl (lv_at hl 0 rfl) ?_
    exact z_iret Z E hr dX3_replaceCertificate_21 hf
set_option maxHeartbeats 4000000 in
set_option maxRecDepth 20000 in
theorem c_X3_replaceCertificate (l : Launch) (G : zG) (h : zHp) (h' : zHp) (a0 : Nat) (a1 : Int32) (a2 : Int32) (r : Int32) (hf : f_X3_replaceCertificate a0 a1 a2 h = some (r, h')) : zM0 l yX3_replaceCertificate cX3_replaceCertificate 4 (some .int) rm_X3_replaceCertificate G [.ref a0, .int a1, .int a2] h (zQi G r h') := by
  refine Met.ofW (cc := cX3_replaceCertificate) (maxL := 4) (ret := (some .int)) (by decide) rfl ?_
  intro p e s m args below meth c s₁ B hml hv
  obtain ⟨rfl, hW⟩ := hv
  obtain ⟨Z, E, hr⟩ := zEnter (own := RX3) B hml rfl hW
  have hl := lv_entry ([.ref a0, .int a1, .int a2]) (n := 4) (Nat.le_of_ble_eq_true rfl)
  rw [lg_entry_eq]
  generalize (lg_sl ([.ref a0, .int a1, .int a2]) ++ List.replicate (4 - (lg_sl ([.ref a0, .int a1, .int a2])).length) Slot.unset).toArray = ls at hl ⊢
  have hl : lv_has ls 4 [(0, .ref a0), (1, .int a1), (2, .int a2)] := hl
  exact t_X3_replaceCertificate (out := (r, h')) Z hr hf E hl
/-! FerryCrews$Sailing.come(IIIII)V -/
theorem dX4_come_0 : decode cX4_come 0 = .ok (.aload_n 0, 1) := by decide +kernel
theorem dX4_come_1 : decode cX4_come 1 = .ok (.iload_n 1, 1) := by decide +kernel
theorem dX4_come_2 : decode cX4_come 2 = .ok (.putfield 28, 3) := by decide +kernel
theorem dX4_come_5 : decode cX4_come 5 = .ok (.aload_n 0, 1) := by decide +kernel
theorem dX4_come_6 : decode cX4_come 6 = .ok (.iload_n 2, 1) := by decide +kernel
theorem dX4_come_7 : decode cX4_come 7 = .ok (.putfield 31, 3) := by decide +kernel
theorem dX4_come_10 : decode cX4_come 10 = .ok (.aload_n 0, 1) := by decide +kernel
theorem dX4_come_11 : decode cX4_come 11 = .ok (.iload_n 3, 1) := by decide +kernel
theorem dX4_come_12 : decode cX4_come 12 = .ok (.putfield 34, 3) := by decide +kernel
theorem dX4_come_15 : decode cX4_come 15 = .ok (.aload_n 0, 1) := by decide +kernel
theorem dX4_come_16 : decode cX4_come 16 = .ok (.iload_n 3, 1) := by decide +kernel
theorem dX4_come_17 : decode cX4_come 17 = .ok (.iload 4, 2) := by decide +kernel
theorem dX4_come_19 : decode cX4_come 19 = .ok (.iadd, 1) := by decide +kernel
theorem dX4_come_20 : decode cX4_come 20 = .ok (.putfield 37, 3) := by decide +kernel
theorem dX4_come_23 : decode cX4_come 23 = .ok (.aload_n 0, 1) := by decide +kernel
theorem dX4_come_24 : decode cX4_come 24 = .ok (.iload 5, 2) := by decide +kernel
theorem dX4_come_26 : decode cX4_come 26 = .ok (.putfield 40, 3) := by decide +kernel
theorem dX4_come_29 : decode cX4_come 29 = .ok (.aload_n 0, 1) := by decide +kernel
theorem dX4_come_30 : decode cX4_come 30 = .ok (.iconst 0, 1) := by decide +kernel
theorem dX4_come_31 : decode cX4_come 31 = .ok (.putfield 9, 3) := by decide +kernel
theorem dX4_come_34 : decode cX4_come 34 = .ok (.iload 5, 2) := by decide +kernel
theorem dX4_come_36 : decode cX4_come 36 = .ok (.istore 6, 2) := by decide +kernel
theorem dX4_come_38 : decode cX4_come 38 = .ok (.iconst 3, 1) := by decide +kernel
theorem dX4_come_39 : decode cX4_come 39 = .ok (.istore 7, 2) := by decide +kernel
theorem dX4_come_41 : decode cX4_come 41 = .ok (.iload 7, 2) := by decide +kernel
theorem dX4_come_43 : decode cX4_come 43 = .ok (.ifCond .lt 28, 3) := by decide +kernel
theorem dX4_come_46 : decode cX4_come 46 = .ok (.aload_n 0, 1) := by decide +kernel
theorem dX4_come_47 : decode cX4_come 47 = .ok (.getfield 18, 3) := by decide +kernel
theorem dX4_come_50 : decode cX4_come 50 = .ok (.iload 7, 2) := by decide +kernel
theorem dX4_come_52 : decode cX4_come 52 = .ok (.iload 6, 2) := by decide +kernel
theorem dX4_come_54 : decode cX4_come 54 = .ok (.bipush 10, 2) := by decide +kernel
theorem dX4_come_56 : decode cX4_come 56 = .ok (.irem, 1) := by decide +kernel
theorem dX4_come_57 : decode cX4_come 57 = .ok (.iastore, 1) := by decide +kernel
theorem dX4_come_58 : decode cX4_come 58 = .ok (.iload 6, 2) := by decide +kernel
theorem dX4_come_60 : decode cX4_come 60 = .ok (.bipush 10, 2) := by decide +kernel
theorem dX4_come_62 : decode cX4_come 62 = .ok (.idiv, 1) := by decide +kernel
theorem dX4_come_63 : decode cX4_come 63 = .ok (.istore 6, 2) := by decide +kernel
theorem dX4_come_65 : decode cX4_come 65 = .ok (.iinc 7 (-1), 3) := by decide +kernel
theorem dX4_come_68 : decode cX4_come 68 = .ok (.goto (-27), 3) := by decide +kernel
theorem dX4_come_71 : decode cX4_come 71 = .ok (.return_, 1) := by decide +kernel
def rm_X4_come : Room := { frames := 0, cells := 0, slots := 0, locals := 0 }
set_option maxHeartbeats 4000000 in
set_option maxRecDepth 20000 in
theorem t_X4_come_41_body {p : Program} {l : Launch} {e : Env} {s : State} {m : MethodId} {args : Array Value} {below : List Frame} {meth : Method} {c : Code} {G : zG} (Z : zF p s m args c meth cX4_come 8 RX4 G) (hr : meth.sig.returnType = none) {out : zHp} {r41 : Nat → Int32 → Int32 → zHp → Option (zHp)} (k41 : ∀ {a0 : Nat} {a6 : Int32} {a7 : Int32} {h : zHp} {H : Heap} {locs : List Loc} {ls : Array Slot}, r41 a0 a6 a7 h = some out → zE G s h H locs → lv_has ls 8 [(0, .ref a0), (6, .int a6), (7, .int a7)] → W p l e rm_X4_come s m args below meth c H locs 0 0 (MQ below (zQv G out) args s 0 0 (zA G)) (F0 m 41 ls [])) {a0 : Nat} {a6 : Int32} {a7 : Int32} {h : zHp} {H : Heap} {locs : List Loc} {ls : Array Slot} (hf : f_X4_come_41_body r41 a0 a6 a7 h = some out) (E : zE G s h H locs) (hl : lv_has ls 8 [(0, .ref a0), (6, .int a6), (7, .int a7)]) : W p l e rm_X4_come s m args below meth c H locs 0 0 (MQ below (zQv G out) args s 0 0 (zA G)) (F0 m 41 ls []) := by
  unfold f_X4_come_41_body at hf
  refine lv_iload Z.x Z.b dX4_come_41 (lv_at hl 2 rfl) ?_
  refine lv_if_lt (tgt := 71) Z.x Z.b dX4_come_43 (by decide) (fun c => ?_) (fun c => ?_)
  · have hf := zit hf c
    exact z_vret Z E hr dX4_come_71 hf
  · have hf := zif_ hf c
    refine lv_aload_n Z.x Z.b dX4_come_46 rfl (lv_at hl 0 rfl) ?_
    refine z_getR Z E q_X4_18 dX4_come_47 hf (fun v1 hf => ?_)
    refine lv_iload Z.x Z.b dX4_come_50 (lv_at hl 2 rfl) ?_
    refine lv_iload Z.x Z.b dX4_come_52 (lv_at hl 1 rfl) ?_
    refine lv_bipush (v := 10) Z.x Z.b dX4_come_54 (by decide) ?_
    refine z_irem Z dX4_come_56 hf (fun v2 hf => ?_)
    refine z_iast Z E dX4_come_57 hf (fun h3 H locs hf E => ?_)
    refine lv_iload Z.x Z.b dX4_come_58 (lv_at hl 1 rfl) ?_
    refine lv_bipush (v := 10) Z.x Z.b dX4_come_60 (by decide) ?_
    refine z_idiv Z dX4_come_62 hf (fun v4 hf => ?_)
    refine lv_istore (lv' := [(6, .int v4), (0, .ref a0), (7, .int a7)]) Z.x Z.b dX4_come_63 hl (by decide) rfl (fun ls hl => ?_)
    refine lv_iinc (v := (a7 + (-1))) (lv' := [(7, .int (a7 + (-1))), (6, .int v4), (0, .ref a0)]) Z.x Z.b dX4_come_65 hl (k := 2) rfl rfl (by decide) rfl (fun ls hl => ?_)
    refine lv_goto (tgt := 41) Z.x Z.b dX4_come_68 (by decide) ?_
    exact k41 hf E (lv_sub hl [2, 1, 0] rfl)
theorem t_X4_come_41 {p : Program} {l : Launch} {e : Env} {s : State} {m : MethodId} {args : Array Value} {below : List Frame} {meth : Method} {c : Code} {G : zG} (Z : zF p s m args c meth cX4_come 8 RX4 G) (hr : meth.sig.returnType = none) {out : zHp} : ∀ (n : Nat), ∀ {a0 : Nat} {a6 : Int32} {a7 : Int32} {h : zHp} {H : Heap} {locs : List Loc} {ls : Array Slot}, f_X4_come_41 n a0 a6 a7 h = some out → zE G s h H locs → lv_has ls 8 [(0, .ref a0), (6, .int a6), (7, .int a7)] → W p l e rm_X4_come s m args below meth c H locs 0 0 (MQ below (zQv G out) args s 0 0 (zA G)) (F0 m 41 ls [])
  | 0 => fun hf => by cases hf
  | n + 1 => fun hf E hl => t_X4_come_41_body Z hr (r41 := f_X4_come_41 n) (t_X4_come_41 Z hr n) hf E hl
set_option maxHeartbeats 4000000 in
set_option maxRecDepth 20000 in
theorem t_X4_come {p : Program} {l : Launch} {e : Env} {s : State} {m : MethodId} {args : Array Value} {below : List Frame} {meth : Method} {c : Code} {G : zG} (Z : zF p s m args c meth cX4_come 8 RX4 G) (hr : meth.sig.returnType = none) {out : zHp} {a0 : Nat} {a1 : Int32} {a2 : Int32} {a3 : Int32} {a4 : Int32} {a5 : Int32} {h : zHp} {H : Heap} {locs : List Loc} {ls : Array Slot} (hf : f_X4_come a0 a1 a2 a3 a4 a5 h = some out) (E : zE G s h H locs) (hl : lv_has ls 8 [(0, .ref a0), (1, .int a1), (2, .int a2), (3, .int a3), (4, .int a4), (5, .int a5)]) : W p l e rm_X4_come s m args below meth c H locs 0 0 (MQ below (zQv G out) args s 0 0 (zA G)) (F0 m 0 ls []) := by
  unfold f_X4_come at hf
  refine lv_aload_n Z.x Z.b dX4_come_0 rfl (lv_at hl 0 rfl) ?_
  refine lv_iload_n Z.x Z.b dX4_come_1 rfl (lv_at hl 1 rfl) ?_
  refine z_put Z E p_X4_28 rfl rfl dX4_come_2 hf (fun h1 H locs hf E => ?_)
  refine lv_aload_n Z.x Z.b dX4_come_5 rfl (lv_at hl 0 rfl) ?_
  refine lv_iload_n Z.x Z.b dX4_come_6 rfl (lv_at hl 2 rfl) ?_
  refine z_put Z E p_X4_31 rfl rfl dX4_come_7 hf (fun h2 H locs hf E => ?_)
  refine lv_aload_n Z.x Z.b dX4_come_10 rfl (lv_at hl 0 rfl) ?_
  refine lv_iload_n Z.x Z.b dX4_come_11 rfl (lv_at hl 3 rfl) ?_
  refine z_put Z E p_X4_34 rfl rfl dX4_come_12 hf (fun h3 H locs hf E => ?_)
  refine lv_aload_n Z.x Z.b dX4_come_15 rfl (lv_at hl 0 rfl) ?_
  refine lv_iload_n Z.x Z.b dX4_come_16 rfl (lv_at hl 3 rfl) ?_
  refine lv_iload Z.x Z.b dX4_come_17 (lv_at hl 4 rfl) ?_
  refine lv_iadd Z.x Z.b dX4_come_19 ?_
  refine z_put Z E p_X4_37 rfl rfl dX4_come_20 hf (fun h4 H locs hf E => ?_)
  refine lv_aload_n Z.x Z.b dX4_come_23 rfl (lv_at hl 0 rfl) ?_
  refine lv_iload Z.x Z.b dX4_come_24 (lv_at hl 5 rfl) ?_
  refine z_put Z E p_X4_40 rfl rfl dX4_come_26 hf (fun h5 H locs hf E => ?_)
  refine lv_aload_n Z.x Z.b dX4_come_29 rfl (lv_at hl 0 rfl) ?_
  refine lv_iconst (v := 0) Z.x Z.b dX4_come_30 (by decide) ?_
  refine z_put Z E p_X4_9 rfl rfl dX4_come_31 hf (fun h6 H locs hf E => ?_)
  refine lv_iload Z.x Z.b dX4_come_34 (lv_at hl 5 rfl) ?_
  refine lv_istore (lv' := [(6, .int a5), (0, .ref a0), (1, .int a1), (2, .int a2), (3, .int a3), (4, .int a4), (5, .int a5)]) Z.x Z.b dX4_come_36 hl (by decide) rfl (fun ls hl => ?_)
  refine lv_iconst (v := 3) Z.x Z.b dX4_come_38 (by decide) ?_
  refine lv_istore (lv' := [(7, .int 3), (6, .int a5), (0, .ref a0), (1, .int a1), (2, .int a2), (3, .int a3), (4, .int a4), (5, .int a5)]) Z.x Z.b dX4_come_39 hl (by decide) rfl (fun ls hl => ?_)
  exact t_X4_come_41 Z hr zN hf E (lv_sub hl [2, 1, 0] rfl)
set_option maxHeartbeats 4000000 in
set_option maxRecDepth 20000 in
theorem c_X4_come (l : Launch) (G : zG) (h : zHp) (h' : zHp) (a0 : Nat) (a1 : Int32) (a2 : Int32) (a3 : Int32) (a4 : Int32) (a5 : Int32) (hf : f_X4_come a0 a1 a2 a3 a4 a5 h = some h') : zM0 l yX4_come cX4_come 8 none rm_X4_come G [.ref a0, .int a1, .int a2, .int a3, .int a4, .int a5] h (zQv G h') := by
  refine Met.ofW (cc := cX4_come) (maxL := 8) (ret := none) (by decide) rfl ?_
  intro p e s m args below meth c s₁ B hml hv
  obtain ⟨rfl, hW⟩ := hv
  obtain ⟨Z, E, hr⟩ := zEnter (own := RX4) B hml rfl hW
  have hl := lv_entry ([.ref a0, .int a1, .int a2, .int a3, .int a4, .int a5]) (n := 8) (Nat.le_of_ble_eq_true rfl)
  rw [lg_entry_eq]
  generalize (lg_sl ([.ref a0, .int a1, .int a2, .int a3, .int a4, .int a5]) ++ List.replicate (8 - (lg_sl ([.ref a0, .int a1, .int a2, .int a3, .int a4, .int a5])).length) Slot.unset).toArray = ls at hl ⊢
  have hl : lv_has ls 8 [(0, .ref a0), (1, .int a1), (2, .int a2), (3, .int a3), (4, .int a4), (5, .int a5)] := hl
  exact t_X4_come (out := h') Z hr hf E hl
/-! FerryCrews$Sailing.hasCome()Z -/
theorem dX4_hasCome_0 : decode cX4_hasCome 0 = .ok (.aload_n 0, 1) := by decide +kernel
theorem dX4_hasCome_1 : decode cX4_hasCome 1 = .ok (.getfield 9, 3) := by decide +kernel
theorem dX4_hasCome_4 : decode cX4_hasCome 4 = .ok (.iconst 3, 1) := by decide +kernel
theorem dX4_hasCome_5 : decode cX4_hasCome 5 = .ok (.if_icmp .eq 7, 3) := by decide +kernel
theorem dX4_hasCome_8 : decode cX4_hasCome 8 = .ok (.iconst 1, 1) := by decide +kernel
theorem dX4_hasCome_9 : decode cX4_hasCome 9 = .ok (.goto 4, 3) := by decide +kernel
theorem dX4_hasCome_12 : decode cX4_hasCome 12 = .ok (.iconst 0, 1) := by decide +kernel
theorem dX4_hasCome_13 : decode cX4_hasCome 13 = .ok (.ireturn, 1) := by decide +kernel
def rm_X4_hasCome : Room := { frames := 0, cells := 0, slots := 0, locals := 0 }
set_option maxHeartbeats 4000000 in
set_option maxRecDepth 20000 in
theorem t_X4_hasCome {p : Program} {l : Launch} {e : Env} {s : State} {m : MethodId} {args : Array Value} {below : List Frame} {meth : Method} {c : Code} {G : zG} (Z : zF p s m args c meth cX4_hasCome 1 RX4 G) (hr : meth.sig.returnType = (some .boolean)) {out : Int32 × zHp} {a0 : Nat} {h : zHp} {H : Heap} {locs : List Loc} {ls : Array Slot} (hf : f_X4_hasCome a0 h = some out) (E : zE G s h H locs) (hl : lv_has ls 1 [(0, .ref a0)]) : W p l e rm_X4_hasCome s m args below meth c H locs 0 0 (MQ below (zQi G out.1 out.2) args s 0 0 (zA G)) (F0 m 0 ls []) := by
  unfold f_X4_hasCome at hf
  refine lv_aload_n Z.x Z.b dX4_hasCome_0 rfl (lv_at hl 0 rfl) ?_
  refine z_getI Z E q_X4_9 dX4_hasCome_1 hf (fun v1 hf => ?_)
  refine lv_iconst (v := 3) Z.x Z.b dX4_hasCome_4 (by decide) ?_
  refine lv_icmp_eq (tgt := 12) Z.x Z.b dX4_hasCome_5 (by decide) (fun c => ?_) (fun c => ?_)
  · have hf := zit hf c
    refine lv_iconst (v := 0) Z.x Z.b dX4_hasCome_12 (by decide) ?_
    exact z_zret Z E hr dX4_hasCome_13 hf
  · have hf := zif_ hf c
    refine lv_iconst (v := 1) Z.x Z.b dX4_hasCome_8 (by decide) ?_
    refine lv_goto (tgt := 13) Z.x Z.b dX4_hasCome_9 (by decide) ?_
    exact z_zret Z E hr dX4_hasCome_13 hf
set_option maxHeartbeats 4000000 in
set_option maxRecDepth 20000 in
theorem c_X4_hasCome (l : Launch) (G : zG) (h : zHp) (h' : zHp) (a0 : Nat) (r : Int32) (hf : f_X4_hasCome a0 h = some (r, h')) : zM0 l yX4_hasCome cX4_hasCome 1 (some .boolean) rm_X4_hasCome G [.ref a0] h (zQi G r h') := by
  refine Met.ofW (cc := cX4_hasCome) (maxL := 1) (ret := (some .boolean)) (by decide) rfl ?_
  intro p e s m args below meth c s₁ B hml hv
  obtain ⟨rfl, hW⟩ := hv
  obtain ⟨Z, E, hr⟩ := zEnter (own := RX4) B hml rfl hW
  have hl := lv_entry ([.ref a0]) (n := 1) (Nat.le_of_ble_eq_true rfl)
  rw [lg_entry_eq]
  generalize (lg_sl ([.ref a0]) ++ List.replicate (1 - (lg_sl ([.ref a0])).length) Slot.unset).toArray = ls at hl ⊢
  have hl : lv_has ls 1 [(0, .ref a0)] := hl
  exact t_X4_hasCome (out := (r, h')) Z hr hf E hl
/-! FerryCrews$Sailing.isOpen()Z -/
theorem dX4_isOpen_0 : decode cX4_isOpen 0 = .ok (.aload_n 0, 1) := by decide +kernel
theorem dX4_isOpen_1 : decode cX4_isOpen 1 = .ok (.getfield 9, 3) := by decide +kernel
theorem dX4_isOpen_4 : decode cX4_isOpen 4 = .ok (.ifCond .ne 7, 3) := by decide +kernel
theorem dX4_isOpen_7 : decode cX4_isOpen 7 = .ok (.iconst 1, 1) := by decide +kernel
theorem dX4_isOpen_8 : decode cX4_isOpen 8 = .ok (.goto 4, 3) := by decide +kernel
theorem dX4_isOpen_11 : decode cX4_isOpen 11 = .ok (.iconst 0, 1) := by decide +kernel
theorem dX4_isOpen_12 : decode cX4_isOpen 12 = .ok (.ireturn, 1) := by decide +kernel
def rm_X4_isOpen : Room := { frames := 0, cells := 0, slots := 0, locals := 0 }
set_option maxHeartbeats 4000000 in
set_option maxRecDepth 20000 in
theorem t_X4_isOpen {p : Program} {l : Launch} {e : Env} {s : State} {m : MethodId} {args : Array Value} {below : List Frame} {meth : Method} {c : Code} {G : zG} (Z : zF p s m args c meth cX4_isOpen 1 RX4 G) (hr : meth.sig.returnType = (some .boolean)) {out : Int32 × zHp} {a0 : Nat} {h : zHp} {H : Heap} {locs : List Loc} {ls : Array Slot} (hf : f_X4_isOpen a0 h = some out) (E : zE G s h H locs) (hl : lv_has ls 1 [(0, .ref a0)]) : W p l e rm_X4_isOpen s m args below meth c H locs 0 0 (MQ below (zQi G out.1 out.2) args s 0 0 (zA G)) (F0 m 0 ls []) := by
  unfold f_X4_isOpen at hf
  refine lv_aload_n Z.x Z.b dX4_isOpen_0 rfl (lv_at hl 0 rfl) ?_
  refine z_getI Z E q_X4_9 dX4_isOpen_1 hf (fun v1 hf => ?_)
  refine lv_if_ne (tgt := 11) Z.x Z.b dX4_isOpen_4 (by decide) (fun c => ?_) (fun c => ?_)
  · have hf := zif_ hf c
    refine lv_iconst (v := 0) Z.x Z.b dX4_isOpen_11 (by decide) ?_
    exact z_zret Z E hr dX4_isOpen_12 hf
  · have hf := zit hf c
    refine lv_iconst (v := 1) Z.x Z.b dX4_isOpen_7 (by decide) ?_
    refine lv_goto (tgt := 12) Z.x Z.b dX4_isOpen_8 (by decide) ?_
    exact z_zret Z E hr dX4_isOpen_12 hf
set_option maxHeartbeats 4000000 in
set_option maxRecDepth 20000 in
theorem c_X4_isOpen (l : Launch) (G : zG) (h : zHp) (h' : zHp) (a0 : Nat) (r : Int32) (hf : f_X4_isOpen a0 h = some (r, h')) : zM0 l yX4_isOpen cX4_isOpen 1 (some .boolean) rm_X4_isOpen G [.ref a0] h (zQi G r h') := by
  refine Met.ofW (cc := cX4_isOpen) (maxL := 1) (ret := (some .boolean)) (by decide) rfl ?_
  intro p e s m args below meth c s₁ B hml hv
  obtain ⟨rfl, hW⟩ := hv
  obtain ⟨Z, E, hr⟩ := zEnter (own := RX4) B hml rfl hW
  have hl := lv_entry ([.ref a0]) (n := 1) (Nat.le_of_ble_eq_true rfl)
  rw [lg_entry_eq]
  generalize (lg_sl ([.ref a0]) ++ List.replicate (1 - (lg_sl ([.ref a0])).length) Slot.unset).toArray = ls at hl ⊢
  have hl : lv_has ls 1 [(0, .ref a0)] := hl
  exact t_X4_isOpen (out := (r, h')) Z hr hf E hl
/-! FerryCrews$Sailing.occupies(III)Z -/
theorem dX4_occupies_0 : decode cX4_occupies 0 = .ok (.aload_n 0, 1) := by decide +kernel
theorem dX4_occupies_1 : decode cX4_occupies 1 = .ok (.getfield 9, 3) := by decide +kernel
theorem dX4_occupies_4 : decode cX4_occupies 4 = .ok (.ifCond .eq 11, 3) := by decide +kernel
theorem dX4_occupies_7 : decode cX4_occupies 7 = .ok (.aload_n 0, 1) := by decide +kernel
theorem dX4_occupies_8 : decode cX4_occupies 8 = .ok (.getfield 9, 3) := by decide +kernel
theorem dX4_occupies_11 : decode cX4_occupies 11 = .ok (.iconst 1, 1) := by decide +kernel
theorem dX4_occupies_12 : decode cX4_occupies 12 = .ok (.if_icmp .ne 7, 3) := by decide +kernel
theorem dX4_occupies_15 : decode cX4_occupies 15 = .ok (.iconst 1, 1) := by decide +kernel
theorem dX4_occupies_16 : decode cX4_occupies 16 = .ok (.goto 4, 3) := by decide +kernel
theorem dX4_occupies_19 : decode cX4_occupies 19 = .ok (.iconst 0, 1) := by decide +kernel
theorem dX4_occupies_20 : decode cX4_occupies 20 = .ok (.istore 4, 2) := by decide +kernel
theorem dX4_occupies_22 : decode cX4_occupies 22 = .ok (.iload 4, 2) := by decide +kernel
theorem dX4_occupies_24 : decode cX4_occupies 24 = .ok (.ifCond .eq 31, 3) := by decide +kernel
theorem dX4_occupies_27 : decode cX4_occupies 27 = .ok (.aload_n 0, 1) := by decide +kernel
theorem dX4_occupies_28 : decode cX4_occupies 28 = .ok (.getfield 31, 3) := by decide +kernel
theorem dX4_occupies_31 : decode cX4_occupies 31 = .ok (.iload_n 1, 1) := by decide +kernel
theorem dX4_occupies_32 : decode cX4_occupies 32 = .ok (.if_icmp .ne 23, 3) := by decide +kernel
theorem dX4_occupies_35 : decode cX4_occupies 35 = .ok (.aload_n 0, 1) := by decide +kernel
theorem dX4_occupies_36 : decode cX4_occupies 36 = .ok (.getfield 34, 3) := by decide +kernel
theorem dX4_occupies_39 : decode cX4_occupies 39 = .ok (.iload_n 3, 1) := by decide +kernel
theorem dX4_occupies_40 : decode cX4_occupies 40 = .ok (.if_icmp .ge 15, 3) := by decide +kernel
theorem dX4_occupies_43 : decode cX4_occupies 43 = .ok (.iload_n 2, 1) := by decide +kernel
theorem dX4_occupies_44 : decode cX4_occupies 44 = .ok (.aload_n 0, 1) := by decide +kernel
theorem dX4_occupies_45 : decode cX4_occupies 45 = .ok (.getfield 37, 3) := by decide +kernel
theorem dX4_occupies_48 : decode cX4_occupies 48 = .ok (.if_icmp .ge 7, 3) := by decide +kernel
theorem dX4_occupies_51 : decode cX4_occupies 51 = .ok (.iconst 1, 1) := by decide +kernel
theorem dX4_occupies_52 : decode cX4_occupies 52 = .ok (.goto 4, 3) := by decide +kernel
theorem dX4_occupies_55 : decode cX4_occupies 55 = .ok (.iconst 0, 1) := by decide +kernel
theorem dX4_occupies_56 : decode cX4_occupies 56 = .ok (.ireturn, 1) := by decide +kernel
def rm_X4_occupies : Room := { frames := 0, cells := 0, slots := 0, locals := 0 }
set_option maxHeartbeats 4000000 in
set_option maxRecDepth 20000 in
theorem t_X4_occupies_55 {p : Program} {l : Launch} {e : Env} {s : State} {m : MethodId} {args : Array Value} {below : List Frame} {meth : Method} {c : Code} {G : zG} (Z : zF p s m args c meth cX4_occupies 5 RX4 G) (hr : meth.sig.returnType = (some .boolean)) {out : Int32 × zHp} {h : zHp} {H : Heap} {locs : List Loc} {ls : Array Slot} (hf : f_X4_occupies_55 h = some out) (E : zE G s h H locs) (hl : lv_has ls 5 []) : W p l e rm_X4_occupies s m args below meth c H locs 0 0 (MQ below (zQi G out.1 out.2) args s 0 0 (zA G)) (F0 m 55 ls []) := by
  unfold f_X4_occupies_55 at hf
  refine lv_iconst (v := 0) Z.x Z.b dX4_occupies_55 (by decide) ?_
  exact z_zret Z E hr dX4_occupies_56 hf
set_option maxHeartbeats 4000000 in
set_option maxRecDepth 20000 in
theorem t_X4_occupies_20 {p : Program} {l : Launch} {e : Env} {s : State} {m : MethodId} {args : Array Value} {below : List Frame} {meth : Method} {c : Code} {G : zG} (Z : zF p s m args c meth cX4_occupies 5 RX4 G) (hr : meth.sig.returnType = (some .boolean)) {out : Int32 × zHp} {a0 : Nat} {a1 : Int32} {a2 : Int32} {a3 : Int32} {s0 : Int32} {h : zHp} {H : Heap} {locs : List Loc} {ls : Array Slot} (hf : f_X4_occupies_20 a0 a1 a2 a3 s0 h = some out) (E : zE G s h H locs) (hl : lv_has ls 5 [(0, .ref a0), (1, .int a1), (2, .int a2), (3, .int a3)]) : W p l e rm_X4_occupies s m args below meth c H locs 0 0 (MQ below (zQi G out.1 out.2) args s 0 0 (zA G)) (F0 m 20 ls [.int s0]) := by
  unfold f_X4_occupies_20 at hf
  refine lv_istore (lv' := [(4, .int s0), (0, .ref a0), (1, .int a1), (2, .int a2), (3, .int a3)]) Z.x Z.b dX4_occupies_20 hl (by decide) rfl (fun ls hl => ?_)
  refine lv_iload Z.x Z.b dX4_occupies_22 (lv_at hl 0 rfl) ?_
  refine lv_if_eq (tgt := 55) Z.x Z.b dX4_occupies_24 (by decide) (fun c => ?_) (fun c => ?_)
  · have hf := zit hf c
    exact t_X4_occupies_55 Z hr hf E (lv_sub hl [] rfl)
  · have hf := zif_ hf c
    refine lv_aload_n Z.x Z.b dX4_occupies_27 rfl (lv_at hl 1 rfl) ?_
    refine z_getI Z E q_X4_31 dX4_occupies_28 hf (fun v1 hf => ?_)
    refine lv_iload_n Z.x Z.b dX4_occupies_31 rfl (lv_at hl 2 rfl) ?_
    refine lv_icmp_ne (tgt := 55) Z.x Z.b dX4_occupies_32 (by decide) (fun c => ?_) (fun c => ?_)
    · have hf := zif_ hf c
      exact t_X4_occupies_55 Z hr hf E (lv_sub hl [] rfl)
    · have hf := zit hf c
      refine lv_aload_n Z.x Z.b dX4_occupies_35 rfl (lv_at hl 1 rfl) ?_
      refine z_getI Z E q_X4_34 dX4_occupies_36 hf (fun v2 hf => ?_)
      refine lv_iload_n Z.x Z.b dX4_occupies_39 rfl (lv_at hl 4 rfl) ?_
      refine lv_icmp_ge (tgt := 55) Z.x Z.b dX4_occupies_40 (by decide) (fun c => ?_) (fun c => ?_)
      · have hf := zit hf c
        exact t_X4_occupies_55 Z hr hf E (lv_sub hl [] rfl)
      · have hf := zif_ hf c
        refine lv_iload_n Z.x Z.b dX4_occupies_43 rfl (lv_at hl 3 rfl) ?_
        refine lv_aload_n Z.x Z.b dX4_occupies_44 rfl (lv_at hl 1 rfl) ?_
        refine z_getI Z E q_X4_37 dX4_occupies_45 hf (fun v3 hf => ?_)
        refine lv_icmp_ge (tgt := 55) Z.x Z.b dX4_occupies_48 (by decide) (fun c => ?_) (fun c => ?_)
        · have hf := zit hf c
          exact t_X4_occupies_55 Z hr hf E (lv_sub hl [] rfl)
        · have hf := zif_ hf c
          refine lv_iconst (v := 1) Z.x Z.b dX4_occupies_51 (by decide) ?_
          refine lv_goto (tgt := 56) Z.x Z.b dX4_occupies_52 (by decide) ?_
          exact z_zret Z E hr dX4_occupies_56 hf
set_option maxHeartbeats 4000000 in
set_option maxRecDepth 20000 in
theorem t_X4_occupies_15 {p : Program} {l : Launch} {e : Env} {s : State} {m : MethodId} {args : Array Value} {below : List Frame} {meth : Method} {c : Code} {G : zG} (Z : zF p s m args c meth cX4_occupies 5 RX4 G) (hr : meth.sig.returnType = (some .boolean)) {out : Int32 × zHp} {a0 : Nat} {a1 : Int32} {a2 : Int32} {a3 : Int32} {h : zHp} {H : Heap} {locs : List Loc} {ls : Array Slot} (hf : f_X4_occupies_15 a0 a1 a2 a3 h = some out) (E : zE G s h H locs) (hl : lv_has ls 5 [(0, .ref a0), (1, .int a1), (2, .int a2), (3, .int a3)]) : W p l e rm_X4_occupies s m args below meth c H locs 0 0 (MQ below (zQi G out.1 out.2) args s 0 0 (zA G)) (F0 m 15 ls []) := by
  unfold f_X4_occupies_15 at hf
  refine lv_iconst (v := 1) Z.x Z.b dX4_occupies_15 (by decide) ?_
  refine lv_goto (tgt := 20) Z.x Z.b dX4_occupies_16 (by decide) ?_
  exact t_X4_occupies_20 Z hr hf E (lv_sub hl [0, 1, 2, 3] rfl)
set_option maxHeartbeats 4000000 in
set_option maxRecDepth 20000 in
theorem t_X4_occupies {p : Program} {l : Launch} {e : Env} {s : State} {m : MethodId} {args : Array Value} {below : List Frame} {meth : Method} {c : Code} {G : zG} (Z : zF p s m args c meth cX4_occupies 5 RX4 G) (hr : meth.sig.returnType = (some .boolean)) {out : Int32 × zHp} {a0 : Nat} {a1 : Int32} {a2 : Int32} {a3 : Int32} {h : zHp} {H : Heap} {locs : List Loc} {ls : Array Slot} (hf : f_X4_occupies a0 a1 a2 a3 h = some out) (E : zE G s h H locs) (hl : lv_has ls 5 [(0, .ref a0), (1, .int a1), (2, .int a2), (3, .int a3)]) : W p l e rm_X4_occupies s m args below meth c H locs 0 0 (MQ below (zQi G out.1 out.2) args s 0 0 (zA G)) (F0 m 0 ls []) := by
  unfold f_X4_occupies at hf
  refine lv_aload_n Z.x Z.b dX4_occupies_0 rfl (lv_at hl 0 rfl) ?_
  refine z_getI Z E q_X4_9 dX4_occupies_1 hf (fun v1 hf => ?_)
  refine lv_if_eq (tgt := 15) Z.x Z.b dX4_occupies_4 (by decide) (fun c => ?_) (fun c => ?_)
  · have hf := zit hf c
    exact t_X4_occupies_15 Z hr hf E (lv_sub hl [0, 1, 2, 3] rfl)
  · have hf := zif_ hf c
    refine lv_aload_n Z.x Z.b dX4_occupies_7 rfl (lv_at hl 0 rfl) ?_
    refine z_getI Z E q_X4_9 dX4_occupies_8 hf (fun v2 hf => ?_)
    refine lv_iconst (v := 1) Z.x Z.b dX4_occupies_11 (by decide) ?_
    refine lv_icmp_ne (tgt := 19) Z.x Z.b dX4_occupies_12 (by decide) (fun c => ?_) (fun c => ?_)
    · have hf := zif_ hf c
      refine lv_iconst (v := 0) Z.x Z.b dX4_occupies_19 (by decide) ?_
      exact t_X4_occupies_20 Z hr hf E (lv_sub hl [0, 1, 2, 3] rfl)
    · have hf := zit hf c
      exact t_X4_occupies_15 Z hr hf E (lv_sub hl [0, 1, 2, 3] rfl)
set_option maxHeartbeats 4000000 in
set_option maxRecDepth 20000 in
theorem c_X4_occupies (l : Launch) (G : zG) (h : zHp) (h' : zHp) (a0 : Nat) (a1 : Int32) (a2 : Int32) (a3 : Int32) (r : Int32) (hf : f_X4_occupies a0 a1 a2 a3 h = some (r, h')) : zM0 l yX4_occupies cX4_occupies 5 (some .boolean) rm_X4_occupies G [.ref a0, .int a1, .int a2, .int a3] h (zQi G r h') := by
  refine Met.ofW (cc := cX4_occupies) (maxL := 5) (ret := (some .boolean)) (by decide) rfl ?_
  intro p e s m args below meth c s₁ B hml hv
  obtain ⟨rfl, hW⟩ := hv
  obtain ⟨Z, E, hr⟩ := zEnter (own := RX4) B hml rfl hW
  have hl := lv_entry ([.ref a0, .int a1, .int a2, .int a3]) (n := 5) (Nat.le_of_ble_eq_true rfl)
  rw [lg_entry_eq]
  generalize (lg_sl ([.ref a0, .int a1, .int a2, .int a3]) ++ List.replicate (5 - (lg_sl ([.ref a0, .int a1, .int a2, .int a3])).length) Slot.unset).toArray = ls at hl ⊢
  have hl : lv_has ls 5 [(0, .ref a0), (1, .int a1), (2, .int a2), (3, .int a3)] := hl
  exact t_X4_occupies (out := (r, h')) Z hr hf E hl
/-! FerryCrews.isMemberNumber(I)Z -/
theorem dX7_isMemberNumber_0 : decode cX7_isMemberNumber 0 = .ok (.iload_n 0, 1) := by decide +kernel
theorem dX7_isMemberNumber_1 : decode cX7_isMemberNumber 1 = .ok (.ifCond .lt 13, 3) := by decide +kernel
theorem dX7_isMemberNumber_4 : decode cX7_isMemberNumber 4 = .ok (.iload_n 0, 1) := by decide +kernel
theorem dX7_isMemberNumber_5 : decode cX7_isMemberNumber 5 = .ok (.bipush 12, 2) := by decide +kernel
theorem dX7_isMemberNumber_7 : decode cX7_isMemberNumber 7 = .ok (.if_icmp .ge 7, 3) := by decide +kernel
theorem dX7_isMemberNumber_10 : decode cX7_isMemberNumber 10 = .ok (.iconst 1, 1) := by decide +kernel
theorem dX7_isMemberNumber_11 : decode cX7_isMemberNumber 11 = .ok (.goto 4, 3) := by decide +kernel
theorem dX7_isMemberNumber_14 : decode cX7_isMemberNumber 14 = .ok (.iconst 0, 1) := by decide +kernel
theorem dX7_isMemberNumber_15 : decode cX7_isMemberNumber 15 = .ok (.ireturn, 1) := by decide +kernel
def rm_X7_isMemberNumber : Room := { frames := 0, cells := 0, slots := 0, locals := 0 }
set_option maxHeartbeats 4000000 in
set_option maxRecDepth 20000 in
theorem t_X7_isMemberNumber_14 {p : Program} {l : Launch} {e : Env} {s : State} {m : MethodId} {args : Array Value} {below : List Frame} {meth : Method} {c : Code} {G : zG} (Z : zF p s m args c meth cX7_isMemberNumber 1 RX7 G) (hr : meth.sig.returnType = (some .boolean)) {out : Int32 × zHp} {h : zHp} {H : Heap} {locs : List Loc} {ls : Array Slot} (hf : f_X7_isMemberNumber_14 h = some out) (E : zE G s h H locs) (hl : lv_has ls 1 []) : W p l e rm_X7_isMemberNumber s m args below meth c H locs 0 0 (MQ below (zQi G out.1 out.2) args s 0 0 (zA G)) (F0 m 14 ls []) := by
  unfold f_X7_isMemberNumber_14 at hf
  refine lv_iconst (v := 0) Z.x Z.b dX7_isMemberNumber_14 (by decide) ?_
  exact z_zret Z E hr dX7_isMemberNumber_15 hf
set_option maxHeartbeats 4000000 in
set_option maxRecDepth 20000 in
theorem t_X7_isMemberNumber {p : Program} {l : Launch} {e : Env} {s : State} {m : MethodId} {args : Array Value} {below : List Frame} {meth : Method} {c : Code} {G : zG} (Z : zF p s m args c meth cX7_isMemberNumber 1 RX7 G) (hr : meth.sig.returnType = (some .boolean)) {out : Int32 × zHp} {a0 : Int32} {h : zHp} {H : Heap} {locs : List Loc} {ls : Array Slot} (hf : f_X7_isMemberNumber a0 h = some out) (E : zE G s h H locs) (hl : lv_has ls 1 [(0, .int a0)]) : W p l e rm_X7_isMemberNumber s m args below meth c H locs 0 0 (MQ below (zQi G out.1 out.2) args s 0 0 (zA G)) (F0 m 0 ls []) := by
  unfold f_X7_isMemberNumber at hf
  refine lv_iload_n Z.x Z.b dX7_isMemberNumber_0 rfl (lv_at hl 0 rfl) ?_
  refine lv_if_lt (tgt := 14) Z.x Z.b dX7_isMemberNumber_1 (by decide) (fun c => ?_) (fun c => ?_)
  · have hf := zit hf c
    exact t_X7_isMemberNumber_14 Z hr hf E (lv_sub hl [] rfl)
  · have hf := zif_ hf c
    refine lv_iload_n Z.x Z.b dX7_isMemberNumber_4 rfl (lv_at hl 0 rfl) ?_
    refine lv_bipush (v := 12) Z.x Z.b dX7_isMemberNumber_5 (by decide) ?_
    refine lv_icmp_ge (tgt := 14) Z.x Z.b dX7_isMemberNumber_7 (by decide) (fun c => ?_) (fun c => ?_)
    · have hf := zit hf c
      exact t_X7_isMemberNumber_14 Z hr hf E (lv_sub hl [] rfl)
    · have hf := zif_ hf c
      refine lv_iconst (v := 1) Z.x Z.b dX7_isMemberNumber_10 (by decide) ?_
      refine lv_goto (tgt := 15) Z.x Z.b dX7_isMemberNumber_11 (by decide) ?_
      exact z_zret Z E hr dX7_isMemberNumber_15 hf
set_option maxHeartbeats 4000000 in
set_option maxRecDepth 20000 in
theorem c_X7_isMemberNumber (l : Launch) (G : zG) (h : zHp) (h' : zHp) (a0 : Int32) (r : Int32) (hf : f_X7_isMemberNumber a0 h = some (r, h')) : zM0 l yX7_isMemberNumber cX7_isMemberNumber 1 (some .boolean) rm_X7_isMemberNumber G [.int a0] h (zQi G r h') := by
  refine Met.ofW (cc := cX7_isMemberNumber) (maxL := 1) (ret := (some .boolean)) (by decide) rfl ?_
  intro p e s m args below meth c s₁ B hml hv
  obtain ⟨rfl, hW⟩ := hv
  obtain ⟨Z, E, hr⟩ := zEnter (own := RX7) B hml rfl hW
  have hl := lv_entry ([.int a0]) (n := 1) (Nat.le_of_ble_eq_true rfl)
  rw [lg_entry_eq]
  generalize (lg_sl ([.int a0]) ++ List.replicate (1 - (lg_sl ([.int a0])).length) Slot.unset).toArray = ls at hl ⊢
  have hl : lv_has ls 1 [(0, .int a0)] := hl
  exact t_X7_isMemberNumber (out := (r, h')) Z hr hf E hl
/-! FerryCrews$Sailing.roleOf(I)I -/
theorem dX4_roleOf_0 : decode cX4_roleOf 0 = .ok (.iload_n 1, 1) := by decide +kernel
theorem dX4_roleOf_1 : decode cX4_roleOf 1 = .ok (.invokestatic 53, 3) := by decide +kernel
theorem dX4_roleOf_4 : decode cX4_roleOf 4 = .ok (.ifCond .eq 12, 3) := by decide +kernel
theorem dX4_roleOf_7 : decode cX4_roleOf 7 = .ok (.aload_n 0, 1) := by decide +kernel
theorem dX4_roleOf_8 : decode cX4_roleOf 8 = .ok (.getfield 22, 3) := by decide +kernel
theorem dX4_roleOf_11 : decode cX4_roleOf 11 = .ok (.iload_n 1, 1) := by decide +kernel
theorem dX4_roleOf_12 : decode cX4_roleOf 12 = .ok (.iaload, 1) := by decide +kernel
theorem dX4_roleOf_13 : decode cX4_roleOf 13 = .ok (.goto 4, 3) := by decide +kernel
theorem dX4_roleOf_16 : decode cX4_roleOf 16 = .ok (.iconst (-1), 1) := by decide +kernel
theorem dX4_roleOf_17 : decode cX4_roleOf 17 = .ok (.ireturn, 1) := by decide +kernel
set_option maxRecDepth 20000 in
theorem wc_X7_isMemberNumber : Cond.code yX7_isMemberNumber cX7_isMemberNumber 1 (some .boolean) ∈ zB := List.mem_filter.mpr ⟨List.mem_of_getElem? (i := 294) (by decide +kernel), by decide +kernel⟩
set_option maxRecDepth 20000 in
theorem k_X4_53 : zCalN RX4 53 yX7_isMemberNumber "FerryCrews" cX7_isMemberNumber 1 (some .boolean) 1 := ⟨List.mem_of_getElem? (i := 314) (by decide +kernel), wi_X7, wc_X7_isMemberNumber, by decide +kernel, by decide +kernel, by decide +kernel⟩
set_option maxRecDepth 20000 in
theorem wt_X7_isMemberNumber : Cond.static yX7_isMemberNumber ∈ zB := List.mem_filter.mpr ⟨List.mem_of_getElem? (i := 293) (by decide +kernel), by decide +kernel⟩
def rm_X4_roleOf : Room := { frames := 1, cells := 0, slots := 0, locals := 20 }
set_option maxHeartbeats 4000000 in
set_option maxRecDepth 20000 in
theorem t_X4_roleOf {p : Program} {l : Launch} {e : Env} {s : State} {m : MethodId} {args : Array Value} {below : List Frame} {meth : Method} {c : Code} {G : zG} (Z : zF p s m args c meth cX4_roleOf 2 RX4 G) (hr : meth.sig.returnType = (some .int)) {out : Int32 × zHp} {a0 : Nat} {a1 : Int32} {h : zHp} {H : Heap} {locs : List Loc} {ls : Array Slot} (hf : f_X4_roleOf a0 a1 h = some out) (E : zE G s h H locs) (hl : lv_has ls 2 [(0, .ref a0), (1, .int a1)]) : W p l e rm_X4_roleOf s m args below meth c H locs 0 0 (MQ below (zQi G out.1 out.2) args s 0 0 (zA G)) (F0 m 0 ls []) := by
  unfold f_X4_roleOf at hf
  refine lv_iload_n Z.x Z.b dX4_roleOf_0 rfl (lv_at hl 1 rfl) ?_
  refine z_SNi (As := [.int a1]) Z E hl.1 k_X4_53 wt_X7_isMemberNumber hf (fun r h' e => c_X7_isMemberNumber l G h h' a1 r e) rfl rfl (Nat.le_of_ble_eq_true rfl) (zRm_of rfl (Nat.zero_le _) (Nat.zero_le _)) dX4_roleOf_1 (fun v1 h2 H locs hf E => ?_)
  refine lv_if_eq (tgt := 16) Z.x Z.b dX4_roleOf_4 (by decide) (fun c => ?_) (fun c => ?_)
  · have hf := zit hf c
    refine lv_iconst (v := (-1)) Z.x Z.b dX4_roleOf_16 (by decide) ?_
    exact z_iret Z E hr dX4_roleOf_17 hf
  · have hf := zif_ hf c
    refine lv_aload_n Z.x Z.b dX4_roleOf_7 rfl (lv_at hl 0 rfl) ?_
    refine z_getR Z E q_X4_22 dX4_roleOf_8 hf (fun v3 hf => ?_)
    refine lv_iload_n Z.x Z.b dX4_roleOf_11 rfl (lv_at hl 1 rfl) ?_
    refine z_iald Z E dX4_roleOf_12 hf (fun v4 hf => ?_)
    refine lv_goto (tgt := 17) Z.x Z.b dX4_roleOf_13 (by decide) ?_
    exact z_iret Z E hr dX4_roleOf_17 hf
set_option maxHeartbeats 4000000 in
set_option maxRecDepth 20000 in
theorem c_X4_roleOf (l : Launch) (G : zG) (h : zHp) (h' : zHp) (a0 : Nat) (a1 : Int32) (r : Int32) (hf : f_X4_roleOf a0 a1 h = some (r, h')) : zM0 l yX4_roleOf cX4_roleOf 2 (some .int) rm_X4_roleOf G [.ref a0, .int a1] h (zQi G r h') := by
  refine Met.ofW (cc := cX4_roleOf) (maxL := 2) (ret := (some .int)) (by decide) rfl ?_
  intro p e s m args below meth c s₁ B hml hv
  obtain ⟨rfl, hW⟩ := hv
  obtain ⟨Z, E, hr⟩ := zEnter (own := RX4) B hml rfl hW
  have hl := lv_entry ([.ref a0, .int a1]) (n := 2) (Nat.le_of_ble_eq_true rfl)
  rw [lg_entry_eq]
  generalize (lg_sl ([.ref a0, .int a1]) ++ List.replicate (2 - (lg_sl ([.ref a0, .int a1])).length) Slot.unset).toArray = ls at hl ⊢
  have hl : lv_has ls 2 [(0, .ref a0), (1, .int a1)] := hl
  exact t_X4_roleOf (out := (r, h')) Z hr hf E hl
/-! FerryCrews$Sailing.seats(I)Z -/
theorem dX4_seats_0 : decode cX4_seats 0 = .ok (.aload_n 0, 1) := by decide +kernel
theorem dX4_seats_1 : decode cX4_seats 1 = .ok (.iload_n 1, 1) := by decide +kernel
theorem dX4_seats_2 : decode cX4_seats 2 = .ok (.invokevirtual 49, 3) := by decide +kernel
theorem dX4_seats_5 : decode cX4_seats 5 = .ok (.iconst (-1), 1) := by decide +kernel
theorem dX4_seats_6 : decode cX4_seats 6 = .ok (.if_icmp .eq 7, 3) := by decide +kernel
theorem dX4_seats_9 : decode cX4_seats 9 = .ok (.iconst 1, 1) := by decide +kernel
theorem dX4_seats_10 : decode cX4_seats 10 = .ok (.goto 4, 3) := by decide +kernel
theorem dX4_seats_13 : decode cX4_seats 13 = .ok (.iconst 0, 1) := by decide +kernel
theorem dX4_seats_14 : decode cX4_seats 14 = .ok (.ireturn, 1) := by decide +kernel
set_option maxRecDepth 20000 in
theorem wc_X4_roleOf : Cond.code yX4_roleOf cX4_roleOf 2 (some .int) ∈ zB := List.mem_filter.mpr ⟨List.mem_of_getElem? (i := 313) (by decide +kernel), by decide +kernel⟩
set_option maxRecDepth 20000 in
theorem wm_X4_49 : Cond.methodLink RX4 49 yX4_roleOf ∈ zB := List.mem_filter.mpr ⟨List.mem_of_getElem? (i := 310) (by decide +kernel), by decide +kernel⟩
theorem k_X4_49 : zCal RX4 49 yX4_roleOf cX4_roleOf 2 (some .int) 1 := ⟨wm_X4_49, wi_X4, wc_X4_roleOf, by decide +kernel, by decide +kernel, by decide +kernel⟩
set_option maxRecDepth 20000 in
theorem wn_X4_roleOf : Cond.instanceMethod yX4_roleOf ∈ zB := List.mem_filter.mpr ⟨List.mem_of_getElem? (i := 311) (by decide +kernel), by decide +kernel⟩
set_option maxRecDepth 20000 in
theorem ws_X4_roleOf : Cond.selects RX4 yX4_roleOf yX4_roleOf ∈ zB := List.mem_filter.mpr ⟨List.mem_of_getElem? (i := 312) (by decide +kernel), by decide +kernel⟩
theorem v_X4_roleOf : zVir yX4_roleOf 4 := ⟨wn_X4_roleOf, ws_X4_roleOf, TX4, 9, rfl⟩
def rm_X4_seats : Room := { frames := 2, cells := 0, slots := 0, locals := 41 }
set_option maxHeartbeats 4000000 in
set_option maxRecDepth 20000 in
theorem t_X4_seats {p : Program} {l : Launch} {e : Env} {s : State} {m : MethodId} {args : Array Value} {below : List Frame} {meth : Method} {c : Code} {G : zG} (Z : zF p s m args c meth cX4_seats 2 RX4 G) (hr : meth.sig.returnType = (some .boolean)) {out : Int32 × zHp} {a0 : Nat} {a1 : Int32} {h : zHp} {H : Heap} {locs : List Loc} {ls : Array Slot} (hf : f_X4_seats a0 a1 h = some out) (E : zE G s h H locs) (hl : lv_has ls 2 [(0, .ref a0), (1, .int a1)]) : W p l e rm_X4_seats s m args below meth c H locs 0 0 (MQ below (zQi G out.1 out.2) args s 0 0 (zA G)) (F0 m 0 ls []) := by
  unfold f_X4_seats at hf
  refine lv_aload_n Z.x Z.b dX4_seats_0 rfl (lv_at hl 0 rfl) ?_
  refine lv_iload_n Z.x Z.b dX4_seats_1 rfl (lv_at hl 1 rfl) ?_
  refine z_Vi (As := [.int a1]) Z E hl.1 k_X4_49 v_X4_roleOf hf (fun r h' e => c_X4_roleOf l G h h' a0 a1 r e) rfl rfl (Nat.le_of_ble_eq_true rfl) (zRm_of rfl (Nat.zero_le _) (Nat.zero_le _)) dX4_seats_2 (fun v1 h2 H locs hf E => ?_)
  refine lv_iconst (v := (-1)) Z.x Z.b dX4_seats_5 (by decide) ?_
  refine lv_icmp_eq (tgt := 13) Z.x Z.b dX4_seats_6 (by decide) (fun c => ?_) (fun c => ?_)
  · have hf := zit hf c
    refine lv_iconst (v := 0) Z.x Z.b dX4_seats_13 (by decide) ?_
    exact z_zret Z E hr dX4_seats_14 hf
  · have hf := zif_ hf c
    refine lv_iconst (v := 1) Z.x Z.b dX4_seats_9 (by decide) ?_
    refine lv_goto (tgt := 14) Z.x Z.b dX4_seats_10 (by decide) ?_
    exact z_zret Z E hr dX4_seats_14 hf
set_option maxHeartbeats 4000000 in
set_option maxRecDepth 20000 in
theorem c_X4_seats (l : Launch) (G : zG) (h : zHp) (h' : zHp) (a0 : Nat) (a1 : Int32) (r : Int32) (hf : f_X4_seats a0 a1 h = some (r, h')) : zM0 l yX4_seats cX4_seats 2 (some .boolean) rm_X4_seats G [.ref a0, .int a1] h (zQi G r h') := by
  refine Met.ofW (cc := cX4_seats) (maxL := 2) (ret := (some .boolean)) (by decide) rfl ?_
  intro p e s m args below meth c s₁ B hml hv
  obtain ⟨rfl, hW⟩ := hv
  obtain ⟨Z, E, hr⟩ := zEnter (own := RX4) B hml rfl hW
  have hl := lv_entry ([.ref a0, .int a1]) (n := 2) (Nat.le_of_ble_eq_true rfl)
  rw [lg_entry_eq]
  generalize (lg_sl ([.ref a0, .int a1]) ++ List.replicate (2 - (lg_sl ([.ref a0, .int a1])).length) Slot.unset).toArray = ls at hl ⊢
  have hl : lv_has ls 2 [(0, .ref a0), (1, .int a1)] := hl
  exact t_X4_seats (out := (r, h')) Z hr hf E hl
/-! FerryCrews$Sailing.seat(II)V -/
theorem dX4_seat_0 : decode cX4_seat 0 = .ok (.iload_n 1, 1) := by decide +kernel
theorem dX4_seat_1 : decode cX4_seat 1 = .ok (.invokestatic 53, 3) := by decide +kernel
theorem dX4_seat_4 : decode cX4_seat 4 = .ok (.ifCond .eq 10, 3) := by decide +kernel
theorem dX4_seat_7 : decode cX4_seat 7 = .ok (.aload_n 0, 1) := by decide +kernel
theorem dX4_seat_8 : decode cX4_seat 8 = .ok (.getfield 22, 3) := by decide +kernel
theorem dX4_seat_11 : decode cX4_seat 11 = .ok (.iload_n 1, 1) := by decide +kernel
theorem dX4_seat_12 : decode cX4_seat 12 = .ok (.iload_n 2, 1) := by decide +kernel
theorem dX4_seat_13 : decode cX4_seat 13 = .ok (.iastore, 1) := by decide +kernel
theorem dX4_seat_14 : decode cX4_seat 14 = .ok (.return_, 1) := by decide +kernel
def rm_X4_seat : Room := { frames := 1, cells := 0, slots := 0, locals := 20 }
set_option maxHeartbeats 4000000 in
set_option maxRecDepth 20000 in
theorem t_X4_seat {p : Program} {l : Launch} {e : Env} {s : State} {m : MethodId} {args : Array Value} {below : List Frame} {meth : Method} {c : Code} {G : zG} (Z : zF p s m args c meth cX4_seat 3 RX4 G) (hr : meth.sig.returnType = none) {out : zHp} {a0 : Nat} {a1 : Int32} {a2 : Int32} {h : zHp} {H : Heap} {locs : List Loc} {ls : Array Slot} (hf : f_X4_seat a0 a1 a2 h = some out) (E : zE G s h H locs) (hl : lv_has ls 3 [(0, .ref a0), (1, .int a1), (2, .int a2)]) : W p l e rm_X4_seat s m args below meth c H locs 0 0 (MQ below (zQv G out) args s 0 0 (zA G)) (F0 m 0 ls []) := by
  unfold f_X4_seat at hf
  refine lv_iload_n Z.x Z.b dX4_seat_0 rfl (lv_at hl 1 rfl) ?_
  refine z_SNi (As := [.int a1]) Z E hl.1 k_X4_53 wt_X7_isMemberNumber hf (fun r h' e => c_X7_isMemberNumber l G h h' a1 r e) rfl rfl (Nat.le_of_ble_eq_true rfl) (zRm_of rfl (Nat.zero_le _) (Nat.zero_le _)) dX4_seat_1 (fun v1 h2 H locs hf E => ?_)
  refine lv_if_eq (tgt := 14) Z.x Z.b dX4_seat_4 (by decide) (fun c => ?_) (fun c => ?_)
  · have hf := zit hf c
    exact z_vret Z E hr dX4_seat_14 hf
  · have hf := zif_ hf c
    refine lv_aload_n Z.x Z.b dX4_seat_7 rfl (lv_at hl 0 rfl) ?_
    refine z_getR Z E q_X4_22 dX4_seat_8 hf (fun v3 hf => ?_)
    refine lv_iload_n Z.x Z.b dX4_seat_11 rfl (lv_at hl 1 rfl) ?_
    refine lv_iload_n Z.x Z.b dX4_seat_12 rfl (lv_at hl 2 rfl) ?_
    refine z_iast Z E dX4_seat_13 hf (fun h4 H locs hf E => ?_)
    exact z_vret Z E hr dX4_seat_14 hf
set_option maxHeartbeats 4000000 in
set_option maxRecDepth 20000 in
theorem c_X4_seat (l : Launch) (G : zG) (h : zHp) (h' : zHp) (a0 : Nat) (a1 : Int32) (a2 : Int32) (hf : f_X4_seat a0 a1 a2 h = some h') : zM0 l yX4_seat cX4_seat 3 none rm_X4_seat G [.ref a0, .int a1, .int a2] h (zQv G h') := by
  refine Met.ofW (cc := cX4_seat) (maxL := 3) (ret := none) (by decide) rfl ?_
  intro p e s m args below meth c s₁ B hml hv
  obtain ⟨rfl, hW⟩ := hv
  obtain ⟨Z, E, hr⟩ := zEnter (own := RX4) B hml rfl hW
  have hl := lv_entry ([.ref a0, .int a1, .int a2]) (n := 3) (Nat.le_of_ble_eq_true rfl)
  rw [lg_entry_eq]
  generalize (lg_sl ([.ref a0, .int a1, .int a2]) ++ List.replicate (3 - (lg_sl ([.ref a0, .int a1, .int a2])).length) Slot.unset).toArray = ls at hl ⊢
  have hl : lv_has ls 3 [(0, .ref a0), (1, .int a1), (2, .int a2)] := hl
  exact t_X4_seat (out := h') Z hr hf E hl
/-! FerryCrews$Sailing.unseat(I)I -/
theorem dX4_unseat_0 : decode cX4_unseat 0 = .ok (.aload_n 0, 1) := by decide +kernel
theorem dX4_unseat_1 : decode cX4_unseat 1 = .ok (.iload_n 1, 1) := by decide +kernel
theorem dX4_unseat_2 : decode cX4_unseat 2 = .ok (.invokevirtual 49, 3) := by decide +kernel
theorem dX4_unseat_5 : decode cX4_unseat 5 = .ok (.istore_n 2, 1) := by decide +kernel
theorem dX4_unseat_6 : decode cX4_unseat 6 = .ok (.aload_n 0, 1) := by decide +kernel
theorem dX4_unseat_7 : decode cX4_unseat 7 = .ok (.iload_n 1, 1) := by decide +kernel
theorem dX4_unseat_8 : decode cX4_unseat 8 = .ok (.iconst (-1), 1) := by decide +kernel
theorem dX4_unseat_9 : decode cX4_unseat 9 = .ok (.invokevirtual 57, 3) := by decide +kernel
theorem dX4_unseat_12 : decode cX4_unseat 12 = .ok (.iload_n 2, 1) := by decide +kernel
theorem dX4_unseat_13 : decode cX4_unseat 13 = .ok (.ireturn, 1) := by decide +kernel
set_option maxRecDepth 20000 in
theorem wc_X4_seat : Cond.code yX4_seat cX4_seat 3 none ∈ zB := List.mem_filter.mpr ⟨List.mem_of_getElem? (i := 565) (by decide +kernel), by decide +kernel⟩
set_option maxRecDepth 20000 in
theorem wm_X4_57 : Cond.methodLink RX4 57 yX4_seat ∈ zB := List.mem_filter.mpr ⟨List.mem_of_getElem? (i := 615) (by decide +kernel), by decide +kernel⟩
theorem k_X4_57 : zCal RX4 57 yX4_seat cX4_seat 3 none 2 := ⟨wm_X4_57, wi_X4, wc_X4_seat, by decide +kernel, by decide +kernel, by decide +kernel⟩
set_option maxRecDepth 20000 in
theorem wn_X4_seat : Cond.instanceMethod yX4_seat ∈ zB := List.mem_filter.mpr ⟨List.mem_of_getElem? (i := 563) (by decide +kernel), by decide +kernel⟩
set_option maxRecDepth 20000 in
theorem ws_X4_seat : Cond.selects RX4 yX4_seat yX4_seat ∈ zB := List.mem_filter.mpr ⟨List.mem_of_getElem? (i := 564) (by decide +kernel), by decide +kernel⟩
theorem v_X4_seat : zVir yX4_seat 4 := ⟨wn_X4_seat, ws_X4_seat, TX4, 9, rfl⟩
def rm_X4_unseat : Room := { frames := 2, cells := 0, slots := 0, locals := 42 }
set_option maxHeartbeats 4000000 in
set_option maxRecDepth 20000 in
theorem t_X4_unseat {p : Program} {l : Launch} {e : Env} {s : State} {m : MethodId} {args : Array Value} {below : List Frame} {meth : Method} {c : Code} {G : zG} (Z : zF p s m args c meth cX4_unseat 3 RX4 G) (hr : meth.sig.returnType = (some .int)) {out : Int32 × zHp} {a0 : Nat} {a1 : Int32} {h : zHp} {H : Heap} {locs : List Loc} {ls : Array Slot} (hf : f_X4_unseat a0 a1 h = some out) (E : zE G s h H locs) (hl : lv_has ls 3 [(0, .ref a0), (1, .int a1)]) : W p l e rm_X4_unseat s m args below meth c H locs 0 0 (MQ below (zQi G out.1 out.2) args s 0 0 (zA G)) (F0 m 0 ls []) := by
  unfold f_X4_unseat at hf
  refine lv_aload_n Z.x Z.b dX4_unseat_0 rfl (lv_at hl 0 rfl) ?_
  refine lv_iload_n Z.x Z.b dX4_unseat_1 rfl (lv_at hl 1 rfl) ?_
  refine z_Vi (As := [.int a1]) Z E hl.1 k_X4_49 v_X4_roleOf hf (fun r h' e => c_X4_roleOf l G h h' a0 a1 r e) rfl rfl (Nat.le_of_ble_eq_true rfl) (zRm_of rfl (Nat.zero_le _) (Nat.zero_le _)) dX4_unseat_2 (fun v1 h2 H locs hf E => ?_)
  refine lv_istore_n (lv' := [(2, .int v1), (0, .ref a0), (1, .int a1)]) Z.x Z.b dX4_unseat_5 rfl hl (by decide) rfl (fun ls hl => ?_)
  refine lv_aload_n Z.x Z.b dX4_unseat_6 rfl (lv_at hl 1 rfl) ?_
  refine lv_iload_n Z.x Z.b dX4_unseat_7 rfl (lv_at hl 2 rfl) ?_
  refine lv_iconst (v := (-1)) Z.x Z.b dX4_unseat_8 (by decide) ?_
  refine z_Vv (As := [.int a1, .int (-1)]) Z E hl.1 k_X4_57 v_X4_seat hf (fun h' e => c_X4_seat l G h2 h' a0 a1 (-1) e) rfl rfl (Nat.le_of_ble_eq_true rfl) (zRm_of rfl (Nat.zero_le _) (Nat.zero_le _)) dX4_unseat_9 (fun h3 H locs hf E => ?_)
  refine lv_iload_n Z.x Z.b dX4_unseat_12 rfl (lv_at hl 0 rfl) ?_
  exact z_iret Z E hr dX4_unseat_13 hf
set_option maxHeartbeats 4000000 in
set_option maxRecDepth 20000 in
theorem c_X4_unseat (l : Launch) (G : zG) (h : zHp) (h' : zHp) (a0 : Nat) (a1 : Int32) (r : Int32) (hf : f_X4_unseat a0 a1 h = some (r, h')) : zM0 l yX4_unseat cX4_unseat 3 (some .int) rm_X4_unseat G [.ref a0, .int a1] h (zQi G r h') := by
  refine Met.ofW (cc := cX4_unseat) (maxL := 3) (ret := (some .int)) (by decide) rfl ?_
  intro p e s m args below meth c s₁ B hml hv
  obtain ⟨rfl, hW⟩ := hv
  obtain ⟨Z, E, hr⟩ := zEnter (own := RX4) B hml rfl hW
  have hl := lv_entry ([.ref a0, .int a1]) (n := 3) (Nat.le_of_ble_eq_true rfl)
  rw [lg_entry_eq]
  generalize (lg_sl ([.ref a0, .int a1]) ++ List.replicate (3 - (lg_sl ([.ref a0, .int a1])).length) Slot.unset).toArray = ls at hl ⊢
  have hl : lv_has ls 3 [(0, .ref a0), (1, .int a1)] := hl
  exact t_X4_unseat (out := (r, h')) Z hr hf E hl
/-! FerryCrews$Sailing.takenPlaces()I -/
theorem dX4_takenPlaces_0 : decode cX4_takenPlaces 0 = .ok (.iconst 0, 1) := by decide +kernel
theorem dX4_takenPlaces_1 : decode cX4_takenPlaces 1 = .ok (.istore_n 1, 1) := by decide +kernel
theorem dX4_takenPlaces_2 : decode cX4_takenPlaces 2 = .ok (.iconst 0, 1) := by decide +kernel
theorem dX4_takenPlaces_3 : decode cX4_takenPlaces 3 = .ok (.istore_n 2, 1) := by decide +kernel
theorem dX4_takenPlaces_4 : decode cX4_takenPlaces 4 = .ok (.iload_n 2, 1) := by decide +kernel
theorem dX4_takenPlaces_5 : decode cX4_takenPlaces 5 = .ok (.bipush 12, 2) := by decide +kernel
theorem dX4_takenPlaces_7 : decode cX4_takenPlaces 7 = .ok (.if_icmp .ge 22, 3) := by decide +kernel
theorem dX4_takenPlaces_10 : decode cX4_takenPlaces 10 = .ok (.aload_n 0, 1) := by decide +kernel
theorem dX4_takenPlaces_11 : decode cX4_takenPlaces 11 = .ok (.getfield 22, 3) := by decide +kernel
theorem dX4_takenPlaces_14 : decode cX4_takenPlaces 14 = .ok (.iload_n 2, 1) := by decide +kernel
theorem dX4_takenPlaces_15 : decode cX4_takenPlaces 15 = .ok (.iaload, 1) := by decide +kernel
theorem dX4_takenPlaces_16 : decode cX4_takenPlaces 16 = .ok (.iconst (-1), 1) := by decide +kernel
theorem dX4_takenPlaces_17 : decode cX4_takenPlaces 17 = .ok (.if_icmp .eq 6, 3) := by decide +kernel
theorem dX4_takenPlaces_20 : decode cX4_takenPlaces 20 = .ok (.iinc 1 1, 3) := by decide +kernel
theorem dX4_takenPlaces_23 : decode cX4_takenPlaces 23 = .ok (.iinc 2 1, 3) := by decide +kernel
theorem dX4_takenPlaces_26 : decode cX4_takenPlaces 26 = .ok (.goto (-22), 3) := by decide +kernel
theorem dX4_takenPlaces_29 : decode cX4_takenPlaces 29 = .ok (.iload_n 1, 1) := by decide +kernel
theorem dX4_takenPlaces_30 : decode cX4_takenPlaces 30 = .ok (.ireturn, 1) := by decide +kernel
def rm_X4_takenPlaces : Room := { frames := 0, cells := 0, slots := 0, locals := 0 }
set_option maxHeartbeats 4000000 in
set_option maxRecDepth 20000 in
theorem t_X4_takenPlaces_23 {p : Program} {l : Launch} {e : Env} {s : State} {m : MethodId} {args : Array Value} {below : List Frame} {meth : Method} {c : Code} {G : zG} (Z : zF p s m args c meth cX4_takenPlaces 3 RX4 G) (hr : meth.sig.returnType = (some .int)) {out : Int32 × zHp} {r4 : Nat → Int32 → Int32 → zHp → Option (Int32 × zHp)} (k4 : ∀ {a0 : Nat} {a1 : Int32} {a2 : Int32} {h : zHp} {H : Heap} {locs : List Loc} {ls : Array Slot}, r4 a0 a1 a2 h = some out → zE G s h H locs → lv_has ls 3 [(0, .ref a0), (1, .int a1), (2, .int a2)] → W p l e rm_X4_takenPlaces s m args below meth c H locs 0 0 (MQ below (zQi G out.1 out.2) args s 0 0 (zA G)) (F0 m 4 ls [])) {a0 : Nat} {a1 : Int32} {a2 : Int32} {h : zHp} {H : Heap} {locs : List Loc} {ls : Array Slot} (hf : f_X4_takenPlaces_23 r4 a0 a1 a2 h = some out) (E : zE G s h H locs) (hl : lv_has ls 3 [(0, .ref a0), (1, .int a1), (2, .int a2)]) : W p l e rm_X4_takenPlaces s m args below meth c H locs 0 0 (MQ below (zQi G out.1 out.2) args s 0 0 (zA G)) (F0 m 23 ls []) := by
  unfold f_X4_takenPlaces_23 at hf
  refine lv_iinc (v := (a2 + 1)) (lv' := [(2, .int (a2 + 1)), (0, .ref a0), (1, .int a1)]) Z.x Z.b dX4_takenPlaces_23 hl (k := 2) rfl rfl (by decide) rfl (fun ls hl => ?_)
  refine lv_goto (tgt := 4) Z.x Z.b dX4_takenPlaces_26 (by decide) ?_
  exact k4 hf E (lv_sub hl [1, 2, 0] rfl)
set_option maxHeartbeats 4000000 in
set_option maxRecDepth 20000 in
theorem t_X4_takenPlaces_4_body {p : Program} {l : Launch} {e : Env} {s : State} {m : MethodId} {args : Array Value} {below : List Frame} {meth : Method} {c : Code} {G : zG} (Z : zF p s m args c meth cX4_takenPlaces 3 RX4 G) (hr : meth.sig.returnType = (some .int)) {out : Int32 × zHp} {r4 : Nat → Int32 → Int32 → zHp → Option (Int32 × zHp)} (k4 : ∀ {a0 : Nat} {a1 : Int32} {a2 : Int32} {h : zHp} {H : Heap} {locs : List Loc} {ls : Array Slot}, r4 a0 a1 a2 h = some out → zE G s h H locs → lv_has ls 3 [(0, .ref a0), (1, .int a1), (2, .int a2)] → W p l e rm_X4_takenPlaces s m args below meth c H locs 0 0 (MQ below (zQi G out.1 out.2) args s 0 0 (zA G)) (F0 m 4 ls [])) {a0 : Nat} {a1 : Int32} {a2 : Int32} {h : zHp} {H : Heap} {locs : List Loc} {ls : Array Slot} (hf : f_X4_takenPlaces_4_body r4 a0 a1 a2 h = some out) (E : zE G s h H locs) (hl : lv_has ls 3 [(0, .ref a0), (1, .int a1), (2, .int a2)]) : W p l e rm_X4_takenPlaces s m args below meth c H locs 0 0 (MQ below (zQi G out.1 out.2) args s 0 0 (zA G)) (F0 m 4 ls []) := by
  unfold f_X4_takenPlaces_4_body at hf
  refine lv_iload_n Z.x Z.b dX4_takenPlaces_4 rfl (lv_at hl 2 rfl) ?_
  refine lv_bipush (v := 12) Z.x Z.b dX4_takenPlaces_5 (by decide) ?_
  refine lv_icmp_ge (tgt := 29) Z.x Z.b dX4_takenPlaces_7 (by decide) (fun c => ?_) (fun c => ?_)
  · have hf := zit hf c
    refine lv_iload_n Z.x Z.b dX4_takenPlaces_29 rfl (lv_at hl 1 rfl) ?_
    exact z_iret Z E hr dX4_takenPlaces_30 hf
  · have hf := zif_ hf c
    refine lv_aload_n Z.x Z.b dX4_takenPlaces_10 rfl (lv_at hl 0 rfl) ?_
    refine z_getR Z E q_X4_22 dX4_takenPlaces_11 hf (fun v1 hf => ?_)
    refine lv_iload_n Z.x Z.b dX4_takenPlaces_14 rfl (lv_at hl 2 rfl) ?_
    refine z_iald Z E dX4_takenPlaces_15 hf (fun v2 hf => ?_)
    refine lv_iconst (v := (-1)) Z.x Z.b dX4_takenPlaces_16 (by decide) ?_
    refine lv_icmp_eq (tgt := 23) Z.x Z.b dX4_takenPlaces_17 (by decide) (fun c => ?_) (fun c => ?_)
    · have hf := zit hf c
      exact t_X4_takenPlaces_23 Z hr k4 hf E (lv_sub hl [0, 1, 2] rfl)
    · have hf := zif_ hf c
      refine lv_iinc (v := (a1 + 1)) (lv' := [(1, .int (a1 + 1)), (0, .ref a0), (2, .int a2)]) Z.x Z.b dX4_takenPlaces_20 hl (k := 1) rfl rfl (by decide) rfl (fun ls hl => ?_)
      exact t_X4_takenPlaces_23 Z hr k4 hf E (lv_sub hl [1, 0, 2] rfl)
theorem t_X4_takenPlaces_4 {p : Program} {l : Launch} {e : Env} {s : State} {m : MethodId} {args : Array Value} {below : List Frame} {meth : Method} {c : Code} {G : zG} (Z : zF p s m args c meth cX4_takenPlaces 3 RX4 G) (hr : meth.sig.returnType = (some .int)) {out : Int32 × zHp} : ∀ (n : Nat), ∀ {a0 : Nat} {a1 : Int32} {a2 : Int32} {h : zHp} {H : Heap} {locs : List Loc} {ls : Array Slot}, f_X4_takenPlaces_4 n a0 a1 a2 h = some out → zE G s h H locs → lv_has ls 3 [(0, .ref a0), (1, .int a1), (2, .int a2)] → W p l e rm_X4_takenPlaces s m args below meth c H locs 0 0 (MQ below (zQi G out.1 out.2) args s 0 0 (zA G)) (F0 m 4 ls [])
  | 0 => fun hf => by cases hf
  | n + 1 => fun hf E hl => t_X4_takenPlaces_4_body Z hr (r4 := f_X4_takenPlaces_4 n) (t_X4_takenPlaces_4 Z hr n) hf E hl
set_option maxHeartbeats 4000000 in
set_option maxRecDepth 20000 in
theorem t_X4_takenPlaces {p : Program} {l : Launch} {e : Env} {s : State} {m : MethodId} {args : Array Value} {below : List Frame} {meth : Method} {c : Code} {G : zG} (Z : zF p s m args c meth cX4_takenPlaces 3 RX4 G) (hr : meth.sig.returnType = (some .int)) {out : Int32 × zHp} {a0 : Nat} {h : zHp} {H : Heap} {locs : List Loc} {ls : Array Slot} (hf : f_X4_takenPlaces a0 h = some out) (E : zE G s h H locs) (hl : lv_has ls 3 [(0, .ref a0)]) : W p l e rm_X4_takenPlaces s m args below meth c H locs 0 0 (MQ below (zQi G out.1 out.2) args s 0 0 (zA G)) (F0 m 0 ls []) := by
  unfold f_X4_takenPlaces at hf
  refine lv_iconst (v := 0) Z.x Z.b dX4_takenPlaces_0 (by decide) ?_
  refine lv_istore_n (lv' := [(1, .int 0), (0, .ref a0)]) Z.x Z.b dX4_takenPlaces_1 rfl hl (by decide) rfl (fun ls hl => ?_)
  refine lv_iconst (v := 0) Z.x Z.b dX4_takenPlaces_2 (by decide) ?_
  refine lv_istore_n (lv' := [(2, .int 0), (1, .int 0), (0, .ref a0)]) Z.x Z.b dX4_takenPlaces_3 rfl hl (by decide) rfl (fun ls hl => ?_)
  exact t_X4_takenPlaces_4 Z hr zN hf E (lv_sub hl [2, 1, 0] rfl)
set_option maxHeartbeats 4000000 in
set_option maxRecDepth 20000 in
theorem c_X4_takenPlaces (l : Launch) (G : zG) (h : zHp) (h' : zHp) (a0 : Nat) (r : Int32) (hf : f_X4_takenPlaces a0 h = some (r, h')) : zM0 l yX4_takenPlaces cX4_takenPlaces 3 (some .int) rm_X4_takenPlaces G [.ref a0] h (zQi G r h') := by
  refine Met.ofW (cc := cX4_takenPlaces) (maxL := 3) (ret := (some .int)) (by decide) rfl ?_
  intro p e s m args below meth c s₁ B hml hv
  obtain ⟨rfl, hW⟩ := hv
  obtain ⟨Z, E, hr⟩ := zEnter (own := RX4) B hml rfl hW
  have hl := lv_entry ([.ref a0]) (n := 3) (Nat.le_of_ble_eq_true rfl)
  rw [lg_entry_eq]
  generalize (lg_sl ([.ref a0]) ++ List.replicate (3 - (lg_sl ([.ref a0])).length) Slot.unset).toArray = ls at hl ⊢
  have hl : lv_has ls 3 [(0, .ref a0)] := hl
  exact t_X4_takenPlaces (out := (r, h')) Z hr hf E hl
/-! FerryCrews$Sailing.callOff()I -/
theorem dX4_callOff_0 : decode cX4_callOff 0 = .ok (.aload_n 0, 1) := by decide +kernel
theorem dX4_callOff_1 : decode cX4_callOff 1 = .ok (.invokevirtual 61, 3) := by decide +kernel
theorem dX4_callOff_4 : decode cX4_callOff 4 = .ok (.istore_n 1, 1) := by decide +kernel
theorem dX4_callOff_5 : decode cX4_callOff 5 = .ok (.aload_n 0, 1) := by decide +kernel
theorem dX4_callOff_6 : decode cX4_callOff 6 = .ok (.iconst 2, 1) := by decide +kernel
theorem dX4_callOff_7 : decode cX4_callOff 7 = .ok (.putfield 9, 3) := by decide +kernel
theorem dX4_callOff_10 : decode cX4_callOff 10 = .ok (.aload_n 0, 1) := by decide +kernel
theorem dX4_callOff_11 : decode cX4_callOff 11 = .ok (.invokevirtual 25, 3) := by decide +kernel
theorem dX4_callOff_14 : decode cX4_callOff 14 = .ok (.iload_n 1, 1) := by decide +kernel
theorem dX4_callOff_15 : decode cX4_callOff 15 = .ok (.ireturn, 1) := by decide +kernel
set_option maxRecDepth 20000 in
theorem wc_X4_takenPlaces : Cond.code yX4_takenPlaces cX4_takenPlaces 3 (some .int) ∈ zB := List.mem_filter.mpr ⟨List.mem_of_getElem? (i := 362) (by decide +kernel), by decide +kernel⟩
set_option maxRecDepth 20000 in
theorem wm_X4_61 : Cond.methodLink RX4 61 yX4_takenPlaces ∈ zB := List.mem_filter.mpr ⟨List.mem_of_getElem? (i := 359) (by decide +kernel), by decide +kernel⟩
theorem k_X4_61 : zCal RX4 61 yX4_takenPlaces cX4_takenPlaces 3 (some .int) 0 := ⟨wm_X4_61, wi_X4, wc_X4_takenPlaces, by decide +kernel, by decide +kernel, by decide +kernel⟩
set_option maxRecDepth 20000 in
theorem wn_X4_takenPlaces : Cond.instanceMethod yX4_takenPlaces ∈ zB := List.mem_filter.mpr ⟨List.mem_of_getElem? (i := 360) (by decide +kernel), by decide +kernel⟩
set_option maxRecDepth 20000 in
theorem ws_X4_takenPlaces : Cond.selects RX4 yX4_takenPlaces yX4_takenPlaces ∈ zB := List.mem_filter.mpr ⟨List.mem_of_getElem? (i := 361) (by decide +kernel), by decide +kernel⟩
theorem v_X4_takenPlaces : zVir yX4_takenPlaces 4 := ⟨wn_X4_takenPlaces, ws_X4_takenPlaces, TX4, 9, rfl⟩
def rm_X4_callOff : Room := { frames := 1, cells := 0, slots := 0, locals := 22 }
set_option maxHeartbeats 4000000 in
set_option maxRecDepth 20000 in
theorem t_X4_callOff {p : Program} {l : Launch} {e : Env} {s : State} {m : MethodId} {args : Array Value} {below : List Frame} {meth : Method} {c : Code} {G : zG} (Z : zF p s m args c meth cX4_callOff 2 RX4 G) (hr : meth.sig.returnType = (some .int)) {out : Int32 × zHp} {a0 : Nat} {h : zHp} {H : Heap} {locs : List Loc} {ls : Array Slot} (hf : f_X4_callOff a0 h = some out) (E : zE G s h H locs) (hl : lv_has ls 2 [(0, .ref a0)]) : W p l e rm_X4_callOff s m args below meth c H locs 0 0 (MQ below (zQi G out.1 out.2) args s 0 0 (zA G)) (F0 m 0 ls []) := by
  unfold f_X4_callOff at hf
  refine lv_aload_n Z.x Z.b dX4_callOff_0 rfl (lv_at hl 0 rfl) ?_
  refine z_Vi (As := []) Z E hl.1 k_X4_61 v_X4_takenPlaces hf (fun r h' e => c_X4_takenPlaces l G h h' a0 r e) rfl rfl (Nat.le_of_ble_eq_true rfl) (zRm_of rfl (Nat.zero_le _) (Nat.zero_le _)) dX4_callOff_1 (fun v1 h2 H locs hf E => ?_)
  refine lv_istore_n (lv' := [(1, .int v1), (0, .ref a0)]) Z.x Z.b dX4_callOff_4 rfl hl (by decide) rfl (fun ls hl => ?_)
  refine lv_aload_n Z.x Z.b dX4_callOff_5 rfl (lv_at hl 1 rfl) ?_
  refine lv_iconst (v := 2) Z.x Z.b dX4_callOff_6 (by decide) ?_
  refine z_put Z E p_X4_9 rfl rfl dX4_callOff_7 hf (fun h3 H locs hf E => ?_)
  refine lv_aload_n Z.x Z.b dX4_callOff_10 rfl (lv_at hl 1 rfl) ?_
  refine z_Vv (As := []) Z E hl.1 k_X4_25 v_X4_unseatAll hf (fun h' e => c_X4_unseatAll l G h3 h' a0 e) rfl rfl (Nat.le_of_ble_eq_true rfl) (zRm_of rfl (Nat.zero_le _) (Nat.zero_le _)) dX4_callOff_11 (fun h4 H locs hf E => ?_)
  refine lv_iload_n Z.x Z.b dX4_callOff_14 rfl (lv_at hl 0 rfl) ?_
  exact z_iret Z E hr dX4_callOff_15 hf
set_option maxHeartbeats 4000000 in
set_option maxRecDepth 20000 in
theorem c_X4_callOff (l : Launch) (G : zG) (h : zHp) (h' : zHp) (a0 : Nat) (r : Int32) (hf : f_X4_callOff a0 h = some (r, h')) : zM0 l yX4_callOff cX4_callOff 2 (some .int) rm_X4_callOff G [.ref a0] h (zQi G r h') := by
  refine Met.ofW (cc := cX4_callOff) (maxL := 2) (ret := (some .int)) (by decide) rfl ?_
  intro p e s m args below meth c s₁ B hml hv
  obtain ⟨rfl, hW⟩ := hv
  obtain ⟨Z, E, hr⟩ := zEnter (own := RX4) B hml rfl hW
  have hl := lv_entry ([.ref a0]) (n := 2) (Nat.le_of_ble_eq_true rfl)
  rw [lg_entry_eq]
  generalize (lg_sl ([.ref a0]) ++ List.replicate (2 - (lg_sl ([.ref a0])).length) Slot.unset).toArray = ls at hl ⊢
  have hl : lv_has ls 2 [(0, .ref a0)] := hl
  exact t_X4_callOff (out := (r, h')) Z hr hf E hl
/-! FerryCrews$Sailing.allPlaces()I -/
theorem dX4_allPlaces_0 : decode cX4_allPlaces 0 = .ok (.iconst 0, 1) := by decide +kernel
theorem dX4_allPlaces_1 : decode cX4_allPlaces 1 = .ok (.istore_n 1, 1) := by decide +kernel
theorem dX4_allPlaces_2 : decode cX4_allPlaces 2 = .ok (.iconst 0, 1) := by decide +kernel
theorem dX4_allPlaces_3 : decode cX4_allPlaces 3 = .ok (.istore_n 2, 1) := by decide +kernel
theorem dX4_allPlaces_4 : decode cX4_allPlaces 4 = .ok (.iload_n 2, 1) := by decide +kernel
theorem dX4_allPlaces_5 : decode cX4_allPlaces 5 = .ok (.iconst 4, 1) := by decide +kernel
theorem dX4_allPlaces_6 : decode cX4_allPlaces 6 = .ok (.if_icmp .ge 18, 3) := by decide +kernel
theorem dX4_allPlaces_9 : decode cX4_allPlaces 9 = .ok (.iload_n 1, 1) := by decide +kernel
theorem dX4_allPlaces_10 : decode cX4_allPlaces 10 = .ok (.aload_n 0, 1) := by decide +kernel
theorem dX4_allPlaces_11 : decode cX4_allPlaces 11 = .ok (.getfield 18, 3) := by decide +kernel
theorem dX4_allPlaces_14 : decode cX4_allPlaces 14 = .ok (.iload_n 2, 1) := by decide +kernel
theorem dX4_allPlaces_15 : decode cX4_allPlaces 15 = .ok (.iaload, 1) := by decide +kernel
theorem dX4_allPlaces_16 : decode cX4_allPlaces 16 = .ok (.iadd, 1) := by decide +kernel
theorem dX4_allPlaces_17 : decode cX4_allPlaces 17 = .ok (.istore_n 1, 1) := by decide +kernel
theorem dX4_allPlaces_18 : decode cX4_allPlaces 18 = .ok (.iinc 2 1, 3) := by decide +kernel
theorem dX4_allPlaces_21 : decode cX4_allPlaces 21 = .ok (.goto (-17), 3) := by decide +kernel
theorem dX4_allPlaces_24 : decode cX4_allPlaces 24 = .ok (.iload_n 1, 1) := by decide +kernel
theorem dX4_allPlaces_25 : decode cX4_allPlaces 25 = .ok (.ireturn, 1) := by decide +kernel
def rm_X4_allPlaces : Room := { frames := 0, cells := 0, slots := 0, locals := 0 }
set_option maxHeartbeats 4000000 in
set_option maxRecDepth 20000 in
theorem t_X4_allPlaces_4_body {p : Program} {l : Launch} {e : Env} {s : State} {m : MethodId} {args : Array Value} {below : List Frame} {meth : Method} {c : Code} {G : zG} (Z : zF p s m args c meth cX4_allPlaces 3 RX4 G) (hr : meth.sig.returnType = (some .int)) {out : Int32 × zHp} {r4 : Nat → Int32 → Int32 → zHp → Option (Int32 × zHp)} (k4 : ∀ {a0 : Nat} {a1 : Int32} {a2 : Int32} {h : zHp} {H : Heap} {locs : List Loc} {ls : Array Slot}, r4 a0 a1 a2 h = some out → zE G s h H locs → lv_has ls 3 [(0, .ref a0), (1, .int a1), (2, .int a2)] → W p l e rm_X4_allPlaces s m args below meth c H locs 0 0 (MQ below (zQi G out.1 out.2) args s 0 0 (zA G)) (F0 m 4 ls [])) {a0 : Nat} {a1 : Int32} {a2 : Int32} {h : zHp} {H : Heap} {locs : List Loc} {ls : Array Slot} (hf : f_X4_allPlaces_4_body r4 a0 a1 a2 h = some out) (E : zE G s h H locs) (hl : lv_has ls 3 [(0, .ref a0), (1, .int a1), (2, .int a2)]) : W p l e rm_X4_allPlaces s m args below meth c H locs 0 0 (MQ below (zQi G out.1 out.2) args s 0 0 (zA G)) (F0 m 4 ls []) := by
  unfold f_X4_allPlaces_4_body at hf
  refine lv_iload_n Z.x Z.b dX4_allPlaces_4 rfl (lv_at hl 2 rfl) ?_
  refine lv_iconst (v := 4) Z.x Z.b dX4_allPlaces_5 (by decide) ?_
  refine lv_icmp_ge (tgt := 24) Z.x Z.b dX4_allPlaces_6 (by decide) (fun c => ?_) (fun c => ?_)
  · have hf := zit hf c
    refine lv_iload_n Z.x Z.b dX4_allPlaces_24 rfl (lv_at hl 1 rfl) ?_
    exact z_iret Z E hr dX4_allPlaces_25 hf
  · have hf := zif_ hf c
    refine lv_iload_n Z.x Z.b dX4_allPlaces_9 rfl (lv_at hl 1 rfl) ?_
    refine lv_aload_n Z.x Z.b dX4_allPlaces_10 rfl (lv_at hl 0 rfl) ?_
    refine z_getR Z E q_X4_18 dX4_allPlaces_11 hf (fun v1 hf => ?_)
    refine lv_iload_n Z.x Z.b dX4_allPlaces_14 rfl (lv_at hl 2 rfl) ?_
    refine z_iald Z E dX4_allPlaces_15 hf (fun v2 hf => ?_)
    refine lv_iadd Z.x Z.b dX4_allPlaces_16 ?_
    refine lv_istore_n (lv' := [(1, .int (a1 + v2)), (0, .ref a0), (2, .int a2)]) Z.x Z.b dX4_allPlaces_17 rfl hl (by decide) rfl (fun ls hl => ?_)
    refine lv_iinc (v := (a2 + 1)) (lv' := [(2, .int (a2 + 1)), (1, .int (a1 + v2)), (0, .ref a0)]) Z.x Z.b dX4_allPlaces_18 hl (k := 2) rfl rfl (by decide) rfl (fun ls hl => ?_)
    refine lv_goto (tgt := 4) Z.x Z.b dX4_allPlaces_21 (by decide) ?_
    exact k4 hf E (lv_sub hl [2, 1, 0] rfl)
theorem t_X4_allPlaces_4 {p : Program} {l : Launch} {e : Env} {s : State} {m : MethodId} {args : Array Value} {below : List Frame} {meth : Method} {c : Code} {G : zG} (Z : zF p s m args c meth cX4_allPlaces 3 RX4 G) (hr : meth.sig.returnType = (some .int)) {out : Int32 × zHp} : ∀ (n : Nat), ∀ {a0 : Nat} {a1 : Int32} {a2 : Int32} {h : zHp} {H : Heap} {locs : List Loc} {ls : Array Slot}, f_X4_allPlaces_4 n a0 a1 a2 h = some out → zE G s h H locs → lv_has ls 3 [(0, .ref a0), (1, .int a1), (2, .int a2)] → W p l e rm_X4_allPlaces s m args below meth c H locs 0 0 (MQ below (zQi G out.1 out.2) args s 0 0 (zA G)) (F0 m 4 ls [])
  | 0 => fun hf => by cases hf
  | n + 1 => fun hf E hl => t_X4_allPlaces_4_body Z hr (r4 := f_X4_allPlaces_4 n) (t_X4_allPlaces_4 Z hr n) hf E hl
set_option maxHeartbeats 4000000 in
set_option maxRecDepth 20000 in
theorem t_X4_allPlaces {p : Program} {l : Launch} {e : Env} {s : State} {m : MethodId} {args : Array Value} {below : List Frame} {meth : Method} {c : Code} {G : zG} (Z : zF p s m args c meth cX4_allPlaces 3 RX4 G) (hr : meth.sig.returnType = (some .int)) {out : Int32 × zHp} {a0 : Nat} {h : zHp} {H : Heap} {locs : List Loc} {ls : Array Slot} (hf : f_X4_allPlaces a0 h = some out) (E : zE G s h H locs) (hl : lv_has ls 3 [(0, .ref a0)]) : W p l e rm_X4_allPlaces s m args below meth c H locs 0 0 (MQ below (zQi G out.1 out.2) args s 0 0 (zA G)) (F0 m 0 ls []) := by
  unfold f_X4_allPlaces at hf
  refine lv_iconst (v := 0) Z.x Z.b dX4_allPlaces_0 (by decide) ?_
  refine lv_istore_n (lv' := [(1, .int 0), (0, .ref a0)]) Z.x Z.b dX4_allPlaces_1 rfl hl (by decide) rfl (fun ls hl => ?_)
  refine lv_iconst (v := 0) Z.x Z.b dX4_allPlaces_2 (by decide) ?_
  refine lv_istore_n (lv' := [(2, .int 0), (1, .int 0), (0, .ref a0)]) Z.x Z.b dX4_allPlaces_3 rfl hl (by decide) rfl (fun ls hl => ?_)
  exact t_X4_allPlaces_4 Z hr zN hf E (lv_sub hl [2, 1, 0] rfl)
set_option maxHeartbeats 4000000 in
set_option maxRecDepth 20000 in
theorem c_X4_allPlaces (l : Launch) (G : zG) (h : zHp) (h' : zHp) (a0 : Nat) (r : Int32) (hf : f_X4_allPlaces a0 h = some (r, h')) : zM0 l yX4_allPlaces cX4_allPlaces 3 (some .int) rm_X4_allPlaces G [.ref a0] h (zQi G r h') := by
  refine Met.ofW (cc := cX4_allPlaces) (maxL := 3) (ret := (some .int)) (by decide) rfl ?_
  intro p e s m args below meth c s₁ B hml hv
  obtain ⟨rfl, hW⟩ := hv
  obtain ⟨Z, E, hr⟩ := zEnter (own := RX4) B hml rfl hW
  have hl := lv_entry ([.ref a0]) (n := 3) (Nat.le_of_ble_eq_true rfl)
  rw [lg_entry_eq]
  generalize (lg_sl ([.ref a0]) ++ List.replicate (3 - (lg_sl ([.ref a0])).length) Slot.unset).toArray = ls at hl ⊢
  have hl : lv_has ls 3 [(0, .ref a0)] := hl
  exact t_X4_allPlaces (out := (r, h')) Z hr hf E hl
/-! FerryCrews$Sailing.freePlaces()I -/
theorem dX4_freePlaces_0 : decode cX4_freePlaces 0 = .ok (.aload_n 0, 1) := by decide +kernel
theorem dX4_freePlaces_1 : decode cX4_freePlaces 1 = .ok (.invokevirtual 74, 3) := by decide +kernel
theorem dX4_freePlaces_4 : decode cX4_freePlaces 4 = .ok (.aload_n 0, 1) := by decide +kernel
theorem dX4_freePlaces_5 : decode cX4_freePlaces 5 = .ok (.invokevirtual 61, 3) := by decide +kernel
theorem dX4_freePlaces_8 : decode cX4_freePlaces 8 = .ok (.isub, 1) := by decide +kernel
theorem dX4_freePlaces_9 : decode cX4_freePlaces 9 = .ok (.ireturn, 1) := by decide +kernel
set_option maxRecDepth 20000 in
theorem wc_X4_allPlaces : Cond.code yX4_allPlaces cX4_allPlaces 3 (some .int) ∈ zB := List.mem_filter.mpr ⟨List.mem_of_getElem? (i := 358) (by decide +kernel), by decide +kernel⟩
set_option maxRecDepth 20000 in
theorem wm_X4_74 : Cond.methodLink RX4 74 yX4_allPlaces ∈ zB := List.mem_filter.mpr ⟨List.mem_of_getElem? (i := 355) (by decide +kernel), by decide +kernel⟩
theorem k_X4_74 : zCal RX4 74 yX4_allPlaces cX4_allPlaces 3 (some .int) 0 := ⟨wm_X4_74, wi_X4, wc_X4_allPlaces, by decide +kernel, by decide +kernel, by decide +kernel⟩
set_option maxRecDepth 20000 in
theorem wn_X4_allPlaces : Cond.instanceMethod yX4_allPlaces ∈ zB := List.mem_filter.mpr ⟨List.mem_of_getElem? (i := 356) (by decide +kernel), by decide +kernel⟩
set_option maxRecDepth 20000 in
theorem ws_X4_allPlaces : Cond.selects RX4 yX4_allPlaces yX4_allPlaces ∈ zB := List.mem_filter.mpr ⟨List.mem_of_getElem? (i := 357) (by decide +kernel), by decide +kernel⟩
theorem v_X4_allPlaces : zVir yX4_allPlaces 4 := ⟨wn_X4_allPlaces, ws_X4_allPlaces, TX4, 9, rfl⟩
def rm_X4_freePlaces : Room := { frames := 1, cells := 0, slots := 0, locals := 22 }
set_option maxHeartbeats 4000000 in
set_option maxRecDepth 20000 in
theorem t_X4_freePlaces {p : Program} {l : Launch} {e : Env} {s : State} {m : MethodId} {args : Array Value} {below : List Frame} {meth : Method} {c : Code} {G : zG} (Z : zF p s m args c meth cX4_freePlaces 1 RX4 G) (hr : meth.sig.returnType = (some .int)) {out : Int32 × zHp} {a0 : Nat} {h : zHp} {H : Heap} {locs : List Loc} {ls : Array Slot} (hf : f_X4_freePlaces a0 h = some out) (E : zE G s h H locs) (hl : lv_has ls 1 [(0, .ref a0)]) : W p l e rm_X4_freePlaces s m args below meth c H locs 0 0 (MQ below (zQi G out.1 out.2) args s 0 0 (zA G)) (F0 m 0 ls []) := by
  unfold f_X4_freePlaces at hf
  refine lv_aload_n Z.x Z.b dX4_freePlaces_0 rfl (lv_at hl 0 rfl) ?_
  refine z_Vi (As := []) Z E hl.1 k_X4_74 v_X4_allPlaces hf (fun r h' e => c_X4_allPlaces l G h h' a0 r e) rfl rfl (Nat.le_of_ble_eq_true rfl) (zRm_of rfl (Nat.zero_le _) (Nat.zero_le _)) dX4_freePlaces_1 (fun v1 h2 H locs hf E => ?_)
  refine lv_aload_n Z.x Z.b dX4_freePlaces_4 rfl (lv_at hl 0 rfl) ?_
  refine z_Vi (As := []) Z E hl.1 k_X4_61 v_X4_takenPlaces hf (fun r h' e => c_X4_takenPlaces l G h2 h' a0 r e) rfl rfl (Nat.le_of_ble_eq_true rfl) (zRm_of rfl (Nat.zero_le _) (Nat.zero_le _)) dX4_freePlaces_5 (fun v3 h4 H locs hf E => ?_)
  refine lv_isub Z.x Z.b dX4_freePlaces_8 ?_
  exact z_iret Z E hr dX4_freePlaces_9 hf
set_option maxHeartbeats 4000000 in
set_option maxRecDepth 20000 in
theorem c_X4_freePlaces (l : Launch) (G : zG) (h : zHp) (h' : zHp) (a0 : Nat) (r : Int32) (hf : f_X4_freePlaces a0 h = some (r, h')) : zM0 l yX4_freePlaces cX4_freePlaces 1 (some .int) rm_X4_freePlaces G [.ref a0] h (zQi G r h') := by
  refine Met.ofW (cc := cX4_freePlaces) (maxL := 1) (ret := (some .int)) (by decide) rfl ?_
  intro p e s m args below meth c s₁ B hml hv
  obtain ⟨rfl, hW⟩ := hv
  obtain ⟨Z, E, hr⟩ := zEnter (own := RX4) B hml rfl hW
  have hl := lv_entry ([.ref a0]) (n := 1) (Nat.le_of_ble_eq_true rfl)
  rw [lg_entry_eq]
  generalize (lg_sl ([.ref a0]) ++ List.replicate (1 - (lg_sl ([.ref a0])).length) Slot.unset).toArray = ls at hl ⊢
  have hl : lv_has ls 1 [(0, .ref a0)] := hl
  exact t_X4_freePlaces (out := (r, h')) Z hr hf E hl
/-! FerryCrews$Sailing.depart()V -/
theorem dX4_depart_0 : decode cX4_depart 0 = .ok (.aload_n 0, 1) := by decide +kernel
theorem dX4_depart_1 : decode cX4_depart 1 = .ok (.invokevirtual 65, 3) := by decide +kernel
theorem dX4_depart_4 : decode cX4_depart 4 = .ok (.ifCond .ne 11, 3) := by decide +kernel
theorem dX4_depart_7 : decode cX4_depart 7 = .ok (.aload_n 0, 1) := by decide +kernel
theorem dX4_depart_8 : decode cX4_depart 8 = .ok (.iconst 1, 1) := by decide +kernel
theorem dX4_depart_9 : decode cX4_depart 9 = .ok (.putfield 9, 3) := by decide +kernel
theorem dX4_depart_12 : decode cX4_depart 12 = .ok (.goto 8, 3) := by decide +kernel
theorem dX4_depart_15 : decode cX4_depart 15 = .ok (.aload_n 0, 1) := by decide +kernel
theorem dX4_depart_16 : decode cX4_depart 16 = .ok (.invokevirtual 68, 3) := by decide +kernel
theorem dX4_depart_19 : decode cX4_depart 19 = .ok (.pop, 1) := by decide +kernel
theorem dX4_depart_20 : decode cX4_depart 20 = .ok (.return_, 1) := by decide +kernel
set_option maxRecDepth 20000 in
theorem wc_X4_freePlaces : Cond.code yX4_freePlaces cX4_freePlaces 1 (some .int) ∈ zB := List.mem_filter.mpr ⟨List.mem_of_getElem? (i := 354) (by decide +kernel), by decide +kernel⟩
set_option maxRecDepth 20000 in
theorem wm_X4_65 : Cond.methodLink RX4 65 yX4_freePlaces ∈ zB := List.mem_filter.mpr ⟨List.mem_of_getElem? (i := 662) (by decide +kernel), by decide +kernel⟩
theorem k_X4_65 : zCal RX4 65 yX4_freePlaces cX4_freePlaces 1 (some .int) 0 := ⟨wm_X4_65, wi_X4, wc_X4_freePlaces, by decide +kernel, by decide +kernel, by decide +kernel⟩
set_option maxRecDepth 20000 in
theorem wn_X4_freePlaces : Cond.instanceMethod yX4_freePlaces ∈ zB := List.mem_filter.mpr ⟨List.mem_of_getElem? (i := 352) (by decide +kernel), by decide +kernel⟩
set_option maxRecDepth 20000 in
theorem ws_X4_freePlaces : Cond.selects RX4 yX4_freePlaces yX4_freePlaces ∈ zB := List.mem_filter.mpr ⟨List.mem_of_getElem? (i := 353) (by decide +kernel), by decide +kernel⟩
theorem v_X4_freePlaces : zVir yX4_freePlaces 4 := ⟨wn_X4_freePlaces, ws_X4_freePlaces, TX4, 9, rfl⟩
set_option maxRecDepth 20000 in
theorem wc_X4_callOff : Cond.code yX4_callOff cX4_callOff 2 (some .int) ∈ zB := List.mem_filter.mpr ⟨List.mem_of_getElem? (i := 589) (by decide +kernel), by decide +kernel⟩
set_option maxRecDepth 20000 in
theorem wm_X4_68 : Cond.methodLink RX4 68 yX4_callOff ∈ zB := List.mem_filter.mpr ⟨List.mem_of_getElem? (i := 663) (by decide +kernel), by decide +kernel⟩
theorem k_X4_68 : zCal RX4 68 yX4_callOff cX4_callOff 2 (some .int) 0 := ⟨wm_X4_68, wi_X4, wc_X4_callOff, by decide +kernel, by decide +kernel, by decide +kernel⟩
set_option maxRecDepth 20000 in
theorem wn_X4_callOff : Cond.instanceMethod yX4_callOff ∈ zB := List.mem_filter.mpr ⟨List.mem_of_getElem? (i := 587) (by decide +kernel), by decide +kernel⟩
set_option maxRecDepth 20000 in
theorem ws_X4_callOff : Cond.selects RX4 yX4_callOff yX4_callOff ∈ zB := List.mem_filter.mpr ⟨List.mem_of_getElem? (i := 588) (by decide +kernel), by decide +kernel⟩
theorem v_X4_callOff : zVir yX4_callOff 4 := ⟨wn_X4_callOff, ws_X4_callOff, TX4, 9, rfl⟩
def rm_X4_depart : Room := { frames := 2, cells := 0, slots := 0, locals := 43 }
set_option maxHeartbeats 4000000 in
set_option maxRecDepth 20000 in
theorem t_X4_depart {p : Program} {l : Launch} {e : Env} {s : State} {m : MethodId} {args : Array Value} {below : List Frame} {meth : Method} {c : Code} {G : zG} (Z : zF p s m args c meth cX4_depart 1 RX4 G) (hr : meth.sig.returnType = none) {out : zHp} {a0 : Nat} {h : zHp} {H : Heap} {locs : List Loc} {ls : Array Slot} (hf : f_X4_depart a0 h = some out) (E : zE G s h H locs) (hl : lv_has ls 1 [(0, .ref a0)]) : W p l e rm_X4_depart s m args below meth c H locs 0 0 (MQ below (zQv G out) args s 0 0 (zA G)) (F0 m 0 ls []) := by
  unfold f_X4_depart at hf
  refine lv_aload_n Z.x Z.b dX4_depart_0 rfl (lv_at hl 0 rfl) ?_
  refine z_Vi (As := []) Z E hl.1 k_X4_65 v_X4_freePlaces hf (fun r h' e => c_X4_freePlaces l G h h' a0 r e) rfl rfl (Nat.le_of_ble_eq_true rfl) (zRm_of rfl (Nat.zero_le _) (Nat.zero_le _)) dX4_depart_1 (fun v1 h2 H locs hf E => ?_)
  refine lv_if_ne (tgt := 15) Z.x Z.b dX4_depart_4 (by decide) (fun c => ?_) (fun c => ?_)
  · have hf := zif_ hf c
    refine lv_aload_n Z.x Z.b dX4_depart_15 rfl (lv_at hl 0 rfl) ?_
    refine z_Vi (As := []) Z E hl.1 k_X4_68 v_X4_callOff hf (fun r h' e => c_X4_callOff l G h2 h' a0 r e) rfl rfl (Nat.le_of_ble_eq_true rfl) (zRm_of rfl (Nat.zero_le _) (Nat.zero_le _)) dX4_depart_16 (fun v3 h4 H locs hf E => ?_)
    refine lv_pop Z.x Z.b dX4_depart_19 rfl ?_
    exact z_vret Z E hr dX4_depart_20 hf
  · have hf := zit hf c
    refine lv_aload_n Z.x Z.b dX4_depart_7 rfl (lv_at hl 0 rfl) ?_
    refine lv_iconst (v := 1) Z.x Z.b dX4_depart_8 (by decide) ?_
    refine z_put Z E p_X4_9 rfl rfl dX4_depart_9 hf (fun h5 H locs hf E => ?_)
    refine lv_goto (tgt := 20) Z.x Z.b dX4_depart_12 (by decide) ?_
    exact z_vret Z E hr dX4_depart_20 hf
set_option maxHeartbeats 4000000 in
set_option maxRecDepth 20000 in
theorem c_X4_depart (l : Launch) (G : zG) (h : zHp) (h' : zHp) (a0 : Nat) (hf : f_X4_depart a0 h = some h') : zM0 l yX4_depart cX4_depart 1 none rm_X4_depart G [.ref a0] h (zQv G h') := by
  refine Met.ofW (cc := cX4_depart) (maxL := 1) (ret := none) (by decide) rfl ?_
  intro p e s m args below meth c s₁ B hml hv
  obtain ⟨rfl, hW⟩ := hv
  obtain ⟨Z, E, hr⟩ := zEnter (own := RX4) B hml rfl hW
  have hl := lv_entry ([.ref a0]) (n := 1) (Nat.le_of_ble_eq_true rfl)
  rw [lg_entry_eq]
  generalize (lg_sl ([.ref a0]) ++ List.replicate (1 - (lg_sl ([.ref a0])).length) Slot.unset).toArray = ls at hl ⊢
  have hl : lv_has ls 1 [(0, .ref a0)] := hl
  exact t_X4_depart (out := h') Z hr hf E hl
/-! FerryCrews$Sailing.freePlacesOf(I)I -/
theorem dX4_freePlacesOf_0 : decode cX4_freePlacesOf 0 = .ok (.iload_n 1, 1) := by decide +kernel
theorem dX4_freePlacesOf_1 : decode cX4_freePlacesOf 1 = .ok (.invokestatic 71, 3) := by decide +kernel
theorem dX4_freePlacesOf_4 : decode cX4_freePlacesOf 4 = .ok (.ifCond .ne 5, 3) := by decide +kernel
theorem dX4_freePlacesOf_7 : decode cX4_freePlacesOf 7 = .ok (.iconst 0, 1) := by decide +kernel
theorem dX4_freePlacesOf_8 : decode cX4_freePlacesOf 8 = .ok (.ireturn, 1) := by decide +kernel
theorem dX4_freePlacesOf_9 : decode cX4_freePlacesOf 9 = .ok (.aload_n 0, 1) := by decide +kernel
theorem dX4_freePlacesOf_10 : decode cX4_freePlacesOf 10 = .ok (.getfield 18, 3) := by decide +kernel
theorem dX4_freePlacesOf_13 : decode cX4_freePlacesOf 13 = .ok (.iload_n 1, 1) := by decide +kernel
theorem dX4_freePlacesOf_14 : decode cX4_freePlacesOf 14 = .ok (.iaload, 1) := by decide +kernel
theorem dX4_freePlacesOf_15 : decode cX4_freePlacesOf 15 = .ok (.istore_n 2, 1) := by decide +kernel
theorem dX4_freePlacesOf_16 : decode cX4_freePlacesOf 16 = .ok (.iconst 0, 1) := by decide +kernel
theorem dX4_freePlacesOf_17 : decode cX4_freePlacesOf 17 = .ok (.istore_n 3, 1) := by decide +kernel
theorem dX4_freePlacesOf_18 : decode cX4_freePlacesOf 18 = .ok (.iload_n 3, 1) := by decide +kernel
theorem dX4_freePlacesOf_19 : decode cX4_freePlacesOf 19 = .ok (.bipush 12, 2) := by decide +kernel
theorem dX4_freePlacesOf_21 : decode cX4_freePlacesOf 21 = .ok (.if_icmp .ge 22, 3) := by decide +kernel
theorem dX4_freePlacesOf_24 : decode cX4_freePlacesOf 24 = .ok (.aload_n 0, 1) := by decide +kernel
theorem dX4_freePlacesOf_25 : decode cX4_freePlacesOf 25 = .ok (.getfield 22, 3) := by decide +kernel
theorem dX4_freePlacesOf_28 : decode cX4_freePlacesOf 28 = .ok (.iload_n 3, 1) := by decide +kernel
theorem dX4_freePlacesOf_29 : decode cX4_freePlacesOf 29 = .ok (.iaload, 1) := by decide +kernel
theorem dX4_freePlacesOf_30 : decode cX4_freePlacesOf 30 = .ok (.iload_n 1, 1) := by decide +kernel
theorem dX4_freePlacesOf_31 : decode cX4_freePlacesOf 31 = .ok (.if_icmp .ne 6, 3) := by decide +kernel
theorem dX4_freePlacesOf_34 : decode cX4_freePlacesOf 34 = .ok (.iinc 2 (-1), 3) := by decide +kernel
theorem dX4_freePlacesOf_37 : decode cX4_freePlacesOf 37 = .ok (.iinc 3 1, 3) := by decide +kernel
theorem dX4_freePlacesOf_40 : decode cX4_freePlacesOf 40 = .ok (.goto (-22), 3) := by decide +kernel
theorem dX4_freePlacesOf_43 : decode cX4_freePlacesOf 43 = .ok (.iload_n 2, 1) := by decide +kernel
theorem dX4_freePlacesOf_44 : decode cX4_freePlacesOf 44 = .ok (.ireturn, 1) := by decide +kernel
set_option maxRecDepth 20000 in
theorem k_X4_71 : zCalN RX4 71 yX7_isRole "FerryCrews" cX7_isRole 1 (some .boolean) 1 := ⟨List.mem_of_getElem? (i := 407) (by decide +kernel), wi_X7, wc_X7_isRole, by decide +kernel, by decide +kernel, by decide +kernel⟩
def rm_X4_freePlacesOf : Room := { frames := 1, cells := 0, slots := 0, locals := 20 }
set_option maxHeartbeats 4000000 in
set_option maxRecDepth 20000 in
theorem t_X4_freePlacesOf_37 {p : Program} {l : Launch} {e : Env} {s : State} {m : MethodId} {args : Array Value} {below : List Frame} {meth : Method} {c : Code} {G : zG} (Z : zF p s m args c meth cX4_freePlacesOf 4 RX4 G) (hr : meth.sig.returnType = (some .int)) {out : Int32 × zHp} {r18 : Nat → Int32 → Int32 → Int32 → zHp → Option (Int32 × zHp)} (k18 : ∀ {a0 : Nat} {a1 : Int32} {a2 : Int32} {a3 : Int32} {h : zHp} {H : Heap} {locs : List Loc} {ls : Array Slot}, r18 a0 a1 a2 a3 h = some out → zE G s h H locs → lv_has ls 4 [(0, .ref a0), (1, .int a1), (2, .int a2), (3, .int a3)] → W p l e rm_X4_freePlacesOf s m args below meth c H locs 0 0 (MQ below (zQi G out.1 out.2) args s 0 0 (zA G)) (F0 m 18 ls [])) {a0 : Nat} {a1 : Int32} {a2 : Int32} {a3 : Int32} {h : zHp} {H : Heap} {locs : List Loc} {ls : Array Slot} (hf : f_X4_freePlacesOf_37 r18 a0 a1 a2 a3 h = some out) (E : zE G s h H locs) (hl : lv_has ls 4 [(0, .ref a0), (1, .int a1), (2, .int a2), (3, .int a3)]) : W p l e rm_X4_freePlacesOf s m args below meth c H locs 0 0 (MQ below (zQi G out.1 out.2) args s 0 0 (zA G)) (F0 m 37 ls []) := by
  unfold f_X4_freePlacesOf_37 at hf
  refine lv_iinc (v := (a3 + 1)) (lv' := [(3, .int (a3 + 1)), (0, .ref a0), (1, .int a1), (2, .int a2)]) Z.x Z.b dX4_freePlacesOf_37 hl (k := 3) rfl rfl (by decide) rfl (fun ls hl => ?_)
  refine lv_goto (tgt := 18) Z.x Z.b dX4_freePlacesOf_40 (by decide) ?_
  exact k18 hf E (lv_sub hl [1, 2, 3, 0] rfl)
set_option maxHeartbeats 4000000 in
set_option maxRecDepth 20000 in
theorem t_X4_freePlacesOf_18_body {p : Program} {l : Launch} {e : Env} {s : State} {m : MethodId} {args : Array Value} {below : List Frame} {meth : Method} {c : Code} {G : zG} (Z : zF p s m args c meth cX4_freePlacesOf 4 RX4 G) (hr : meth.sig.returnType = (some .int)) {out : Int32 × zHp} {r18 : Nat → Int32 → Int32 → Int32 → zHp → Option (Int32 × zHp)} (k18 : ∀ {a0 : Nat} {a1 : Int32} {a2 : Int32} {a3 : Int32} {h : zHp} {H : Heap} {locs : List Loc} {ls : Array Slot}, r18 a0 a1 a2 a3 h = some out → zE G s h H locs → lv_has ls 4 [(0, .ref a0), (1, .int a1), (2, .int a2), (3, .int a3)] → W p l e rm_X4_freePlacesOf s m args below meth c H locs 0 0 (MQ below (zQi G out.1 out.2) args s 0 0 (zA G)) (F0 m 18 ls [])) {a0 : Nat} {a1 : Int32} {a2 : Int32} {a3 : Int32} {h : zHp} {H : Heap} {locs : List Loc} {ls : Array Slot} (hf : f_X4_freePlacesOf_18_body r18 a0 a1 a2 a3 h = some out) (E : zE G s h H locs) (hl : lv_has ls 4 [(0, .ref a0), (1, .int a1), (2, .int a2), (3, .int a3)]) : W p l e rm_X4_freePlacesOf s m args below meth c H locs 0 0 (MQ below (zQi G out.1 out.2) args s 0 0 (zA G)) (F0 m 18 ls []) := by
  unfold f_X4_freePlacesOf_18_body at hf
  refine lv_iload_n Z.x Z.b dX4_freePlacesOf_18 rfl (lv_at hl 3 rfl) ?_
  refine lv_bipush (v := 12) Z.x Z.b dX4_freePlacesOf_19 (by decide) ?_
  refine lv_icmp_ge (tgt := 43) Z.x Z.b dX4_freePlacesOf_21 (by decide) (fun c => ?_) (fun c => ?_)
  · have hf := zit hf c
    refine lv_iload_n Z.x Z.b dX4_freePlacesOf_43 rfl (lv_at hl 2 rfl) ?_
    exact z_iret Z E hr dX4_freePlacesOf_44 hf
  · have hf := zif_ hf c
    refine lv_aload_n Z.x Z.b dX4_freePlacesOf_24 rfl (lv_at hl 0 rfl) ?_
    refine z_getR Z E q_X4_22 dX4_freePlacesOf_25 hf (fun v1 hf => ?_)
    refine lv_iload_n Z.x Z.b dX4_freePlacesOf_28 rfl (lv_at hl 3 rfl) ?_
    refine z_iald Z E dX4_freePlacesOf_29 hf (fun v2 hf => ?_)
    refine lv_iload_n Z.x Z.b dX4_freePlacesOf_30 rfl (lv_at hl 1 rfl) ?_
    refine lv_icmp_ne (tgt := 37) Z.x Z.b dX4_freePlacesOf_31 (by decide) (fun c => ?_) (fun c => ?_)
    · have hf := zif_ hf c
      exact t_X4_freePlacesOf_37 Z hr k18 hf E (lv_sub hl [0, 1, 2, 3] rfl)
    · have hf := zit hf c
      refine lv_iinc (v := (a2 + (-1))) (lv' := [(2, .int (a2 + (-1))), (0, .ref a0), (1, .int a1), (3, .int a3)]) Z.x Z.b dX4_freePlacesOf_34 hl (k := 2) rfl rfl (by decide) rfl (fun ls hl => ?_)
      exact t_X4_freePlacesOf_37 Z hr k18 hf E (lv_sub hl [1, 2, 0, 3] rfl)
theorem t_X4_freePlacesOf_18 {p : Program} {l : Launch} {e : Env} {s : State} {m : MethodId} {args : Array Value} {below : List Frame} {meth : Method} {c : Code} {G : zG} (Z : zF p s m args c meth cX4_freePlacesOf 4 RX4 G) (hr : meth.sig.returnType = (some .int)) {out : Int32 × zHp} : ∀ (n : Nat), ∀ {a0 : Nat} {a1 : Int32} {a2 : Int32} {a3 : Int32} {h : zHp} {H : Heap} {locs : List Loc} {ls : Array Slot}, f_X4_freePlacesOf_18 n a0 a1 a2 a3 h = some out → zE G s h H locs → lv_has ls 4 [(0, .ref a0), (1, .int a1), (2, .int a2), (3, .int a3)] → W p l e rm_X4_freePlacesOf s m args below meth c H locs 0 0 (MQ below (zQi G out.1 out.2) args s 0 0 (zA G)) (F0 m 18 ls [])
  | 0 => fun hf => by cases hf
  | n + 1 => fun hf E hl => t_X4_freePlacesOf_18_body Z hr (r18 := f_X4_freePlacesOf_18 n) (t_X4_freePlacesOf_18 Z hr n) hf E hl
set_option maxHeartbeats 4000000 in
set_option maxRecDepth 20000 in
theorem t_X4_freePlacesOf {p : Program} {l : Launch} {e : Env} {s : State} {m : MethodId} {args : Array Value} {below : List Frame} {meth : Method} {c : Code} {G : zG} (Z : zF p s m args c meth cX4_freePlacesOf 4 RX4 G) (hr : meth.sig.returnType = (some .int)) {out : Int32 × zHp} {a0 : Nat} {a1 : Int32} {h : zHp} {H : Heap} {locs : List Loc} {ls : Array Slot} (hf : f_X4_freePlacesOf a0 a1 h = some out) (E : zE G s h H locs) (hl : lv_has ls 4 [(0, .ref a0), (1, .int a1)]) : W p l e rm_X4_freePlacesOf s m args below meth c H locs 0 0 (MQ below (zQi G out.1 out.2) args s 0 0 (zA G)) (F0 m 0 ls []) := by
  unfold f_X4_freePlacesOf at hf
  refine lv_iload_n Z.x Z.b dX4_freePlacesOf_0 rfl (lv_at hl 1 rfl) ?_
  refine z_SNi (As := [.int a1]) Z E hl.1 k_X4_71 wt_X7_isRole hf (fun r h' e => c_X7_isRole l G h h' a1 r e) rfl rfl (Nat.le_of_ble_eq_true rfl) (zRm_of rfl (Nat.zero_le _) (Nat.zero_le _)) dX4_freePlacesOf_1 (fun v1 h2 H locs hf E => ?_)
  refine lv_if_ne (tgt := 9) Z.x Z.b dX4_freePlacesOf_4 (by decide) (fun c => ?_) (fun c => ?_)
  · have hf := zif_ hf c
    refine lv_aload_n Z.x Z.b dX4_freePlacesOf_9 rfl (lv_at hl 0 rfl) ?_
    refine z_getR Z E q_X4_18 dX4_freePlacesOf_10 hf (fun v3 hf => ?_)
    refine lv_iload_n Z.x Z.b dX4_freePlacesOf_13 rfl (lv_at hl 1 rfl) ?_
    refine z_iald Z E dX4_freePlacesOf_14 hf (fun v4 hf => ?_)
    refine lv_istore_n (lv' := [(2, .int v4), (0, .ref a0), (1, .int a1)]) Z.x Z.b dX4_freePlacesOf_15 rfl hl (by decide) rfl (fun ls hl => ?_)
    refine lv_iconst (v := 0) Z.x Z.b dX4_freePlacesOf_16 (by decide) ?_
    refine lv_istore_n (lv' := [(3, .int 0), (2, .int v4), (0, .ref a0), (1, .int a1)]) Z.x Z.b dX4_freePlacesOf_17 rfl hl (by decide) rfl (fun ls hl => ?_)
    exact t_X4_freePlacesOf_18 Z hr zN hf E (lv_sub hl [2, 3, 1, 0] rfl)
  · have hf := zit hf c
    refine lv_iconst (v := 0) Z.x Z.b dX4_freePlacesOf_7 (by decide) ?_
    exact z_iret Z E hr dX4_freePlacesOf_8 hf
set_option maxHeartbeats 4000000 in
set_option maxRecDepth 20000 in
theorem c_X4_freePlacesOf (l : Launch) (G : zG) (h : zHp) (h' : zHp) (a0 : Nat) (a1 : Int32) (r : Int32) (hf : f_X4_freePlacesOf a0 a1 h = some (r, h')) : zM0 l yX4_freePlacesOf cX4_freePlacesOf 4 (some .int) rm_X4_freePlacesOf G [.ref a0, .int a1] h (zQi G r h') := by
  refine Met.ofW (cc := cX4_freePlacesOf) (maxL := 4) (ret := (some .int)) (by decide) rfl ?_
  intro p e s m args below meth c s₁ B hml hv
  obtain ⟨rfl, hW⟩ := hv
  obtain ⟨Z, E, hr⟩ := zEnter (own := RX4) B hml rfl hW
  have hl := lv_entry ([.ref a0, .int a1]) (n := 4) (Nat.le_of_ble_eq_true rfl)
  rw [lg_entry_eq]
  generalize (lg_sl ([.ref a0, .int a1]) ++ List.replicate (4 - (lg_sl ([.ref a0, .int a1])).length) Slot.unset).toArray = ls at hl ⊢
  have hl : lv_has ls 4 [(0, .ref a0), (1, .int a1)] := hl
  exact t_X4_freePlacesOf (out := (r, h')) Z hr hf E hl
/-! FerryCrews$Sailing.memberOfRank(I)I -/
theorem dX4_memberOfRank_0 : decode cX4_memberOfRank 0 = .ok (.iconst 0, 1) := by decide +kernel
theorem dX4_memberOfRank_1 : decode cX4_memberOfRank 1 = .ok (.istore_n 2, 1) := by decide +kernel
theorem dX4_memberOfRank_2 : decode cX4_memberOfRank 2 = .ok (.iconst 0, 1) := by decide +kernel
theorem dX4_memberOfRank_3 : decode cX4_memberOfRank 3 = .ok (.istore_n 3, 1) := by decide +kernel
theorem dX4_memberOfRank_4 : decode cX4_memberOfRank 4 = .ok (.iload_n 3, 1) := by decide +kernel
theorem dX4_memberOfRank_5 : decode cX4_memberOfRank 5 = .ok (.iconst 4, 1) := by decide +kernel
theorem dX4_memberOfRank_6 : decode cX4_memberOfRank 6 = .ok (.if_icmp .ge 47, 3) := by decide +kernel
theorem dX4_memberOfRank_9 : decode cX4_memberOfRank 9 = .ok (.iconst 0, 1) := by decide +kernel
theorem dX4_memberOfRank_10 : decode cX4_memberOfRank 10 = .ok (.istore 4, 2) := by decide +kernel
theorem dX4_memberOfRank_12 : decode cX4_memberOfRank 12 = .ok (.iload 4, 2) := by decide +kernel
theorem dX4_memberOfRank_14 : decode cX4_memberOfRank 14 = .ok (.bipush 12, 2) := by decide +kernel
theorem dX4_memberOfRank_16 : decode cX4_memberOfRank 16 = .ok (.if_icmp .ge 31, 3) := by decide +kernel
theorem dX4_memberOfRank_19 : decode cX4_memberOfRank 19 = .ok (.aload_n 0, 1) := by decide +kernel
theorem dX4_memberOfRank_20 : decode cX4_memberOfRank 20 = .ok (.getfield 22, 3) := by decide +kernel
theorem dX4_memberOfRank_23 : decode cX4_memberOfRank 23 = .ok (.iload 4, 2) := by decide +kernel
theorem dX4_memberOfRank_25 : decode cX4_memberOfRank 25 = .ok (.iaload, 1) := by decide +kernel
theorem dX4_memberOfRank_26 : decode cX4_memberOfRank 26 = .ok (.iload_n 3, 1) := by decide +kernel
theorem dX4_memberOfRank_27 : decode cX4_memberOfRank 27 = .ok (.if_icmp .ne 14, 3) := by decide +kernel
theorem dX4_memberOfRank_30 : decode cX4_memberOfRank 30 = .ok (.iload_n 2, 1) := by decide +kernel
theorem dX4_memberOfRank_31 : decode cX4_memberOfRank 31 = .ok (.iload_n 1, 1) := by decide +kernel
theorem dX4_memberOfRank_32 : decode cX4_memberOfRank 32 = .ok (.if_icmp .ne 6, 3) := by decide +kernel
theorem dX4_memberOfRank_35 : decode cX4_memberOfRank 35 = .ok (.iload 4, 2) := by decide +kernel
theorem dX4_memberOfRank_37 : decode cX4_memberOfRank 37 = .ok (.ireturn, 1) := by decide +kernel
theorem dX4_memberOfRank_38 : decode cX4_memberOfRank 38 = .ok (.iinc 2 1, 3) := by decide +kernel
theorem dX4_memberOfRank_41 : decode cX4_memberOfRank 41 = .ok (.iinc 4 1, 3) := by decide +kernel
theorem dX4_memberOfRank_44 : decode cX4_memberOfRank 44 = .ok (.goto (-32), 3) := by decide +kernel
theorem dX4_memberOfRank_47 : decode cX4_memberOfRank 47 = .ok (.iinc 3 1, 3) := by decide +kernel
theorem dX4_memberOfRank_50 : decode cX4_memberOfRank 50 = .ok (.goto (-46), 3) := by decide +kernel
theorem dX4_memberOfRank_53 : decode cX4_memberOfRank 53 = .ok (.bipush (-5), 2) := by decide +kernel
theorem dX4_memberOfRank_55 : decode cX4_memberOfRank 55 = .ok (.ireturn, 1) := by decide +kernel
def rm_X4_memberOfRank : Room := { frames := 0, cells := 0, slots := 0, locals := 0 }
set_option maxHeartbeats 4000000 in
set_option maxRecDepth 20000 in
theorem t_X4_memberOfRank_41 {p : Program} {l : Launch} {e : Env} {s : State} {m : MethodId} {args : Array Value} {below : List Frame} {meth : Method} {c : Code} {G : zG} (Z : zF p s m args c meth cX4_memberOfRank 5 RX4 G) (hr : meth.sig.returnType = (some .int)) {out : Int32 × zHp} {r4 : Nat → Int32 → Int32 → Int32 → zHp → Option (Int32 × zHp)} (k4 : ∀ {a0 : Nat} {a1 : Int32} {a2 : Int32} {a3 : Int32} {h : zHp} {H : Heap} {locs : List Loc} {ls : Array Slot}, r4 a0 a1 a2 a3 h = some out → zE G s h H locs → lv_has ls 5 [(0, .ref a0), (1, .int a1), (2, .int a2), (3, .int a3)] → W p l e rm_X4_memberOfRank s m args below meth c H locs 0 0 (MQ below (zQi G out.1 out.2) args s 0 0 (zA G)) (F0 m 4 ls [])) {r12 : Nat → Int32 → Int32 → Int32 → Int32 → zHp → Option (Int32 × zHp)} (k12 : ∀ {a0 : Nat} {a1 : Int32} {a2 : Int32} {a3 : Int32} {a4 : Int32} {h : zHp} {H : Heap} {locs : List Loc} {ls : Array Slot}, r12 a0 a1 a2 a3 a4 h = some out → zE G s h H locs → lv_has ls 5 [(0, .ref a0), (1, .int a1), (2, .int a2), (3, .int a3), (4, .int a4)] → W p l e rm_X4_memberOfRank s m args below meth c H locs 0 0 (MQ below (zQi G out.1 out.2) args s 0 0 (zA G)) (F0 m 12 ls [])) {a0 : Nat} {a1 : Int32} {a2 : Int32} {a3 : Int32} {a4 : Int32} {h : zHp} {H : Heap} {locs : List Loc} {ls : Array Slot} (hf : f_X4_memberOfRank_41 r4 r12 a0 a1 a2 a3 a4 h = some out) (E : zE G s h H locs) (hl : lv_has ls 5 [(0, .ref a0), (1, .int a1), (2, .int a2), (3, .int a3), (4, .int a4)]) : W p l e rm_X4_memberOfRank s m args below meth c H locs 0 0 (MQ below (zQi G out.1 out.2) args s 0 0 (zA G)) (F0 m 41 ls []) := by
  unfold f_X4_memberOfRank_41 at hf
  refine lv_iinc (v := (a4 + 1)) (lv' := [(4, .int (a4 + 1)), (0, .ref a0), (1, .int a1), (2, .int a2), (3, .int a3)]) Z.x Z.b dX4_memberOfRank_41 hl (k := 4) rfl rfl (by decide) rfl (fun ls hl => ?_)
  refine lv_goto (tgt := 12) Z.x Z.b dX4_memberOfRank_44 (by decide) ?_
  exact k12 hf E (lv_sub hl [1, 2, 3, 4, 0] rfl)
set_option maxHeartbeats 4000000 in
set_option maxRecDepth 20000 in
theorem t_X4_memberOfRank_12_body {p : Program} {l : Launch} {e : Env} {s : State} {m : MethodId} {args : Array Value} {below : List Frame} {meth : Method} {c : Code} {G : zG} (Z : zF p s m args c meth cX4_memberOfRank 5 RX4 G) (hr : meth.sig.returnType = (some .int)) {out : Int32 × zHp} {r4 : Nat → Int32 → Int32 → Int32 → zHp → Option (Int32 × zHp)} (k4 : ∀ {a0 : Nat} {a1 : Int32} {a2 : Int32} {a3 : Int32} {h : zHp} {H : Heap} {locs : List Loc} {ls : Array Slot}, r4 a0 a1 a2 a3 h = some out → zE G s h H locs → lv_has ls 5 [(0, .ref a0), (1, .int a1), (2, .int a2), (3, .int a3)] → W p l e rm_X4_memberOfRank s m args below meth c H locs 0 0 (MQ below (zQi G out.1 out.2) args s 0 0 (zA G)) (F0 m 4 ls [])) {r12 : Nat → Int32 → Int32 → Int32 → Int32 → zHp → Option (Int32 × zHp)} (k12 : ∀ {a0 : Nat} {a1 : Int32} {a2 : Int32} {a3 : Int32} {a4 : Int32} {h : zHp} {H : Heap} {locs : List Loc} {ls : Array Slot}, r12 a0 a1 a2 a3 a4 h = some out → zE G s h H locs → lv_has ls 5 [(0, .ref a0), (1, .int a1), (2, .int a2), (3, .int a3), (4, .int a4)] → W p l e rm_X4_memberOfRank s m args below meth c H locs 0 0 (MQ below (zQi G out.1 out.2) args s 0 0 (zA G)) (F0 m 12 ls [])) {a0 : Nat} {a1 : Int32} {a2 : Int32} {a3 : Int32} {a4 : Int32} {h : zHp} {H : Heap} {locs : List Loc} {ls : Array Slot} (hf : f_X4_memberOfRank_12_body r4 r12 a0 a1 a2 a3 a4 h = some out) (E : zE G s h H locs) (hl : lv_has ls 5 [(0, .ref a0), (1, .int a1), (2, .int a2), (3, .int a3), (4, .int a4)]) : W p l e rm_X4_memberOfRank s m args below meth c H locs 0 0 (MQ below (zQi G out.1 out.2) args s 0 0 (zA G)) (F0 m 12 ls []) := by
  unfold f_X4_memberOfRank_12_body at hf
  refine lv_iload Z.x Z.b dX4_memberOfRank_12 (lv_at hl 4 rfl) ?_
  refine lv_bipush (v := 12) Z.x Z.b dX4_memberOfRank_14 (by decide) ?_
  refine lv_icmp_ge (tgt := 47) Z.x Z.b dX4_memberOfRank_16 (by decide) (fun c => ?_) (fun c => ?_)
  · have hf := zit hf c
    refine lv_iinc (v := (a3 + 1)) (lv' := [(3, .int (a3 + 1)), (0, .ref a0), (1, .int a1), (2, .int a2), (4, .int a4)]) Z.x Z.b dX4_memberOfRank_47 hl (k := 3) rfl rfl (by decide) rfl (fun ls hl => ?_)
    refine lv_goto (tgt := 4) Z.x Z.b dX4_memberOfRank_50 (by decide) ?_
    exact k4 hf E (lv_sub hl [1, 2, 3, 0] rfl)
  · have hf := zif_ hf c
    refine lv_aload_n Z.x Z.b dX4_memberOfRank_19 rfl (lv_at hl 0 rfl) ?_
    refine z_getR Z E q_X4_22 dX4_memberOfRank_20 hf (fun v1 hf => ?_)
    refine lv_iload Z.x Z.b dX4_memberOfRank_23 (lv_at hl 4 rfl) ?_
    refine z_iald Z E dX4_memberOfRank_25 hf (fun v2 hf => ?_)
    refine lv_iload_n Z.x Z.b dX4_memberOfRank_26 rfl (lv_at hl 3 rfl) ?_
    refine lv_icmp_ne (tgt := 41) Z.x Z.b dX4_memberOfRank_27 (by decide) (fun c => ?_) (fun c => ?_)
    · have hf := zif_ hf c
      exact t_X4_memberOfRank_41 Z hr k4 k12 hf E (lv_sub hl [0, 1, 2, 3, 4] rfl)
    · have hf := zit hf c
      refine lv_iload_n Z.x Z.b dX4_memberOfRank_30 rfl (lv_at hl 2 rfl) ?_
      refine lv_iload_n Z.x Z.b dX4_memberOfRank_31 rfl (lv_at hl 1 rfl) ?_
      refine lv_icmp_ne (tgt := 38) Z.x Z.b dX4_memberOfRank_32 (by decide) (fun c => ?_) (fun c => ?_)
      · have hf := zif_ hf c
        refine lv_iinc (v := (a2 + 1)) (lv' := [(2, .int (a2 + 1)), (0, .ref a0), (1, .int a1), (3, .int a3), (4, .int a4)]) Z.x Z.b dX4_memberOfRank_38 hl (k := 2) rfl rfl (by decide) rfl (fun ls hl => ?_)
        exact t_X4_memberOfRank_41 Z hr k4 k12 hf E (lv_sub hl [1, 2, 0, 3, 4] rfl)
      · have hf := zit hf c
        refine lv_iload Z.x Z.b dX4_memberOfRank_35 (lv_at hl 4 rfl) ?_
        exact z_iret Z E hr dX4_memberOfRank_37 hf
theorem t_X4_memberOfRank_12 {p : Program} {l : Launch} {e : Env} {s : State} {m : MethodId} {args : Array Value} {below : List Frame} {meth : Method} {c : Code} {G : zG} (Z : zF p s m args c meth cX4_memberOfRank 5 RX4 G) (hr : meth.sig.returnType = (some .int)) {out : Int32 × zHp} {r4 : Nat → Int32 → Int32 → Int32 → zHp → Option (Int32 × zHp)} (k4 : ∀ {a0 : Nat} {a1 : Int32} {a2 : Int32} {a3 : Int32} {h : zHp} {H : Heap} {locs : List Loc} {ls : Array Slot}, r4 a0 a1 a2 a3 h = some out → zE G s h H locs → lv_has ls 5 [(0, .ref a0), (1, .int a1), (2, .int a2), (3, .int a3)] → W p l e rm_X4_memberOfRank s m args below meth c H locs 0 0 (MQ below (zQi G out.1 out.2) args s 0 0 (zA G)) (F0 m 4 ls [])) : ∀ (n : Nat), ∀ {a0 : Nat} {a1 : Int32} {a2 : Int32} {a3 : Int32} {a4 : Int32} {h : zHp} {H : Heap} {locs : List Loc} {ls : Array Slot}, f_X4_memberOfRank_12 r4 n a0 a1 a2 a3 a4 h = some out → zE G s h H locs → lv_has ls 5 [(0, .ref a0), (1, .int a1), (2, .int a2), (3, .int a3), (4, .int a4)] → W p l e rm_X4_memberOfRank s m args below meth c H locs 0 0 (MQ below (zQi G out.1 out.2) args s 0 0 (zA G)) (F0 m 12 ls [])
  | 0 => fun hf => by cases hf
  | n + 1 => fun hf E hl => t_X4_memberOfRank_12_body Z hr k4 (r12 := f_X4_memberOfRank_12 r4 n) (t_X4_memberOfRank_12 Z hr k4 n) hf E hl
set_option maxHeartbeats 4000000 in
set_option maxRecDepth 20000 in
theorem t_X4_memberOfRank_4_body {p : Program} {l : Launch} {e : Env} {s : State} {m : MethodId} {args : Array Value} {below : List Frame} {meth : Method} {c : Code} {G : zG} (Z : zF p s m args c meth cX4_memberOfRank 5 RX4 G) (hr : meth.sig.returnType = (some .int)) {out : Int32 × zHp} {r4 : Nat → Int32 → Int32 → Int32 → zHp → Option (Int32 × zHp)} (k4 : ∀ {a0 : Nat} {a1 : Int32} {a2 : Int32} {a3 : Int32} {h : zHp} {H : Heap} {locs : List Loc} {ls : Array Slot}, r4 a0 a1 a2 a3 h = some out → zE G s h H locs → lv_has ls 5 [(0, .ref a0), (1, .int a1), (2, .int a2), (3, .int a3)] → W p l e rm_X4_memberOfRank s m args below meth c H locs 0 0 (MQ below (zQi G out.1 out.2) args s 0 0 (zA G)) (F0 m 4 ls [])) {a0 : Nat} {a1 : Int32} {a2 : Int32} {a3 : Int32} {h : zHp} {H : Heap} {locs : List Loc} {ls : Array Slot} (hf : f_X4_memberOfRank_4_body r4 a0 a1 a2 a3 h = some out) (E : zE G s h H locs) (hl : lv_has ls 5 [(0, .ref a0), (1, .int a1), (2, .int a2), (3, .int a3)]) : W p l e rm_X4_memberOfRank s m args below meth c H locs 0 0 (MQ below (zQi G out.1 out.2) args s 0 0 (zA G)) (F0 m 4 ls []) := by
  unfold f_X4_memberOfRank_4_body at hf
  refine lv_iload_n Z.x Z.b dX4_memberOfRank_4 rfl (lv_at hl 3 rfl) ?_
  refine lv_iconst (v := 4) Z.x Z.b dX4_memberOfRank_5 (by decide) ?_
  refine lv_icmp_ge (tgt := 53) Z.x Z.b dX4_memberOfRank_6 (by decide) (fun c => ?_) (fun c => ?_)
  · have hf := zit hf c
    refine lv_bipush (v := (-5)) Z.x Z.b dX4_memberOfRank_53 (by decide) ?_
    exact z_iret Z E hr dX4_memberOfRank_55 hf
  · have hf := zif_ hf c
    refine lv_iconst (v := 0) Z.x Z.b dX4_memberOfRank_9 (by decide) ?_
    refine lv_istore (lv' := [(4, .int 0), (0, .ref a0), (1, .int a1), (2, .int a2), (3, .int a3)]) Z.x Z.b dX4_memberOfRank_10 hl (by decide) rfl (fun ls hl => ?_)
    exact t_X4_memberOfRank_12 Z hr k4 zN hf E (lv_sub hl [1, 2, 3, 4, 0] rfl)
theorem t_X4_memberOfRank_4 {p : Program} {l : Launch} {e : Env} {s : State} {m : MethodId} {args : Array Value} {below : List Frame} {meth : Method} {c : Code} {G : zG} (Z : zF p s m args c meth cX4_memberOfRank 5 RX4 G) (hr : meth.sig.returnType = (some .int)) {out : Int32 × zHp} : ∀ (n : Nat), ∀ {a0 : Nat} {a1 : Int32} {a2 : Int32} {a3 : Int32} {h : zHp} {H : Heap} {locs : List Loc} {ls : Array Slot}, f_X4_memberOfRank_4 n a0 a1 a2 a3 h = some out → zE G s h H locs → lv_has ls 5 [(0, .ref a0), (1, .int a1), (2, .int a2), (3, .int a3)] → W p l e rm_X4_memberOfRank s m args below meth c H locs 0 0 (MQ below (zQi G out.1 out.2) args s 0 0 (zA G)) (F0 m 4 ls [])
  | 0 => fun hf => by cases hf
  | n + 1 => fun hf E hl => t_X4_memberOfRank_4_body Z hr (r4 := f_X4_memberOfRank_4 n) (t_X4_memberOfRank_4 Z hr n) hf E hl
set_option maxHeartbeats 4000000 in
set_option maxRecDepth 20000 in
theorem t_X4_memberOfRank {p : Program} {l : Launch} {e : Env} {s : State} {m : MethodId} {args : Array Value} {below : List Frame} {meth : Method} {c : Code} {G : zG} (Z : zF p s m args c meth cX4_memberOfRank 5 RX4 G) (hr : meth.sig.returnType = (some .int)) {out : Int32 × zHp} {a0 : Nat} {a1 : Int32} {h : zHp} {H : Heap} {locs : List Loc} {ls : Array Slot} (hf : f_X4_memberOfRank a0 a1 h = some out) (E : zE G s h H locs) (hl : lv_has ls 5 [(0, .ref a0), (1, .int a1)]) : W p l e rm_X4_memberOfRank s m args below meth c H locs 0 0 (MQ below (zQi G out.1 out.2) args s 0 0 (zA G)) (F0 m 0 ls []) := by
  unfold f_X4_memberOfRank at hf
  refine lv_iconst (v := 0) Z.x Z.b dX4_memberOfRank_0 (by decide) ?_
  refine lv_istore_n (lv' := [(2, .int 0), (0, .ref a0), (1, .int a1)]) Z.x Z.b dX4_memberOfRank_1 rfl hl (by decide) rfl (fun ls hl => ?_)
  refine lv_iconst (v := 0) Z.x Z.b dX4_memberOfRank_2 (by decide) ?_
  refine lv_istore_n (lv' := [(3, .int 0), (2, .int 0), (0, .ref a0), (1, .int a1)]) Z.x Z.b dX4_memberOfRank_3 rfl hl (by decide) rfl (fun ls hl => ?_)
  exact t_X4_memberOfRank_4 Z hr zN hf E (lv_sub hl [2, 3, 1, 0] rfl)
set_option maxHeartbeats 4000000 in
set_option maxRecDepth 20000 in
theorem c_X4_memberOfRank (l : Launch) (G : zG) (h : zHp) (h' : zHp) (a0 : Nat) (a1 : Int32) (r : Int32) (hf : f_X4_memberOfRank a0 a1 h = some (r, h')) : zM0 l yX4_memberOfRank cX4_memberOfRank 5 (some .int) rm_X4_memberOfRank G [.ref a0, .int a1] h (zQi G r h') := by
  refine Met.ofW (cc := cX4_memberOfRank) (maxL := 5) (ret := (some .int)) (by decide) rfl ?_
  intro p e s m args below meth c s₁ B hml hv
  obtain ⟨rfl, hW⟩ := hv
  obtain ⟨Z, E, hr⟩ := zEnter (own := RX4) B hml rfl hW
  have hl := lv_entry ([.ref a0, .int a1]) (n := 5) (Nat.le_of_ble_eq_true rfl)
  rw [lg_entry_eq]
  generalize (lg_sl ([.ref a0, .int a1]) ++ List.replicate (5 - (lg_sl ([.ref a0, .int a1])).length) Slot.unset).toArray = ls at hl ⊢
  have hl : lv_has ls 5 [(0, .ref a0), (1, .int a1)] := hl
  exact t_X4_memberOfRank (out := (r, h')) Z hr hf E hl
/-! FerryCrews$State.sailingAt(I)LFerryCrews$Sailing; -/
theorem dX5_sailingAt_0 : decode cX5_sailingAt 0 = .ok (.aload_n 0, 1) := by decide +kernel
theorem dX5_sailingAt_1 : decode cX5_sailingAt 1 = .ok (.getfield 17, 3) := by decide +kernel
theorem dX5_sailingAt_4 : decode cX5_sailingAt 4 = .ok (.astore_n 2, 1) := by decide +kernel
theorem dX5_sailingAt_5 : decode cX5_sailingAt 5 = .ok (.aload_n 2, 1) := by decide +kernel
theorem dX5_sailingAt_6 : decode cX5_sailingAt 6 = .ok (.arraylength, 1) := by decide +kernel
theorem dX5_sailingAt_7 : decode cX5_sailingAt 7 = .ok (.istore_n 3, 1) := by decide +kernel
theorem dX5_sailingAt_8 : decode cX5_sailingAt 8 = .ok (.iconst 0, 1) := by decide +kernel
theorem dX5_sailingAt_9 : decode cX5_sailingAt 9 = .ok (.istore 4, 2) := by decide +kernel
theorem dX5_sailingAt_11 : decode cX5_sailingAt 11 = .ok (.iload 4, 2) := by decide +kernel
theorem dX5_sailingAt_13 : decode cX5_sailingAt 13 = .ok (.iload_n 3, 1) := by decide +kernel
theorem dX5_sailingAt_14 : decode cX5_sailingAt 14 = .ok (.if_icmp .ge 35, 3) := by decide +kernel
theorem dX5_sailingAt_17 : decode cX5_sailingAt 17 = .ok (.aload_n 2, 1) := by decide +kernel
theorem dX5_sailingAt_18 : decode cX5_sailingAt 18 = .ok (.iload 4, 2) := by decide +kernel
theorem dX5_sailingAt_20 : decode cX5_sailingAt 20 = .ok (.aaload, 1) := by decide +kernel
theorem dX5_sailingAt_21 : decode cX5_sailingAt 21 = .ok (.astore 5, 2) := by decide +kernel
theorem dX5_sailingAt_23 : decode cX5_sailingAt 23 = .ok (.aload 5, 2) := by decide +kernel
theorem dX5_sailingAt_25 : decode cX5_sailingAt 25 = .ok (.invokevirtual 69, 3) := by decide +kernel
theorem dX5_sailingAt_28 : decode cX5_sailingAt 28 = .ok (.ifCond .eq 15, 3) := by decide +kernel
theorem dX5_sailingAt_31 : decode cX5_sailingAt 31 = .ok (.aload 5, 2) := by decide +kernel
theorem dX5_sailingAt_33 : decode cX5_sailingAt 33 = .ok (.getfield 73, 3) := by decide +kernel
theorem dX5_sailingAt_36 : decode cX5_sailingAt 36 = .ok (.iload_n 1, 1) := by decide +kernel
theorem dX5_sailingAt_37 : decode cX5_sailingAt 37 = .ok (.if_icmp .ne 6, 3) := by decide +kernel
theorem dX5_sailingAt_40 : decode cX5_sailingAt 40 = .ok (.aload 5, 2) := by decide +kernel
theorem dX5_sailingAt_42 : decode cX5_sailingAt 42 = .ok (.areturn, 1) := by decide +kernel
theorem dX5_sailingAt_43 : decode cX5_sailingAt 43 = .ok (.iinc 4 1, 3) := by decide +kernel
theorem dX5_sailingAt_46 : decode cX5_sailingAt 46 = .ok (.goto (-35), 3) := by decide +kernel
theorem dX5_sailingAt_49 : decode cX5_sailingAt 49 = .ok (.aconst_null, 1) := by decide +kernel
theorem dX5_sailingAt_50 : decode cX5_sailingAt 50 = .ok (.areturn, 1) := by decide +kernel
set_option maxRecDepth 20000 in
theorem wc_X4_hasCome : Cond.code yX4_hasCome cX4_hasCome 1 (some .boolean) ∈ zB := List.mem_filter.mpr ⟨List.mem_of_getElem? (i := 396) (by decide +kernel), by decide +kernel⟩
set_option maxRecDepth 20000 in
theorem wm_X5_69 : Cond.methodLink RX5 69 yX4_hasCome ∈ zB := List.mem_filter.mpr ⟨List.mem_of_getElem? (i := 393) (by decide +kernel), by decide +kernel⟩
theorem k_X5_69 : zCal RX5 69 yX4_hasCome cX4_hasCome 1 (some .boolean) 0 := ⟨wm_X5_69, wi_X4, wc_X4_hasCome, by decide +kernel, by decide +kernel, by decide +kernel⟩
set_option maxRecDepth 20000 in
theorem wn_X4_hasCome : Cond.instanceMethod yX4_hasCome ∈ zB := List.mem_filter.mpr ⟨List.mem_of_getElem? (i := 394) (by decide +kernel), by decide +kernel⟩
set_option maxRecDepth 20000 in
theorem ws_X4_hasCome : Cond.selects RX4 yX4_hasCome yX4_hasCome ∈ zB := List.mem_filter.mpr ⟨List.mem_of_getElem? (i := 395) (by decide +kernel), by decide +kernel⟩
theorem v_X4_hasCome : zVir yX4_hasCome 4 := ⟨wn_X4_hasCome, ws_X4_hasCome, TX4, 9, rfl⟩
set_option maxRecDepth 20000 in
theorem wf_X5_73 : Cond.fieldLink RX5 73 RX4 "number" "I" ∈ zB := List.mem_filter.mpr ⟨List.mem_of_getElem? (i := 72) (by decide +kernel), by decide +kernel⟩
theorem q_X5_73 : zFld RX5 73 4 0 := ⟨RX4, TX4, 9, rfl, by decide, iX4, wf_X5_73, rfl⟩
def rm_X5_sailingAt : Room := { frames := 1, cells := 0, slots := 0, locals := 20 }
set_option maxHeartbeats 4000000 in
set_option maxRecDepth 20000 in
theorem t_X5_sailingAt_43 {p : Program} {l : Launch} {e : Env} {s : State} {m : MethodId} {args : Array Value} {below : List Frame} {meth : Method} {c : Code} {G : zG} (Z : zF p s m args c meth cX5_sailingAt 6 RX5 G) (hr : meth.sig.returnType = (some (.object "FerryCrews$Sailing"))) {out : Option Nat × zHp} {r11 : Int32 → Nat → Int32 → Int32 → zHp → Option (Option Nat × zHp)} (k11 : ∀ {a1 : Int32} {a2 : Nat} {a3 : Int32} {a4 : Int32} {h : zHp} {H : Heap} {locs : List Loc} {ls : Array Slot}, r11 a1 a2 a3 a4 h = some out → zE G s h H locs → lv_has ls 6 [(1, .int a1), (2, .ref a2), (3, .int a3), (4, .int a4)] → W p l e rm_X5_sailingAt s m args below meth c H locs 0 0 (MQ below (zQq G out.1 out.2) args s 0 0 (zA G)) (F0 m 11 ls [])) {a1 : Int32} {a2 : Nat} {a3 : Int32} {a4 : Int32} {h : zHp} {H : Heap} {locs : List Loc} {ls : Array Slot} (hf : f_X5_sailingAt_43 r11 a1 a2 a3 a4 h = some out) (E : zE G s h H locs) (hl : lv_has ls 6 [(1, .int a1), (2, .ref a2), (3, .int a3), (4, .int a4)]) : W p l e rm_X5_sailingAt s m args below meth c H locs 0 0 (MQ below (zQq G out.1 out.2) args s 0 0 (zA G)) (F0 m 43 ls []) := by
  unfold f_X5_sailingAt_43 at hf
  refine lv_iinc (v := (a4 + 1)) (lv' := [(4, .int (a4 + 1)), (1, .int a1), (2, .ref a2), (3, .int a3)]) Z.x Z.b dX5_sailingAt_43 hl (k := 3) rfl rfl (by decide) rfl (fun ls hl => ?_)
  refine lv_goto (tgt := 11) Z.x Z.b dX5_sailingAt_46 (by decide) ?_
  exact k11 hf E (lv_sub hl [1, 2, 3, 0] rfl)
set_option maxHeartbeats 4000000 in
set_option maxRecDepth 20000 in
theorem t_X5_sailingAt_11_body {p : Program} {l : Launch} {e : Env} {s : State} {m : MethodId} {args : Array Value} {below : List Frame} {meth : Method} {c : Code} {G : zG} (Z : zF p s m args c meth cX5_sailingAt 6 RX5 G) (hr : meth.sig.returnType = (some (.object "FerryCrews$Sailing"))) {out : Option Nat × zHp} {r11 : Int32 → Nat → Int32 → Int32 → zHp → Option (Option Nat × zHp)} (k11 : ∀ {a1 : Int32} {a2 : Nat} {a3 : Int32} {a4 : Int32} {h : zHp} {H : Heap} {locs : List Loc} {ls : Array Slot}, r11 a1 a2 a3 a4 h = some out → zE G s h H locs → lv_has ls 6 [(1, .int a1), (2, .ref a2), (3, .int a3), (4, .int a4)] → W p l e rm_X5_sailingAt s m args below meth c H locs 0 0 (MQ below (zQq G out.1 out.2) args s 0 0 (zA G)) (F0 m 11 ls [])) {a1 : Int32} {a2 : Nat} {a3 : Int32} {a4 : Int32} {h : zHp} {H : Heap} {locs : List Loc} {ls : Array Slot} (hf : f_X5_sailingAt_11_body r11 a1 a2 a3 a4 h = some out) (E : zE G s h H locs) (hl : lv_has ls 6 [(1, .int a1), (2, .ref a2), (3, .int a3), (4, .int a4)]) : W p l e rm_X5_sailingAt s m args below meth c H locs 0 0 (MQ below (zQq G out.1 out.2) args s 0 0 (zA G)) (F0 m 11 ls []) := by
  unfold f_X5_sailingAt_11_body at hf
  refine lv_iload Z.x Z.b dX5_sailingAt_11 (lv_at hl 3 rfl) ?_
  refine lv_iload_n Z.x Z.b dX5_sailingAt_13 rfl (lv_at hl 2 rfl) ?_
  refine lv_icmp_ge (tgt := 49) Z.x Z.b dX5_sailingAt_14 (by decide) (fun c => ?_) (fun c => ?_)
  · have hf := zit hf c
    refine lv_null Z.x Z.b dX5_sailingAt_49 ?_
    exact z_aret (v := none) Z E hr dX5_sailingAt_50 hf
  · have hf := zif_ hf c
    refine lv_aload_n Z.x Z.b dX5_sailingAt_17 rfl (lv_at hl 1 rfl) ?_
    refine lv_iload Z.x Z.b dX5_sailingAt_18 (lv_at hl 3 rfl) ?_
    refine z_aald (kd := 2) Z E rfl dX5_sailingAt_20 hf (fun v1 hf => ?_)
    refine lv_astore (lv' := [(5, .ref v1), (1, .int a1), (2, .ref a2), (3, .int a3), (4, .int a4)]) Z.x Z.b dX5_sailingAt_21 hl (by decide) rfl (fun ls hl => ?_)
    refine lv_aload Z.x Z.b dX5_sailingAt_23 (lv_at hl 0 rfl) ?_
    refine z_Vi (As := []) Z E hl.1 k_X5_69 v_X4_hasCome hf (fun r h' e => c_X4_hasCome l G h h' v1 r e) rfl rfl (Nat.le_of_ble_eq_true rfl) (zRm_of rfl (Nat.zero_le _) (Nat.zero_le _)) dX5_sailingAt_25 (fun v2 h3 H locs hf E => ?_)
    refine lv_if_eq (tgt := 43) Z.x Z.b dX5_sailingAt_28 (by decide) (fun c => ?_) (fun c => ?_)
    · have hf := zit hf c
      exact t_X5_sailingAt_43 Z hr k11 hf E (lv_sub hl [1, 2, 3, 4] rfl)
    · have hf := zif_ hf c
      refine lv_aload Z.x Z.b dX5_sailingAt_31 (lv_at hl 0 rfl) ?_
      refine z_getI Z E q_X5_73 dX5_sailingAt_33 hf (fun v4 hf => ?_)
      refine lv_iload_n Z.x Z.b dX5_sailingAt_36 rfl (lv_at hl 1 rfl) ?_
      refine lv_icmp_ne (tgt := 43) Z.x Z.b dX5_sailingAt_37 (by decide) (fun c => ?_) (fun c => ?_)
      · have hf := zif_ hf c
        exact t_X5_sailingAt_43 Z hr k11 hf E (lv_sub hl [1, 2, 3, 4] rfl)
      · have hf := zit hf c
        refine lv_aload Z.x Z.b dX5_sailingAt_40 (lv_at hl 0 rfl) ?_
        exact z_aret (v := (some v1)) Z E hr dX5_sailingAt_42 hf
theorem t_X5_sailingAt_11 {p : Program} {l : Launch} {e : Env} {s : State} {m : MethodId} {args : Array Value} {below : List Frame} {meth : Method} {c : Code} {G : zG} (Z : zF p s m args c meth cX5_sailingAt 6 RX5 G) (hr : meth.sig.returnType = (some (.object "FerryCrews$Sailing"))) {out : Option Nat × zHp} : ∀ (n : Nat), ∀ {a1 : Int32} {a2 : Nat} {a3 : Int32} {a4 : Int32} {h : zHp} {H : Heap} {locs : List Loc} {ls : Array Slot}, f_X5_sailingAt_11 n a1 a2 a3 a4 h = some out → zE G s h H locs → lv_has ls 6 [(1, .int a1), (2, .ref a2), (3, .int a3), (4, .int a4)] → W p l e rm_X5_sailingAt s m args below meth c H locs 0 0 (MQ below (zQq G out.1 out.2) args s 0 0 (zA G)) (F0 m 11 ls [])
  | 0 => fun hf => by cases hf
  | n + 1 => fun hf E hl => t_X5_sailingAt_11_body Z hr (r11 := f_X5_sailingAt_11 n) (t_X5_sailingAt_11 Z hr n) hf E hl
set_option maxHeartbeats 4000000 in
set_option maxRecDepth 20000 in
theorem t_X5_sailingAt {p : Program} {l : Launch} {e : Env} {s : State} {m : MethodId} {args : Array Value} {below : List Frame} {meth : Method} {c : Code} {G : zG} (Z : zF p s m args c meth cX5_sailingAt 6 RX5 G) (hr : meth.sig.returnType = (some (.object "FerryCrews$Sailing"))) {out : Option Nat × zHp} {a0 : Nat} {a1 : Int32} {h : zHp} {H : Heap} {locs : List Loc} {ls : Array Slot} (hf : f_X5_sailingAt a0 a1 h = some out) (E : zE G s h H locs) (hl : lv_has ls 6 [(0, .ref a0), (1, .int a1)]) : W p l e rm_X5_sailingAt s m args below meth c H locs 0 0 (MQ below (zQq G out.1 out.2) args s 0 0 (zA G)) (F0 m 0 ls []) := by
  unfold f_X5_sailingAt at hf
  refine lv_aload_n Z.x Z.b dX5_sailingAt_0 rfl (lv_at hl 0 rfl) ?_
  refine z_getR Z E q_X5_17 dX5_sailingAt_1 hf (fun v1 hf => ?_)
  refine lv_astore_n (lv' := [(2, .ref v1), (0, .ref a0), (1, .int a1)]) Z.x Z.b dX5_sailingAt_4 rfl hl (by decide) rfl (fun ls hl => ?_)
  refine lv_aload_n Z.x Z.b dX5_sailingAt_5 rfl (lv_at hl 0 rfl) ?_
  refine z_alenR (kd := 2) Z E rfl dX5_sailingAt_6 hf (fun v2 hf => ?_)
  refine lv_istore_n (lv' := [(3, .int v2), (2, .ref v1), (0, .ref a0), (1, .int a1)]) Z.x Z.b dX5_sailingAt_7 rfl hl (by decide) rfl (fun ls hl => ?_)
  refine lv_iconst (v := 0) Z.x Z.b dX5_sailingAt_8 (by decide) ?_
  refine lv_istore (lv' := [(4, .int 0), (3, .int v2), (2, .ref v1), (0, .ref a0), (1, .int a1)]) Z.x Z.b dX5_sailingAt_9 hl (by decide) rfl (fun ls hl => ?_)
  exact t_X5_sailingAt_11 Z hr zN hf E (lv_sub hl [4, 2, 1, 0] rfl)
set_option maxHeartbeats 4000000 in
set_option maxRecDepth 20000 in
theorem c_X5_sailingAt (l : Launch) (G : zG) (h : zHp) (h' : zHp) (a0 : Nat) (a1 : Int32) (r : Option Nat) (hf : f_X5_sailingAt a0 a1 h = some (r, h')) : zM0 l yX5_sailingAt cX5_sailingAt 6 (some (.object "FerryCrews$Sailing")) rm_X5_sailingAt G [.ref a0, .int a1] h (zQq G r h') := by
  refine Met.ofW (cc := cX5_sailingAt) (maxL := 6) (ret := (some (.object "FerryCrews$Sailing"))) (by decide) rfl ?_
  intro p e s m args below meth c s₁ B hml hv
  obtain ⟨rfl, hW⟩ := hv
  obtain ⟨Z, E, hr⟩ := zEnter (own := RX5) B hml rfl hW
  have hl := lv_entry ([.ref a0, .int a1]) (n := 6) (Nat.le_of_ble_eq_true rfl)
  rw [lg_entry_eq]
  generalize (lg_sl ([.ref a0, .int a1]) ++ List.replicate (6 - (lg_sl ([.ref a0, .int a1])).length) Slot.unset).toArray = ls at hl ⊢
  have hl : lv_has ls 6 [(0, .ref a0), (1, .int a1)] := hl
  exact t_X5_sailingAt (out := (r, h')) Z hr hf E hl
/-! FerryCrews$State.memberAt(I)LFerryCrews$Member; -/
theorem dX5_memberAt_0 : decode cX5_memberAt 0 = .ok (.iload_n 1, 1) := by decide +kernel
theorem dX5_memberAt_1 : decode cX5_memberAt 1 = .ok (.invokestatic 76, 3) := by decide +kernel
theorem dX5_memberAt_4 : decode cX5_memberAt 4 = .ok (.ifCond .eq 20, 3) := by decide +kernel
theorem dX5_memberAt_7 : decode cX5_memberAt 7 = .ok (.iload_n 1, 1) := by decide +kernel
theorem dX5_memberAt_8 : decode cX5_memberAt 8 = .ok (.aload_n 0, 1) := by decide +kernel
theorem dX5_memberAt_9 : decode cX5_memberAt 9 = .ok (.getfield 44, 3) := by decide +kernel
theorem dX5_memberAt_12 : decode cX5_memberAt 12 = .ok (.if_icmp .ge 12, 3) := by decide +kernel
theorem dX5_memberAt_15 : decode cX5_memberAt 15 = .ok (.aload_n 0, 1) := by decide +kernel
theorem dX5_memberAt_16 : decode cX5_memberAt 16 = .ok (.getfield 23, 3) := by decide +kernel
theorem dX5_memberAt_19 : decode cX5_memberAt 19 = .ok (.iload_n 1, 1) := by decide +kernel
theorem dX5_memberAt_20 : decode cX5_memberAt 20 = .ok (.aaload, 1) := by decide +kernel
theorem dX5_memberAt_21 : decode cX5_memberAt 21 = .ok (.goto 4, 3) := by decide +kernel
theorem dX5_memberAt_24 : decode cX5_memberAt 24 = .ok (.aconst_null, 1) := by decide +kernel
theorem dX5_memberAt_25 : decode cX5_memberAt 25 = .ok (.areturn, 1) := by decide +kernel
set_option maxRecDepth 20000 in
theorem k_X5_76 : zCalN RX5 76 yX7_isMemberNumber "FerryCrews" cX7_isMemberNumber 1 (some .boolean) 1 := ⟨List.mem_of_getElem? (i := 292) (by decide +kernel), wi_X7, wc_X7_isMemberNumber, by decide +kernel, by decide +kernel, by decide +kernel⟩
def rm_X5_memberAt : Room := { frames := 1, cells := 0, slots := 0, locals := 20 }
set_option maxHeartbeats 4000000 in
set_option maxRecDepth 20000 in
theorem t_X5_memberAt_24 {p : Program} {l : Launch} {e : Env} {s : State} {m : MethodId} {args : Array Value} {below : List Frame} {meth : Method} {c : Code} {G : zG} (Z : zF p s m args c meth cX5_memberAt 2 RX5 G) (hr : meth.sig.returnType = (some (.object "FerryCrews$Member"))) {out : Option Nat × zHp} {h : zHp} {H : Heap} {locs : List Loc} {ls : Array Slot} (hf : f_X5_memberAt_24 h = some out) (E : zE G s h H locs) (hl : lv_has ls 2 []) : W p l e rm_X5_memberAt s m args below meth c H locs 0 0 (MQ below (zQq G out.1 out.2) args s 0 0 (zA G)) (F0 m 24 ls []) := by
  unfold f_X5_memberAt_24 at hf
  refine lv_null Z.x Z.b dX5_memberAt_24 ?_
  exact z_aret (v := none) Z E hr dX5_memberAt_25 hf
set_option maxHeartbeats 4000000 in
set_option maxRecDepth 20000 in
theorem t_X5_memberAt {p : Program} {l : Launch} {e : Env} {s : State} {m : MethodId} {args : Array Value} {below : List Frame} {meth : Method} {c : Code} {G : zG} (Z : zF p s m args c meth cX5_memberAt 2 RX5 G) (hr : meth.sig.returnType = (some (.object "FerryCrews$Member"))) {out : Option Nat × zHp} {a0 : Nat} {a1 : Int32} {h : zHp} {H : Heap} {locs : List Loc} {ls : Array Slot} (hf : f_X5_memberAt a0 a1 h = some out) (E : zE G s h H locs) (hl : lv_has ls 2 [(0, .ref a0), (1, .int a1)]) : W p l e rm_X5_memberAt s m args below meth c H locs 0 0 (MQ below (zQq G out.1 out.2) args s 0 0 (zA G)) (F0 m 0 ls []) := by
  unfold f_X5_memberAt at hf
  refine lv_iload_n Z.x Z.b dX5_memberAt_0 rfl (lv_at hl 1 rfl) ?_
  refine z_SNi (As := [.int a1]) Z E hl.1 k_X5_76 wt_X7_isMemberNumber hf (fun r h' e => c_X7_isMemberNumber l G h h' a1 r e) rfl rfl (Nat.le_of_ble_eq_true rfl) (zRm_of rfl (Nat.zero_le _) (Nat.zero_le _)) dX5_memberAt_1 (fun v1 h2 H locs hf E => ?_)
  refine lv_if_eq (tgt := 24) Z.x Z.b dX5_memberAt_4 (by decide) (fun c => ?_) (fun c => ?_)
  · have hf := zit hf c
    exact t_X5_memberAt_24 Z hr hf E (lv_sub hl [] rfl)
  · have hf := zif_ hf c
    refine lv_iload_n Z.x Z.b dX5_memberAt_7 rfl (lv_at hl 1 rfl) ?_
    refine lv_aload_n Z.x Z.b dX5_memberAt_8 rfl (lv_at hl 0 rfl) ?_
    refine z_getI Z E q_X5_44 dX5_memberAt_9 hf (fun v3 hf => ?_)
    refine lv_icmp_ge (tgt := 24) Z.x Z.b dX5_memberAt_12 (by decide) (fun c => ?_) (fun c => ?_)
    · have hf := zit hf c
      exact t_X5_memberAt_24 Z hr hf E (lv_sub hl [] rfl)
    · have hf := zif_ hf c
      refine lv_aload_n Z.x Z.b dX5_memberAt_15 rfl (lv_at hl 0 rfl) ?_
      refine z_getR Z E q_X5_23 dX5_memberAt_16 hf (fun v4 hf => ?_)
      refine lv_iload_n Z.x Z.b dX5_memberAt_19 rfl (lv_at hl 1 rfl) ?_
      refine z_aald (kd := 3) Z E rfl dX5_memberAt_20 hf (fun v5 hf => ?_)
      refine lv_goto (tgt := 25) Z.x Z.b dX5_memberAt_21 (by decide) ?_
      exact z_aret (v := (some v5)) Z E hr dX5_memberAt_25 hf
set_option maxHeartbeats 4000000 in
set_option maxRecDepth 20000 in
theorem c_X5_memberAt (l : Launch) (G : zG) (h : zHp) (h' : zHp) (a0 : Nat) (a1 : Int32) (r : Option Nat) (hf : f_X5_memberAt a0 a1 h = some (r, h')) : zM0 l yX5_memberAt cX5_memberAt 2 (some (.object "FerryCrews$Member")) rm_X5_memberAt G [.ref a0, .int a1] h (zQq G r h') := by
  refine Met.ofW (cc := cX5_memberAt) (maxL := 2) (ret := (some (.object "FerryCrews$Member"))) (by decide) rfl ?_
  intro p e s m args below meth c s₁ B hml hv
  obtain ⟨rfl, hW⟩ := hv
  obtain ⟨Z, E, hr⟩ := zEnter (own := RX5) B hml rfl hW
  have hl := lv_entry ([.ref a0, .int a1]) (n := 2) (Nat.le_of_ble_eq_true rfl)
  rw [lg_entry_eq]
  generalize (lg_sl ([.ref a0, .int a1]) ++ List.replicate (2 - (lg_sl ([.ref a0, .int a1])).length) Slot.unset).toArray = ls at hl ⊢
  have hl : lv_has ls 2 [(0, .ref a0), (1, .int a1)] := hl
  exact t_X5_memberAt (out := (r, h')) Z hr hf E hl
/-! FerryCrews$State.ladderOf(I)LFerryCrews$Ladder; -/
theorem dX5_ladderOf_0 : decode cX5_ladderOf 0 = .ok (.iload_n 1, 1) := by decide +kernel
theorem dX5_ladderOf_1 : decode cX5_ladderOf 1 = .ok (.invokestatic 80, 3) := by decide +kernel
theorem dX5_ladderOf_4 : decode cX5_ladderOf 4 = .ok (.ifCond .eq 12, 3) := by decide +kernel
theorem dX5_ladderOf_7 : decode cX5_ladderOf 7 = .ok (.aload_n 0, 1) := by decide +kernel
theorem dX5_ladderOf_8 : decode cX5_ladderOf 8 = .ok (.getfield 29, 3) := by decide +kernel
theorem dX5_ladderOf_11 : decode cX5_ladderOf 11 = .ok (.iload_n 1, 1) := by decide +kernel
theorem dX5_ladderOf_12 : decode cX5_ladderOf 12 = .ok (.aaload, 1) := by decide +kernel
theorem dX5_ladderOf_13 : decode cX5_ladderOf 13 = .ok (.goto 4, 3) := by decide +kernel
theorem dX5_ladderOf_16 : decode cX5_ladderOf 16 = .ok (.aconst_null, 1) := by decide +kernel
theorem dX5_ladderOf_17 : decode cX5_ladderOf 17 = .ok (.areturn, 1) := by decide +kernel
set_option maxRecDepth 20000 in
theorem k_X5_80 : zCalN RX5 80 yX7_isRole "FerryCrews" cX7_isRole 1 (some .boolean) 1 := ⟨List.mem_of_getElem? (i := 277) (by decide +kernel), wi_X7, wc_X7_isRole, by decide +kernel, by decide +kernel, by decide +kernel⟩
def rm_X5_ladderOf : Room := { frames := 1, cells := 0, slots := 0, locals := 20 }
set_option maxHeartbeats 4000000 in
set_option maxRecDepth 20000 in
theorem t_X5_ladderOf {p : Program} {l : Launch} {e : Env} {s : State} {m : MethodId} {args : Array Value} {below : List Frame} {meth : Method} {c : Code} {G : zG} (Z : zF p s m args c meth cX5_ladderOf 2 RX5 G) (hr : meth.sig.returnType = (some (.object "FerryCrews$Ladder"))) {out : Option Nat × zHp} {a0 : Nat} {a1 : Int32} {h : zHp} {H : Heap} {locs : List Loc} {ls : Array Slot} (hf : f_X5_ladderOf a0 a1 h = some out) (E : zE G s h H locs) (hl : lv_has ls 2 [(0, .ref a0), (1, .int a1)]) : W p l e rm_X5_ladderOf s m args below meth c H locs 0 0 (MQ below (zQq G out.1 out.2) args s 0 0 (zA G)) (F0 m 0 ls []) := by
  unfold f_X5_ladderOf at hf
  refine lv_iload_n Z.x Z.b dX5_ladderOf_0 rfl (lv_at hl 1 rfl) ?_
  refine z_SNi (As := [.int a1]) Z E hl.1 k_X5_80 wt_X7_isRole hf (fun r h' e => c_X7_isRole l G h h' a1 r e) rfl rfl (Nat.le_of_ble_eq_true rfl) (zRm_of rfl (Nat.zero_le _) (Nat.zero_le _)) dX5_ladderOf_1 (fun v1 h2 H locs hf E => ?_)
  refine lv_if_eq (tgt := 16) Z.x Z.b dX5_ladderOf_4 (by decide) (fun c => ?_) (fun c => ?_)
  · have hf := zit hf c
    refine lv_null Z.x Z.b dX5_ladderOf_16 ?_
    exact z_aret (v := none) Z E hr dX5_ladderOf_17 hf
  · have hf := zif_ hf c
    refine lv_aload_n Z.x Z.b dX5_ladderOf_7 rfl (lv_at hl 0 rfl) ?_
    refine z_getR Z E q_X5_29 dX5_ladderOf_8 hf (fun v3 hf => ?_)
    refine lv_iload_n Z.x Z.b dX5_ladderOf_11 rfl (lv_at hl 1 rfl) ?_
    refine z_aald (kd := 4) Z E rfl dX5_ladderOf_12 hf (fun v4 hf => ?_)
    refine lv_goto (tgt := 17) Z.x Z.b dX5_ladderOf_13 (by decide) ?_
    exact z_aret (v := (some v4)) Z E hr dX5_ladderOf_17 hf
set_option maxHeartbeats 4000000 in
set_option maxRecDepth 20000 in
theorem c_X5_ladderOf (l : Launch) (G : zG) (h : zHp) (h' : zHp) (a0 : Nat) (a1 : Int32) (r : Option Nat) (hf : f_X5_ladderOf a0 a1 h = some (r, h')) : zM0 l yX5_ladderOf cX5_ladderOf 2 (some (.object "FerryCrews$Ladder")) rm_X5_ladderOf G [.ref a0, .int a1] h (zQq G r h') := by
  refine Met.ofW (cc := cX5_ladderOf) (maxL := 2) (ret := (some (.object "FerryCrews$Ladder"))) (by decide) rfl ?_
  intro p e s m args below meth c s₁ B hml hv
  obtain ⟨rfl, hW⟩ := hv
  obtain ⟨Z, E, hr⟩ := zEnter (own := RX5) B hml rfl hW
  have hl := lv_entry ([.ref a0, .int a1]) (n := 2) (Nat.le_of_ble_eq_true rfl)
  rw [lg_entry_eq]
  generalize (lg_sl ([.ref a0, .int a1]) ++ List.replicate (2 - (lg_sl ([.ref a0, .int a1])).length) Slot.unset).toArray = ls at hl ⊢
  have hl : lv_has ls 2 [(0, .ref a0), (1, .int a1)] := hl
  exact t_X5_ladderOf (out := (r, h')) Z hr hf E hl
/-! FerryCrews.isSet(I)Z -/
theorem dX7_isSet_0 : decode cX7_isSet 0 = .ok (.iload_n 0, 1) := by decide +kernel
theorem dX7_isSet_1 : decode cX7_isSet 1 = .ok (.iconst 1, 1) := by decide +kernel
theorem dX7_isSet_2 : decode cX7_isSet 2 = .ok (.sipush 3333, 3) := by decide +kernel
theorem dX7_isSet_5 : decode cX7_isSet 5 = .ok (.invokestatic 88, 3) := by decide +kernel
theorem dX7_isSet_8 : decode cX7_isSet 8 = .ok (.ifCond .ne 5, 3) := by decide +kernel
theorem dX7_isSet_11 : decode cX7_isSet 11 = .ok (.iconst 0, 1) := by decide +kernel
theorem dX7_isSet_12 : decode cX7_isSet 12 = .ok (.ireturn, 1) := by decide +kernel
theorem dX7_isSet_13 : decode cX7_isSet 13 = .ok (.iload_n 0, 1) := by decide +kernel
theorem dX7_isSet_14 : decode cX7_isSet 14 = .ok (.istore_n 1, 1) := by decide +kernel
theorem dX7_isSet_15 : decode cX7_isSet 15 = .ok (.iconst 0, 1) := by decide +kernel
theorem dX7_isSet_16 : decode cX7_isSet 16 = .ok (.istore_n 2, 1) := by decide +kernel
theorem dX7_isSet_17 : decode cX7_isSet 17 = .ok (.iload_n 2, 1) := by decide +kernel
theorem dX7_isSet_18 : decode cX7_isSet 18 = .ok (.iconst 4, 1) := by decide +kernel
theorem dX7_isSet_19 : decode cX7_isSet 19 = .ok (.if_icmp .ge 24, 3) := by decide +kernel
theorem dX7_isSet_22 : decode cX7_isSet 22 = .ok (.iload_n 1, 1) := by decide +kernel
theorem dX7_isSet_23 : decode cX7_isSet 23 = .ok (.bipush 10, 2) := by decide +kernel
theorem dX7_isSet_25 : decode cX7_isSet 25 = .ok (.irem, 1) := by decide +kernel
theorem dX7_isSet_26 : decode cX7_isSet 26 = .ok (.iconst 3, 1) := by decide +kernel
theorem dX7_isSet_27 : decode cX7_isSet 27 = .ok (.if_icmp .le 5, 3) := by decide +kernel
theorem dX7_isSet_30 : decode cX7_isSet 30 = .ok (.iconst 0, 1) := by decide +kernel
theorem dX7_isSet_31 : decode cX7_isSet 31 = .ok (.ireturn, 1) := by decide +kernel
theorem dX7_isSet_32 : decode cX7_isSet 32 = .ok (.iload_n 1, 1) := by decide +kernel
theorem dX7_isSet_33 : decode cX7_isSet 33 = .ok (.bipush 10, 2) := by decide +kernel
theorem dX7_isSet_35 : decode cX7_isSet 35 = .ok (.idiv, 1) := by decide +kernel
theorem dX7_isSet_36 : decode cX7_isSet 36 = .ok (.istore_n 1, 1) := by decide +kernel
theorem dX7_isSet_37 : decode cX7_isSet 37 = .ok (.iinc 2 1, 3) := by decide +kernel
theorem dX7_isSet_40 : decode cX7_isSet 40 = .ok (.goto (-23), 3) := by decide +kernel
theorem dX7_isSet_43 : decode cX7_isSet 43 = .ok (.iconst 1, 1) := by decide +kernel
theorem dX7_isSet_44 : decode cX7_isSet 44 = .ok (.ireturn, 1) := by decide +kernel
set_option maxRecDepth 20000 in
theorem wm_X7_88 : Cond.methodLink RX7 88 yX7_isWithin ∈ zB := List.mem_filter.mpr ⟨List.mem_of_getElem? (i := 295) (by decide +kernel), by decide +kernel⟩
theorem k_X7_88 : zCal RX7 88 yX7_isWithin cX7_isWithin 3 (some .boolean) 3 := ⟨wm_X7_88, wi_X7, wc_X7_isWithin, by decide +kernel, by decide +kernel, by decide +kernel⟩
def rm_X7_isSet : Room := { frames := 1, cells := 0, slots := 0, locals := 22 }
set_option maxHeartbeats 4000000 in
set_option maxRecDepth 20000 in
theorem t_X7_isSet_17_body {p : Program} {l : Launch} {e : Env} {s : State} {m : MethodId} {args : Array Value} {below : List Frame} {meth : Method} {c : Code} {G : zG} (Z : zF p s m args c meth cX7_isSet 3 RX7 G) (hr : meth.sig.returnType = (some .boolean)) {out : Int32 × zHp} {r17 : Int32 → Int32 → zHp → Option (Int32 × zHp)} (k17 : ∀ {a1 : Int32} {a2 : Int32} {h : zHp} {H : Heap} {locs : List Loc} {ls : Array Slot}, r17 a1 a2 h = some out → zE G s h H locs → lv_has ls 3 [(1, .int a1), (2, .int a2)] → W p l e rm_X7_isSet s m args below meth c H locs 0 0 (MQ below (zQi G out.1 out.2) args s 0 0 (zA G)) (F0 m 17 ls [])) {a1 : Int32} {a2 : Int32} {h : zHp} {H : Heap} {locs : List Loc} {ls : Array Slot} (hf : f_X7_isSet_17_body r17 a1 a2 h = some out) (E : zE G s h H locs) (hl : lv_has ls 3 [(1, .int a1), (2, .int a2)]) : W p l e rm_X7_isSet s m args below meth c H locs 0 0 (MQ below (zQi G out.1 out.2) args s 0 0 (zA G)) (F0 m 17 ls []) := by
  unfold f_X7_isSet_17_body at hf
  refine lv_iload_n Z.x Z.b dX7_isSet_17 rfl (lv_at hl 1 rfl) ?_
  refine lv_iconst (v := 4) Z.x Z.b dX7_isSet_18 (by decide) ?_
  refine lv_icmp_ge (tgt := 43) Z.x Z.b dX7_isSet_19 (by decide) (fun c => ?_) (fun c => ?_)
  · have hf := zit hf c
    refine lv_iconst (v := 1) Z.x Z.b dX7_isSet_43 (by decide) ?_
    exact z_zret Z E hr dX7_isSet_44 hf
  · have hf := zif_ hf c
    refine lv_iload_n Z.x Z.b dX7_isSet_22 rfl (lv_at hl 0 rfl) ?_
    refine lv_bipush (v := 10) Z.x Z.b dX7_isSet_23 (by decide) ?_
    refine z_irem Z dX7_isSet_25 hf (fun v1 hf => ?_)
    refine lv_iconst (v := 3) Z.x Z.b dX7_isSet_26 (by decide) ?_
    refine lv_icmp_le (tgt := 32) Z.x Z.b dX7_isSet_27 (by decide) (fun c => ?_) (fun c => ?_)
    · have hf := zit hf c
      refine lv_iload_n Z.x Z.b dX7_isSet_32 rfl (lv_at hl 0 rfl) ?_
      refine lv_bipush (v := 10) Z.x Z.b dX7_isSet_33 (by decide) ?_
      refine z_idiv Z dX7_isSet_35 hf (fun v2 hf => ?_)
      refine lv_istore_n (lv' := [(1, .int v2), (2, .int a2)]) Z.x Z.b dX7_isSet_36 rfl hl (by decide) rfl (fun ls hl => ?_)
      refine lv_iinc (v := (a2 + 1)) (lv' := [(2, .int (a2 + 1)), (1, .int v2)]) Z.x Z.b dX7_isSet_37 hl (k := 1) rfl rfl (by decide) rfl (fun ls hl => ?_)
      refine lv_goto (tgt := 17) Z.x Z.b dX7_isSet_40 (by decide) ?_
      exact k17 hf E (lv_sub hl [1, 0] rfl)
    · have hf := zif_ hf c
      refine lv_iconst (v := 0) Z.x Z.b dX7_isSet_30 (by decide) ?_
      exact z_zret Z E hr dX7_isSet_31 hf
theorem t_X7_isSet_17 {p : Program} {l : Launch} {e : Env} {s : State} {m : MethodId} {args : Array Value} {below : List Frame} {meth : Method} {c : Code} {G : zG} (Z : zF p s m args c meth cX7_isSet 3 RX7 G) (hr : meth.sig.returnType = (some .boolean)) {out : Int32 × zHp} : ∀ (n : Nat), ∀ {a1 : Int32} {a2 : Int32} {h : zHp} {H : Heap} {locs : List Loc} {ls : Array Slot}, f_X7_isSet_17 n a1 a2 h = some out → zE G s h H locs → lv_has ls 3 [(1, .int a1), (2, .int a2)] → W p l e rm_X7_isSet s m args below meth c H locs 0 0 (MQ below (zQi G out.1 out.2) args s 0 0 (zA G)) (F0 m 17 ls [])
  | 0 => fun hf => by cases hf
  | n + 1 => fun hf E hl => t_X7_isSet_17_body Z hr (r17 := f_X7_isSet_17 n) (t_X7_isSet_17 Z hr n) hf E hl
set_option maxHeartbeats 4000000 in
set_option maxRecDepth 20000 in
theorem t_X7_isSet {p : Program} {l : Launch} {e : Env} {s : State} {m : MethodId} {args : Array Value} {below : List Frame} {meth : Method} {c : Code} {G : zG} (Z : zF p s m args c meth cX7_isSet 3 RX7 G) (hr : meth.sig.returnType = (some .boolean)) {out : Int32 × zHp} {a0 : Int32} {h : zHp} {H : Heap} {locs : List Loc} {ls : Array Slot} (hf : f_X7_isSet a0 h = some out) (E : zE G s h H locs) (hl : lv_has ls 3 [(0, .int a0)]) : W p l e rm_X7_isSet s m args below meth c H locs 0 0 (MQ below (zQi G out.1 out.2) args s 0 0 (zA G)) (F0 m 0 ls []) := by
  unfold f_X7_isSet at hf
  refine lv_iload_n Z.x Z.b dX7_isSet_0 rfl (lv_at hl 0 rfl) ?_
  refine lv_iconst (v := 1) Z.x Z.b dX7_isSet_1 (by decide) ?_
  refine lv_sipush (v := 3333) Z.x Z.b dX7_isSet_2 (by decide) ?_
  refine z_Si (As := [.int a0, .int 1, .int 3333]) Z E hl.1 k_X7_88 wt_X7_isWithin hf (fun r h' e => c_X7_isWithin l G h h' a0 1 3333 r e) rfl rfl (Nat.le_of_ble_eq_true rfl) (zRm_of rfl (Nat.zero_le _) (Nat.zero_le _)) dX7_isSet_5 (fun v1 h2 H locs hf E => ?_)
  refine lv_if_ne (tgt := 13) Z.x Z.b dX7_isSet_8 (by decide) (fun c => ?_) (fun c => ?_)
  · have hf := zif_ hf c
    refine lv_iload_n Z.x Z.b dX7_isSet_13 rfl (lv_at hl 0 rfl) ?_
    refine lv_istore_n (lv' := [(1, .int a0), (0, .int a0)]) Z.x Z.b dX7_isSet_14 rfl hl (by decide) rfl (fun ls hl => ?_)
    refine lv_iconst (v := 0) Z.x Z.b dX7_isSet_15 (by decide) ?_
    refine lv_istore_n (lv' := [(2, .int 0), (1, .int a0), (0, .int a0)]) Z.x Z.b dX7_isSet_16 rfl hl (by decide) rfl (fun ls hl => ?_)
    exact t_X7_isSet_17 Z hr zN hf E (lv_sub hl [1, 0] rfl)
  · have hf := zit hf c
    refine lv_iconst (v := 0) Z.x Z.b dX7_isSet_11 (by decide) ?_
    exact z_zret Z E hr dX7_isSet_12 hf
set_option maxHeartbeats 4000000 in
set_option maxRecDepth 20000 in
theorem c_X7_isSet (l : Launch) (G : zG) (h : zHp) (h' : zHp) (a0 : Int32) (r : Int32) (hf : f_X7_isSet a0 h = some (r, h')) : zM0 l yX7_isSet cX7_isSet 3 (some .boolean) rm_X7_isSet G [.int a0] h (zQi G r h') := by
  refine Met.ofW (cc := cX7_isSet) (maxL := 3) (ret := (some .boolean)) (by decide) rfl ?_
  intro p e s m args below meth c s₁ B hml hv
  obtain ⟨rfl, hW⟩ := hv
  obtain ⟨Z, E, hr⟩ := zEnter (own := RX7) B hml rfl hW
  have hl := lv_entry ([.int a0]) (n := 3) (Nat.le_of_ble_eq_true rfl)
  rw [lg_entry_eq]
  generalize (lg_sl ([.int a0]) ++ List.replicate (3 - (lg_sl ([.int a0])).length) Slot.unset).toArray = ls at hl ⊢
  have hl : lv_has ls 3 [(0, .int a0)] := hl
  exact t_X7_isSet (out := (r, h')) Z hr hf E hl
/-! FerryCrews$State.refusalOf(IIII)I -/
theorem dX5_refusalOf_0 : decode cX5_refusalOf 0 = .ok (.iload_n 1, 1) := by decide +kernel
theorem dX5_refusalOf_1 : decode cX5_refusalOf 1 = .ok (.iconst 0, 1) := by decide +kernel
theorem dX5_refusalOf_2 : decode cX5_refusalOf 2 = .ok (.iconst 5, 1) := by decide +kernel
theorem dX5_refusalOf_3 : decode cX5_refusalOf 3 = .ok (.invokestatic 83, 3) := by decide +kernel
theorem dX5_refusalOf_6 : decode cX5_refusalOf 6 = .ok (.ifCond .ne 5, 3) := by decide +kernel
theorem dX5_refusalOf_9 : decode cX5_refusalOf 9 = .ok (.iconst (-1), 1) := by decide +kernel
theorem dX5_refusalOf_10 : decode cX5_refusalOf 10 = .ok (.ireturn, 1) := by decide +kernel
theorem dX5_refusalOf_11 : decode cX5_refusalOf 11 = .ok (.iload_n 2, 1) := by decide +kernel
theorem dX5_refusalOf_12 : decode cX5_refusalOf 12 = .ok (.aload_n 0, 1) := by decide +kernel
theorem dX5_refusalOf_13 : decode cX5_refusalOf 13 = .ok (.getfield 37, 3) := by decide +kernel
theorem dX5_refusalOf_16 : decode cX5_refusalOf 16 = .ok (.sipush 900, 3) := by decide +kernel
theorem dX5_refusalOf_19 : decode cX5_refusalOf 19 = .ok (.invokestatic 83, 3) := by decide +kernel
theorem dX5_refusalOf_22 : decode cX5_refusalOf 22 = .ok (.ifCond .eq 21, 3) := by decide +kernel
theorem dX5_refusalOf_25 : decode cX5_refusalOf 25 = .ok (.iload_n 3, 1) := by decide +kernel
theorem dX5_refusalOf_26 : decode cX5_refusalOf 26 = .ok (.iconst 1, 1) := by decide +kernel
theorem dX5_refusalOf_27 : decode cX5_refusalOf 27 = .ok (.bipush 12, 2) := by decide +kernel
theorem dX5_refusalOf_29 : decode cX5_refusalOf 29 = .ok (.invokestatic 83, 3) := by decide +kernel
theorem dX5_refusalOf_32 : decode cX5_refusalOf 32 = .ok (.ifCond .eq 11, 3) := by decide +kernel
theorem dX5_refusalOf_35 : decode cX5_refusalOf 35 = .ok (.iload 4, 2) := by decide +kernel
theorem dX5_refusalOf_37 : decode cX5_refusalOf 37 = .ok (.invokestatic 87, 3) := by decide +kernel
theorem dX5_refusalOf_40 : decode cX5_refusalOf 40 = .ok (.ifCond .ne 6, 3) := by decide +kernel
theorem dX5_refusalOf_43 : decode cX5_refusalOf 43 = .ok (.bipush (-2), 2) := by decide +kernel
theorem dX5_refusalOf_45 : decode cX5_refusalOf 45 = .ok (.ireturn, 1) := by decide +kernel
theorem dX5_refusalOf_46 : decode cX5_refusalOf 46 = .ok (.aload_n 0, 1) := by decide +kernel
theorem dX5_refusalOf_47 : decode cX5_refusalOf 47 = .ok (.getfield 17, 3) := by decide +kernel
theorem dX5_refusalOf_50 : decode cX5_refusalOf 50 = .ok (.astore 5, 2) := by decide +kernel
theorem dX5_refusalOf_52 : decode cX5_refusalOf 52 = .ok (.aload 5, 2) := by decide +kernel
theorem dX5_refusalOf_54 : decode cX5_refusalOf 54 = .ok (.arraylength, 1) := by decide +kernel
theorem dX5_refusalOf_55 : decode cX5_refusalOf 55 = .ok (.istore 6, 2) := by decide +kernel
theorem dX5_refusalOf_57 : decode cX5_refusalOf 57 = .ok (.iconst 0, 1) := by decide +kernel
theorem dX5_refusalOf_58 : decode cX5_refusalOf 58 = .ok (.istore 7, 2) := by decide +kernel
theorem dX5_refusalOf_60 : decode cX5_refusalOf 60 = .ok (.iload 7, 2) := by decide +kernel
theorem dX5_refusalOf_62 : decode cX5_refusalOf 62 = .ok (.iload 6, 2) := by decide +kernel
theorem dX5_refusalOf_64 : decode cX5_refusalOf 64 = .ok (.if_icmp .ge 32, 3) := by decide +kernel
theorem dX5_refusalOf_67 : decode cX5_refusalOf 67 = .ok (.aload 5, 2) := by decide +kernel
theorem dX5_refusalOf_69 : decode cX5_refusalOf 69 = .ok (.iload 7, 2) := by decide +kernel
theorem dX5_refusalOf_71 : decode cX5_refusalOf 71 = .ok (.aaload, 1) := by decide +kernel
theorem dX5_refusalOf_72 : decode cX5_refusalOf 72 = .ok (.astore 8, 2) := by decide +kernel
theorem dX5_refusalOf_74 : decode cX5_refusalOf 74 = .ok (.aload 8, 2) := by decide +kernel
theorem dX5_refusalOf_76 : decode cX5_refusalOf 76 = .ok (.iload_n 1, 1) := by decide +kernel
theorem dX5_refusalOf_77 : decode cX5_refusalOf 77 = .ok (.iload_n 2, 1) := by decide +kernel
theorem dX5_refusalOf_78 : decode cX5_refusalOf 78 = .ok (.iload_n 2, 1) := by decide +kernel
theorem dX5_refusalOf_79 : decode cX5_refusalOf 79 = .ok (.iload_n 3, 1) := by decide +kernel
theorem dX5_refusalOf_80 : decode cX5_refusalOf 80 = .ok (.iadd, 1) := by decide +kernel
theorem dX5_refusalOf_81 : decode cX5_refusalOf 81 = .ok (.invokevirtual 90, 3) := by decide +kernel
theorem dX5_refusalOf_84 : decode cX5_refusalOf 84 = .ok (.ifCond .eq 6, 3) := by decide +kernel
theorem dX5_refusalOf_87 : decode cX5_refusalOf 87 = .ok (.bipush (-4), 2) := by decide +kernel
theorem dX5_refusalOf_89 : decode cX5_refusalOf 89 = .ok (.ireturn, 1) := by decide +kernel
theorem dX5_refusalOf_90 : decode cX5_refusalOf 90 = .ok (.iinc 7 1, 3) := by decide +kernel
theorem dX5_refusalOf_93 : decode cX5_refusalOf 93 = .ok (.goto (-33), 3) := by decide +kernel
theorem dX5_refusalOf_96 : decode cX5_refusalOf 96 = .ok (.aload_n 0, 1) := by decide +kernel
theorem dX5_refusalOf_97 : decode cX5_refusalOf 97 = .ok (.getfield 41, 3) := by decide +kernel
theorem dX5_refusalOf_100 : decode cX5_refusalOf 100 = .ok (.bipush 48, 2) := by decide +kernel
theorem dX5_refusalOf_102 : decode cX5_refusalOf 102 = .ok (.if_icmp .lt 8, 3) := by decide +kernel
theorem dX5_refusalOf_105 : decode cX5_refusalOf 105 = .ok (.bipush (-3), 2) := by decide +kernel
theorem dX5_refusalOf_107 : decode cX5_refusalOf 107 = .ok (.goto 4, 3) := by decide +kernel
theorem dX5_refusalOf_110 : decode cX5_refusalOf 110 = .ok (.iconst 0, 1) := by decide +kernel
theorem dX5_refusalOf_111 : decode cX5_refusalOf 111 = .ok (.ireturn, 1) := by decide +kernel
set_option maxRecDepth 20000 in
theorem k_X5_83 : zCalN RX5 83 yX7_isWithin "FerryCrews" cX7_isWithin 3 (some .boolean) 3 := ⟨List.mem_of_getElem? (i := 511) (by decide +kernel), wi_X7, wc_X7_isWithin, by decide +kernel, by decide +kernel, by decide +kernel⟩
set_option maxRecDepth 20000 in
theorem wc_X7_isSet : Cond.code yX7_isSet cX7_isSet 3 (some .boolean) ∈ zB := List.mem_filter.mpr ⟨List.mem_of_getElem? (i := 514) (by decide +kernel), by decide +kernel⟩
set_option maxRecDepth 20000 in
theorem k_X5_87 : zCalN RX5 87 yX7_isSet "FerryCrews" cX7_isSet 3 (some .boolean) 1 := ⟨List.mem_of_getElem? (i := 512) (by decide +kernel), wi_X7, wc_X7_isSet, by decide +kernel, by decide +kernel, by decide +kernel⟩
set_option maxRecDepth 20000 in
theorem wt_X7_isSet : Cond.static yX7_isSet ∈ zB := List.mem_filter.mpr ⟨List.mem_of_getElem? (i := 513) (by decide +kernel), by decide +kernel⟩
set_option maxRecDepth 20000 in
theorem wc_X4_occupies : Cond.code yX4_occupies cX4_occupies 5 (some .boolean) ∈ zB := List.mem_filter.mpr ⟨List.mem_of_getElem? (i := 518) (by decide +kernel), by decide +kernel⟩
set_option maxRecDepth 20000 in
theorem wm_X5_90 : Cond.methodLink RX5 90 yX4_occupies ∈ zB := List.mem_filter.mpr ⟨List.mem_of_getElem? (i := 515) (by decide +kernel), by decide +kernel⟩
theorem k_X5_90 : zCal RX5 90 yX4_occupies cX4_occupies 5 (some .boolean) 3 := ⟨wm_X5_90, wi_X4, wc_X4_occupies, by decide +kernel, by decide +kernel, by decide +kernel⟩
set_option maxRecDepth 20000 in
theorem wn_X4_occupies : Cond.instanceMethod yX4_occupies ∈ zB := List.mem_filter.mpr ⟨List.mem_of_getElem? (i := 516) (by decide +kernel), by decide +kernel⟩
set_option maxRecDepth 20000 in
theorem ws_X4_occupies : Cond.selects RX4 yX4_occupies yX4_occupies ∈ zB := List.mem_filter.mpr ⟨List.mem_of_getElem? (i := 517) (by decide +kernel), by decide +kernel⟩
theorem v_X4_occupies : zVir yX4_occupies 4 := ⟨wn_X4_occupies, ws_X4_occupies, TX4, 9, rfl⟩
def rm_X5_refusalOf : Room := { frames := 2, cells := 0, slots := 0, locals := 44 }
set_option maxHeartbeats 4000000 in
set_option maxRecDepth 20000 in
theorem t_X5_refusalOf_60_body {p : Program} {l : Launch} {e : Env} {s : State} {m : MethodId} {args : Array Value} {below : List Frame} {meth : Method} {c : Code} {G : zG} (Z : zF p s m args c meth cX5_refusalOf 9 RX5 G) (hr : meth.sig.returnType = (some .int)) {out : Int32 × zHp} {r60 : Nat → Int32 → Int32 → Int32 → Nat → Int32 → Int32 → zHp → Option (Int32 × zHp)} (k60 : ∀ {a0 : Nat} {a1 : Int32} {a2 : Int32} {a3 : Int32} {a5 : Nat} {a6 : Int32} {a7 : Int32} {h : zHp} {H : Heap} {locs : List Loc} {ls : Array Slot}, r60 a0 a1 a2 a3 a5 a6 a7 h = some out → zE G s h H locs → lv_has ls 9 [(0, .ref a0), (1, .int a1), (2, .int a2), (3, .int a3), (5, .ref a5), (6, .int a6), (7, .int a7)] → W p l e rm_X5_refusalOf s m args below meth c H locs 0 0 (MQ below (zQi G out.1 out.2) args s 0 0 (zA G)) (F0 m 60 ls [])) {a0 : Nat} {a1 : Int32} {a2 : Int32} {a3 : Int32} {a5 : Nat} {a6 : Int32} {a7 : Int32} {h : zHp} {H : Heap} {locs : List Loc} {ls : Array Slot} (hf : f_X5_refusalOf_60_body r60 a0 a1 a2 a3 a5 a6 a7 h = some out) (E : zE G s h H locs) (hl : lv_has ls 9 [(0, .ref a0), (1, .int a1), (2, .int a2), (3, .int a3), (5, .ref a5), (6, .int a6), (7, .int a7)]) : W p l e rm_X5_refusalOf s m args below meth c H locs 0 0 (MQ below (zQi G out.1 out.2) args s 0 0 (zA G)) (F0 m 60 ls []) := by
  unfold f_X5_refusalOf_60_body at hf
  refine lv_iload Z.x Z.b dX5_refusalOf_60 (lv_at hl 6 rfl) ?_
  refine lv_iload Z.x Z.b dX5_refusalOf_62 (lv_at hl 5 rfl) ?_
  refine lv_icmp_ge (tgt := 96) Z.x Z.b dX5_refusalOf_64 (by decide) (fun c => ?_) (fun c => ?_)
  · have hf := zit hf c
    refine lv_aload_n Z.x Z.b dX5_refusalOf_96 rfl (lv_at hl 0 rfl) ?_
    refine z_getI Z E q_X5_41 dX5_refusalOf_97 hf (fun v1 hf => ?_)
    refine lv_bipush (v := 48) Z.x Z.b dX5_refusalOf_100 (by decide) ?_
    refine lv_icmp_lt (tgt := 110) Z.x Z.b dX5_refusalOf_102 (by decide) (fun c => ?_) (fun c => ?_)
    · have hf := zit hf c
      refine lv_iconst (v := 0) Z.x Z.b dX5_refusalOf_110 (by decide) ?_
      exact z_iret Z E hr dX5_refusalOf_111 hf
    · have hf := zif_ hf c
      refine lv_bipush (v := (-3)) Z.x Z.b dX5_refusalOf_105 (by decide) ?_
      refine lv_goto (tgt := 111) Z.x Z.b dX5_refusalOf_107 (by decide) ?_
      exact z_iret Z E hr dX5_refusalOf_111 hf
  · have hf := zif_ hf c
    refine lv_aload Z.x Z.b dX5_refusalOf_67 (lv_at hl 4 rfl) ?_
    refine lv_iload Z.x Z.b dX5_refusalOf_69 (lv_at hl 6 rfl) ?_
    refine z_aald (kd := 2) Z E rfl dX5_refusalOf_71 hf (fun v2 hf => ?_)
    refine lv_astore (lv' := [(8, .ref v2), (0, .ref a0), (1, .int a1), (2, .int a2), (3, .int a3), (5, .ref a5), (6, .int a6), (7, .int a7)]) Z.x Z.b dX5_refusalOf_72 hl (by decide) rfl (fun ls hl => ?_)
    refine lv_aload Z.x Z.b dX5_refusalOf_74 (lv_at hl 0 rfl) ?_
    refine lv_iload_n Z.x Z.b dX5_refusalOf_76 rfl (lv_at hl 2 rfl) ?_
    refine lv_iload_n Z.x Z.b dX5_refusalOf_77 rfl (lv_at hl 3 rfl) ?_
    refine lv_iload_n Z.x Z.b dX5_refusalOf_78 rfl (lv_at hl 3 rfl) ?_
    refine lv_iload_n Z.x Z.b dX5_refusalOf_79 rfl (lv_at hl 4 rfl) ?_
    refine lv_iadd Z.x Z.b dX5_refusalOf_80 ?_
    refine z_Vi (As := [.int a1, .int a2, .int (a2 + a3)]) Z E hl.1 k_X5_90 v_X4_occupies hf (fun r h' e => c_X4_occupies l G h h' v2 a1 a2 (a2 + a3) r e) rfl rfl (Nat.le_of_ble_eq_true rfl) (zRm_of rfl (Nat.zero_le _) (Nat.zero_le _)) dX5_refusalOf_81 (fun v3 h4 H locs hf E => ?_)
    refine lv_if_eq (tgt := 90) Z.x Z.b dX5_refusalOf_84 (by decide) (fun c => ?_) (fun c => ?_)
    · have hf := zit hf c
      refine lv_iinc (v := (a7 + 1)) (lv' := [(7, .int (a7 + 1)), (8, .ref v2), (0, .ref a0), (1, .int a1), (2, .int a2), (3, .int a3), (5, .ref a5), (6, .int a6)]) Z.x Z.b dX5_refusalOf_90 hl (k := 7) rfl rfl (by decide) rfl (fun ls hl => ?_)
      refine lv_goto (tgt := 60) Z.x Z.b dX5_refusalOf_93 (by decide) ?_
      exact k60 hf E (lv_sub hl [2, 3, 4, 5, 6, 7, 0] rfl)
    · have hf := zif_ hf c
      refine lv_bipush (v := (-4)) Z.x Z.b dX5_refusalOf_87 (by decide) ?_
      exact z_iret Z E hr dX5_refusalOf_89 hf
theorem t_X5_refusalOf_60 {p : Program} {l : Launch} {e : Env} {s : State} {m : MethodId} {args : Array Value} {below : List Frame} {meth : Method} {c : Code} {G : zG} (Z : zF p s m args c meth cX5_refusalOf 9 RX5 G) (hr : meth.sig.returnType = (some .int)) {out : Int32 × zHp} : ∀ (n : Nat), ∀ {a0 : Nat} {a1 : Int32} {a2 : Int32} {a3 : Int32} {a5 : Nat} {a6 : Int32} {a7 : Int32} {h : zHp} {H : Heap} {locs : List Loc} {ls : Array Slot}, f_X5_refusalOf_60 n a0 a1 a2 a3 a5 a6 a7 h = some out → zE G s h H locs → lv_has ls 9 [(0, .ref a0), (1, .int a1), (2, .int a2), (3, .int a3), (5, .ref a5), (6, .int a6), (7, .int a7)] → W p l e rm_X5_refusalOf s m args below meth c H locs 0 0 (MQ below (zQi G out.1 out.2) args s 0 0 (zA G)) (F0 m 60 ls [])
  | 0 => fun hf => by cases hf
  | n + 1 => fun hf E hl => t_X5_refusalOf_60_body Z hr (r60 := f_X5_refusalOf_60 n) (t_X5_refusalOf_60 Z hr n) hf E hl
set_option maxHeartbeats 4000000 in
set_option maxRecDepth 20000 in
theorem t_X5_refusalOf {p : Program} {l : Launch} {e : Env} {s : State} {m : MethodId} {args : Array Value} {below : List Frame} {meth : Method} {c : Code} {G : zG} (Z : zF p s m args c meth cX5_refusalOf 9 RX5 G) (hr : meth.sig.returnType = (some .int)) {out : Int32 × zHp} {a0 : Nat} {a1 : Int32} {a2 : Int32} {a3 : Int32} {a4 : Int32} {h : zHp} {H : Heap} {locs : List Loc} {ls : Array Slot} (hf : f_X5_refusalOf a0 a1 a2 a3 a4 h = some out) (E : zE G s h H locs) (hl : lv_has ls 9 [(0, .ref a0), (1, .int a1), (2, .int a2), (3, .int a3), (4, .int a4)]) : W p l e rm_X5_refusalOf s m args below meth c H locs 0 0 (MQ below (zQi G out.1 out.2) args s 0 0 (zA G)) (F0 m 0 ls []) := by
  unfold f_X5_refusalOf at hf
  refine lv_iload_n Z.x Z.b dX5_refusalOf_0 rfl (lv_at hl 1 rfl) ?_
  refine lv_iconst (v := 0) Z.x Z.b dX5_refusalOf_1 (by decide) ?_
  refine lv_iconst (v := 5) Z.x Z.b dX5_refusalOf_2 (by decide) ?_
  refine z_SNi (As := [.int a1, .int 0, .int 5]) Z E hl.1 k_X5_83 wt_X7_isWithin hf (fun r h' e => c_X7_isWithin l G h h' a1 0 5 r e) rfl rfl (Nat.le_of_ble_eq_true rfl) (zRm_of rfl (Nat.zero_le _) (Nat.zero_le _)) dX5_refusalOf_3 (fun v1 h2 H locs hf E => ?_)
  refine lv_if_ne (tgt := 11) Z.x Z.b dX5_refusalOf_6 (by decide) (fun c => ?_) (fun c => ?_)
  · have hf := zif_ hf c
    refine lv_iload_n Z.x Z.b dX5_refusalOf_11 rfl (lv_at hl 2 rfl) ?_
    refine lv_aload_n Z.x Z.b dX5_refusalOf_12 rfl (lv_at hl 0 rfl) ?_
    refine z_getI Z E q_X5_37 dX5_refusalOf_13 hf (fun v3 hf => ?_)
    refine lv_sipush (v := 900) Z.x Z.b dX5_refusalOf_16 (by decide) ?_
    refine z_SNi (As := [.int a2, .int v3, .int 900]) Z E hl.1 k_X5_83 wt_X7_isWithin hf (fun r h' e => c_X7_isWithin l G h2 h' a2 v3 900 r e) rfl rfl (Nat.le_of_ble_eq_true rfl) (zRm_of rfl (Nat.zero_le _) (Nat.zero_le _)) dX5_refusalOf_19 (fun v4 h5 H locs hf E => ?_)
    refine lv_if_eq (tgt := 43) Z.x Z.b dX5_refusalOf_22 (by decide) (fun c => ?_) (fun c => ?_)
    · have hf := zit hf c
      refine lv_bipush (v := (-2)) Z.x Z.b dX5_refusalOf_43 (by decide) ?_
      exact z_iret Z E hr dX5_refusalOf_45 hf
    · have hf := zif_ hf c
      refine lv_iload_n Z.x Z.b dX5_refusalOf_25 rfl (lv_at hl 3 rfl) ?_
      refine lv_iconst (v := 1) Z.x Z.b dX5_refusalOf_26 (by decide) ?_
      refine lv_bipush (v := 12) Z.x Z.b dX5_refusalOf_27 (by decide) ?_
      refine z_SNi (As := [.int a3, .int 1, .int 12]) Z E hl.1 k_X5_83 wt_X7_isWithin hf (fun r h' e => c_X7_isWithin l G h5 h' a3 1 12 r e) rfl rfl (Nat.le_of_ble_eq_true rfl) (zRm_of rfl (Nat.zero_le _) (Nat.zero_le _)) dX5_refusalOf_29 (fun v6 h7 H locs hf E => ?_)
      refine lv_if_eq (tgt := 43) Z.x Z.b dX5_refusalOf_32 (by decide) (fun c => ?_) (fun c => ?_)
      · have hf := zit hf c
        refine lv_bipush (v := (-2)) Z.x Z.b dX5_refusalOf_43 (by decide) ?_
        exact z_iret Z E hr dX5_refusalOf_45 hf
      · have hf := zif_ hf c
        refine lv_iload Z.x Z.b dX5_refusalOf_35 (lv_at hl 4 rfl) ?_
        refine z_SNi (As := [.int a4]) Z E hl.1 k_X5_87 wt_X7_isSet hf (fun r h' e => c_X7_isSet l G h7 h' a4 r e) rfl rfl (Nat.le_of_ble_eq_true rfl) (zRm_of rfl (Nat.zero_le _) (Nat.zero_le _)) dX5_refusalOf_37 (fun v8 h9 H locs hf E => ?_)
        refine lv_if_ne (tgt := 46) Z.x Z.b dX5_refusalOf_40 (by decide) (fun c => ?_) (fun c => ?_)
        · have hf := zif_ hf c
          refine lv_aload_n Z.x Z.b dX5_refusalOf_46 rfl (lv_at hl 0 rfl) ?_
          refine z_getR Z E q_X5_17 dX5_refusalOf_47 hf (fun v10 hf => ?_)
          refine lv_astore (lv' := [(5, .ref v10), (0, .ref a0), (1, .int a1), (2, .int a2), (3, .int a3), (4, .int a4)]) Z.x Z.b dX5_refusalOf_50 hl (by decide) rfl (fun ls hl => ?_)
          refine lv_aload Z.x Z.b dX5_refusalOf_52 (lv_at hl 0 rfl) ?_
          refine z_alenR (kd := 2) Z E rfl dX5_refusalOf_54 hf (fun v11 hf => ?_)
          refine lv_istore (lv' := [(6, .int v11), (5, .ref v10), (0, .ref a0), (1, .int a1), (2, .int a2), (3, .int a3), (4, .int a4)]) Z.x Z.b dX5_refusalOf_55 hl (by decide) rfl (fun ls hl => ?_)
          refine lv_iconst (v := 0) Z.x Z.b dX5_refusalOf_57 (by decide) ?_
          refine lv_istore (lv' := [(7, .int 0), (6, .int v11), (5, .ref v10), (0, .ref a0), (1, .int a1), (2, .int a2), (3, .int a3), (4, .int a4)]) Z.x Z.b dX5_refusalOf_58 hl (by decide) rfl (fun ls hl => ?_)
          exact t_X5_refusalOf_60 Z hr zN hf E (lv_sub hl [3, 4, 5, 6, 2, 1, 0] rfl)
        · have hf := zit hf c
          refine lv_bipush (v := (-2)) Z.x Z.b dX5_refusalOf_43 (by decide) ?_
          exact z_iret Z E hr dX5_refusalOf_45 hf
  · have hf := zit hf c
    refine lv_iconst (v := (-1)) Z.x Z.b dX5_refusalOf_9 (by decide) ?_
    exact z_iret Z E hr dX5_refusalOf_10 hf
set_option maxHeartbeats 4000000 in
set_option maxRecDepth 20000 in
theorem c_X5_refusalOf (l : Launch) (G : zG) (h : zHp) (h' : zHp) (a0 : Nat) (a1 : Int32) (a2 : Int32) (a3 : Int32) (a4 : Int32) (r : Int32) (hf : f_X5_refusalOf a0 a1 a2 a3 a4 h = some (r, h')) : zM0 l yX5_refusalOf cX5_refusalOf 9 (some .int) rm_X5_refusalOf G [.ref a0, .int a1, .int a2, .int a3, .int a4] h (zQi G r h') := by
  refine Met.ofW (cc := cX5_refusalOf) (maxL := 9) (ret := (some .int)) (by decide) rfl ?_
  intro p e s m args below meth c s₁ B hml hv
  obtain ⟨rfl, hW⟩ := hv
  obtain ⟨Z, E, hr⟩ := zEnter (own := RX5) B hml rfl hW
  have hl := lv_entry ([.ref a0, .int a1, .int a2, .int a3, .int a4]) (n := 9) (Nat.le_of_ble_eq_true rfl)
  rw [lg_entry_eq]
  generalize (lg_sl ([.ref a0, .int a1, .int a2, .int a3, .int a4]) ++ List.replicate (9 - (lg_sl ([.ref a0, .int a1, .int a2, .int a3, .int a4])).length) Slot.unset).toArray = ls at hl ⊢
  have hl : lv_has ls 9 [(0, .ref a0), (1, .int a1), (2, .int a2), (3, .int a3), (4, .int a4)] := hl
  exact t_X5_refusalOf (out := (r, h')) Z hr hf E hl
/-! FerryCrews$State.addSailing(IIII)I -/
theorem dX5_addSailing_0 : decode cX5_addSailing 0 = .ok (.aload_n 0, 1) := by decide +kernel
theorem dX5_addSailing_1 : decode cX5_addSailing 1 = .ok (.getfield 41, 3) := by decide +kernel
theorem dX5_addSailing_4 : decode cX5_addSailing 4 = .ok (.istore 5, 2) := by decide +kernel
theorem dX5_addSailing_6 : decode cX5_addSailing 6 = .ok (.iload 5, 2) := by decide +kernel
theorem dX5_addSailing_8 : decode cX5_addSailing 8 = .ok (.ifCond .lt 10, 3) := by decide +kernel
theorem dX5_addSailing_11 : decode cX5_addSailing 11 = .ok (.iload 5, 2) := by decide +kernel
theorem dX5_addSailing_13 : decode cX5_addSailing 13 = .ok (.bipush 48, 2) := by decide +kernel
theorem dX5_addSailing_15 : decode cX5_addSailing 15 = .ok (.if_icmp .lt 6, 3) := by decide +kernel
theorem dX5_addSailing_18 : decode cX5_addSailing 18 = .ok (.bipush (-3), 2) := by decide +kernel
theorem dX5_addSailing_20 : decode cX5_addSailing 20 = .ok (.ireturn, 1) := by decide +kernel
theorem dX5_addSailing_21 : decode cX5_addSailing 21 = .ok (.aload_n 0, 1) := by decide +kernel
theorem dX5_addSailing_22 : decode cX5_addSailing 22 = .ok (.getfield 17, 3) := by decide +kernel
theorem dX5_addSailing_25 : decode cX5_addSailing 25 = .ok (.iload 5, 2) := by decide +kernel
theorem dX5_addSailing_27 : decode cX5_addSailing 27 = .ok (.aaload, 1) := by decide +kernel
theorem dX5_addSailing_28 : decode cX5_addSailing 28 = .ok (.astore 6, 2) := by decide +kernel
theorem dX5_addSailing_30 : decode cX5_addSailing 30 = .ok (.aload 6, 2) := by decide +kernel
theorem dX5_addSailing_32 : decode cX5_addSailing 32 = .ok (.iload 5, 2) := by decide +kernel
theorem dX5_addSailing_34 : decode cX5_addSailing 34 = .ok (.iload_n 1, 1) := by decide +kernel
theorem dX5_addSailing_35 : decode cX5_addSailing 35 = .ok (.iload_n 2, 1) := by decide +kernel
theorem dX5_addSailing_36 : decode cX5_addSailing 36 = .ok (.iload_n 3, 1) := by decide +kernel
theorem dX5_addSailing_37 : decode cX5_addSailing 37 = .ok (.iload 4, 2) := by decide +kernel
theorem dX5_addSailing_39 : decode cX5_addSailing 39 = .ok (.invokevirtual 93, 3) := by decide +kernel
theorem dX5_addSailing_42 : decode cX5_addSailing 42 = .ok (.iload 5, 2) := by decide +kernel
theorem dX5_addSailing_44 : decode cX5_addSailing 44 = .ok (.istore 7, 2) := by decide +kernel
theorem dX5_addSailing_46 : decode cX5_addSailing 46 = .ok (.iload 7, 2) := by decide +kernel
theorem dX5_addSailing_48 : decode cX5_addSailing 48 = .ok (.ifCond .le 41, 3) := by decide +kernel
theorem dX5_addSailing_51 : decode cX5_addSailing 51 = .ok (.aload_n 0, 1) := by decide +kernel
theorem dX5_addSailing_52 : decode cX5_addSailing 52 = .ok (.getfield 17, 3) := by decide +kernel
theorem dX5_addSailing_55 : decode cX5_addSailing 55 = .ok (.iload 7, 2) := by decide +kernel
theorem dX5_addSailing_57 : decode cX5_addSailing 57 = .ok (.iconst 1, 1) := by decide +kernel
theorem dX5_addSailing_58 : decode cX5_addSailing 58 = .ok (.isub, 1) := by decide +kernel
theorem dX5_addSailing_59 : decode cX5_addSailing 59 = .ok (.aaload, 1) := by decide +kernel
theorem dX5_addSailing_60 : decode cX5_addSailing 60 = .ok (.getfield 97, 3) := by decide +kernel
theorem dX5_addSailing_63 : decode cX5_addSailing 63 = .ok (.iload_n 2, 1) := by decide +kernel
theorem dX5_addSailing_64 : decode cX5_addSailing 64 = .ok (.if_icmp .le 25, 3) := by decide +kernel
theorem dX5_addSailing_67 : decode cX5_addSailing 67 = .ok (.aload_n 0, 1) := by decide +kernel
theorem dX5_addSailing_68 : decode cX5_addSailing 68 = .ok (.getfield 17, 3) := by decide +kernel
theorem dX5_addSailing_71 : decode cX5_addSailing 71 = .ok (.iload 7, 2) := by decide +kernel
theorem dX5_addSailing_73 : decode cX5_addSailing 73 = .ok (.aload_n 0, 1) := by decide +kernel
theorem dX5_addSailing_74 : decode cX5_addSailing 74 = .ok (.getfield 17, 3) := by decide +kernel
theorem dX5_addSailing_77 : decode cX5_addSailing 77 = .ok (.iload 7, 2) := by decide +kernel
theorem dX5_addSailing_79 : decode cX5_addSailing 79 = .ok (.iconst 1, 1) := by decide +kernel
theorem dX5_addSailing_80 : decode cX5_addSailing 80 = .ok (.isub, 1) := by decide +kernel
theorem dX5_addSailing_81 : decode cX5_addSailing 81 = .ok (.aaload, 1) := by decide +kernel
theorem dX5_addSailing_82 : decode cX5_addSailing 82 = .ok (.aastore, 1) := by decide +kernel
theorem dX5_addSailing_83 : decode cX5_addSailing 83 = .ok (.iinc 7 (-1), 3) := by decide +kernel
theorem dX5_addSailing_86 : decode cX5_addSailing 86 = .ok (.goto (-40), 3) := by decide +kernel
theorem dX5_addSailing_89 : decode cX5_addSailing 89 = .ok (.aload_n 0, 1) := by decide +kernel
theorem dX5_addSailing_90 : decode cX5_addSailing 90 = .ok (.getfield 17, 3) := by decide +kernel
theorem dX5_addSailing_93 : decode cX5_addSailing 93 = .ok (.iload 7, 2) := by decide +kernel
theorem dX5_addSailing_95 : decode cX5_addSailing 95 = .ok (.aload 6, 2) := by decide +kernel
theorem dX5_addSailing_97 : decode cX5_addSailing 97 = .ok (.aastore, 1) := by decide +kernel
theorem dX5_addSailing_98 : decode cX5_addSailing 98 = .ok (.aload_n 0, 1) := by decide +kernel
theorem dX5_addSailing_99 : decode cX5_addSailing 99 = .ok (.dup, 1) := by decide +kernel
theorem dX5_addSailing_100 : decode cX5_addSailing 100 = .ok (.getfield 41, 3) := by decide +kernel
theorem dX5_addSailing_103 : decode cX5_addSailing 103 = .ok (.iconst 1, 1) := by decide +kernel
theorem dX5_addSailing_104 : decode cX5_addSailing 104 = .ok (.iadd, 1) := by decide +kernel
theorem dX5_addSailing_105 : decode cX5_addSailing 105 = .ok (.putfield 41, 3) := by decide +kernel
theorem dX5_addSailing_108 : decode cX5_addSailing 108 = .ok (.iload 5, 2) := by decide +kernel
theorem dX5_addSailing_110 : decode cX5_addSailing 110 = .ok (.ireturn, 1) := by decide +kernel
set_option maxRecDepth 20000 in
theorem wc_X4_come : Cond.code yX4_come cX4_come 8 none ∈ zB := List.mem_filter.mpr ⟨List.mem_of_getElem? (i := 535) (by decide +kernel), by decide +kernel⟩
set_option maxRecDepth 20000 in
theorem wm_X5_93 : Cond.methodLink RX5 93 yX4_come ∈ zB := List.mem_filter.mpr ⟨List.mem_of_getElem? (i := 532) (by decide +kernel), by decide +kernel⟩
theorem k_X5_93 : zCal RX5 93 yX4_come cX4_come 8 none 5 := ⟨wm_X5_93, wi_X4, wc_X4_come, by decide +kernel, by decide +kernel, by decide +kernel⟩
set_option maxRecDepth 20000 in
theorem wn_X4_come : Cond.instanceMethod yX4_come ∈ zB := List.mem_filter.mpr ⟨List.mem_of_getElem? (i := 533) (by decide +kernel), by decide +kernel⟩
set_option maxRecDepth 20000 in
theorem ws_X4_come : Cond.selects RX4 yX4_come yX4_come ∈ zB := List.mem_filter.mpr ⟨List.mem_of_getElem? (i := 534) (by decide +kernel), by decide +kernel⟩
theorem v_X4_come : zVir yX4_come 4 := ⟨wn_X4_come, ws_X4_come, TX4, 9, rfl⟩
set_option maxRecDepth 20000 in
theorem wf_X5_97 : Cond.fieldLink RX5 97 RX4 "start" "I" ∈ zB := List.mem_filter.mpr ⟨List.mem_of_getElem? (i := 78) (by decide +kernel), by decide +kernel⟩
theorem q_X5_97 : zFld RX5 97 4 2 := ⟨RX4, TX4, 9, rfl, by decide, iX4, wf_X5_97, rfl⟩
def rm_X5_addSailing : Room := { frames := 1, cells := 0, slots := 0, locals := 27 }
set_option maxHeartbeats 4000000 in
set_option maxRecDepth 20000 in
theorem t_X5_addSailing_89 {p : Program} {l : Launch} {e : Env} {s : State} {m : MethodId} {args : Array Value} {below : List Frame} {meth : Method} {c : Code} {G : zG} (Z : zF p s m args c meth cX5_addSailing 8 RX5 G) (hr : meth.sig.returnType = (some .int)) {out : Int32 × zHp} {a0 : Nat} {a5 : Int32} {a6 : Nat} {a7 : Int32} {h : zHp} {H : Heap} {locs : List Loc} {ls : Array Slot} (hf : f_X5_addSailing_89 a0 a5 a6 a7 h = some out) (E : zE G s h H locs) (hl : lv_has ls 8 [(0, .ref a0), (5, .int a5), (6, .ref a6), (7, .int a7)]) : W p l e rm_X5_addSailing s m args below meth c H locs 0 0 (MQ below (zQi G out.1 out.2) args s 0 0 (zA G)) (F0 m 89 ls []) := by
  unfold f_X5_addSailing_89 at hf
  refine lv_aload_n Z.x Z.b dX5_addSailing_89 rfl (lv_at hl 0 rfl) ?_
  refine z_getR Z E q_X5_17 dX5_addSailing_90 hf (fun v1 hf => ?_)
  refine lv_iload Z.x Z.b dX5_addSailing_93 (lv_at hl 3 rfl) ?_
  refine lv_aload Z.x Z.b dX5_addSailing_95 (lv_at hl 2 rfl) ?_
  refine z_aast (kd := 2) (ci := 4) (r := (RX4, TX4, 9)) Z E rfl rfl dX5_addSailing_97 hf (fun h2 H locs hf E => ?_)
  refine lv_aload_n Z.x Z.b dX5_addSailing_98 rfl (lv_at hl 0 rfl) ?_
  refine lv_dup Z.x Z.b dX5_addSailing_99 rfl ?_
  refine z_getI Z E q_X5_41 dX5_addSailing_100 hf (fun v3 hf => ?_)
  refine lv_iconst (v := 1) Z.x Z.b dX5_addSailing_103 (by decide) ?_
  refine lv_iadd Z.x Z.b dX5_addSailing_104 ?_
  refine z_put Z E p_X5_41 rfl rfl dX5_addSailing_105 hf (fun h4 H locs hf E => ?_)
  refine lv_iload Z.x Z.b dX5_addSailing_108 (lv_at hl 1 rfl) ?_
  exact z_iret Z E hr dX5_addSailing_110 hf
set_option maxHeartbeats 4000000 in
set_option maxRecDepth 20000 in
theorem t_X5_addSailing_46_body {p : Program} {l : Launch} {e : Env} {s : State} {m : MethodId} {args : Array Value} {below : List Frame} {meth : Method} {c : Code} {G : zG} (Z : zF p s m args c meth cX5_addSailing 8 RX5 G) (hr : meth.sig.returnType = (some .int)) {out : Int32 × zHp} {r46 : Nat → Int32 → Int32 → Nat → Int32 → zHp → Option (Int32 × zHp)} (k46 : ∀ {a0 : Nat} {a2 : Int32} {a5 : Int32} {a6 : Nat} {a7 : Int32} {h : zHp} {H : Heap} {locs : List Loc} {ls : Array Slot}, r46 a0 a2 a5 a6 a7 h = some out → zE G s h H locs → lv_has ls 8 [(0, .ref a0), (2, .int a2), (5, .int a5), (6, .ref a6), (7, .int a7)] → W p l e rm_X5_addSailing s m args below meth c H locs 0 0 (MQ below (zQi G out.1 out.2) args s 0 0 (zA G)) (F0 m 46 ls [])) {a0 : Nat} {a2 : Int32} {a5 : Int32} {a6 : Nat} {a7 : Int32} {h : zHp} {H : Heap} {locs : List Loc} {ls : Array Slot} (hf : f_X5_addSailing_46_body r46 a0 a2 a5 a6 a7 h = some out) (E : zE G s h H locs) (hl : lv_has ls 8 [(0, .ref a0), (2, .int a2), (5, .int a5), (6, .ref a6), (7, .int a7)]) : W p l e rm_X5_addSailing s m args below meth c H locs 0 0 (MQ below (zQi G out.1 out.2) args s 0 0 (zA G)) (F0 m 46 ls []) := by
  unfold f_X5_addSailing_46_body at hf
  refine lv_iload Z.x Z.b dX5_addSailing_46 (lv_at hl 4 rfl) ?_
  refine lv_if_le (tgt := 89) Z.x Z.b dX5_addSailing_48 (by decide) (fun c => ?_) (fun c => ?_)
  · have hf := zit hf c
    exact t_X5_addSailing_89 Z hr hf E (lv_sub hl [0, 2, 3, 4] rfl)
  · have hf := zif_ hf c
    refine lv_aload_n Z.x Z.b dX5_addSailing_51 rfl (lv_at hl 0 rfl) ?_
    refine z_getR Z E q_X5_17 dX5_addSailing_52 hf (fun v1 hf => ?_)
    refine lv_iload Z.x Z.b dX5_addSailing_55 (lv_at hl 4 rfl) ?_
    refine lv_iconst (v := 1) Z.x Z.b dX5_addSailing_57 (by decide) ?_
    refine lv_isub Z.x Z.b dX5_addSailing_58 ?_
    refine z_aald (kd := 2) Z E rfl dX5_addSailing_59 hf (fun v2 hf => ?_)
    refine z_getI Z E q_X5_97 dX5_addSailing_60 hf (fun v3 hf => ?_)
    refine lv_iload_n Z.x Z.b dX5_addSailing_63 rfl (lv_at hl 1 rfl) ?_
    refine lv_icmp_le (tgt := 89) Z.x Z.b dX5_addSailing_64 (by decide) (fun c => ?_) (fun c => ?_)
    · have hf := zit hf c
      exact t_X5_addSailing_89 Z hr hf E (lv_sub hl [0, 2, 3, 4] rfl)
    · have hf := zif_ hf c
      refine lv_aload_n Z.x Z.b dX5_addSailing_67 rfl (lv_at hl 0 rfl) ?_
      refine z_getR Z E q_X5_17 dX5_addSailing_68 hf (fun v4 hf => ?_)
      refine lv_iload Z.x Z.b dX5_addSailing_71 (lv_at hl 4 rfl) ?_
      refine lv_aload_n Z.x Z.b dX5_addSailing_73 rfl (lv_at hl 0 rfl) ?_
      refine z_getR Z E q_X5_17 dX5_addSailing_74 hf (fun v5 hf => ?_)
      refine lv_iload Z.x Z.b dX5_addSailing_77 (lv_at hl 4 rfl) ?_
      refine lv_iconst (v := 1) Z.x Z.b dX5_addSailing_79 (by decide) ?_
      refine lv_isub Z.x Z.b dX5_addSailing_80 ?_
      refine z_aald (kd := 2) Z E rfl dX5_addSailing_81 hf (fun v6 hf => ?_)
      refine z_aast (kd := 2) (ci := 4) (r := (RX4, TX4, 9)) Z E rfl rfl dX5_addSailing_82 hf (fun h7 H locs hf E => ?_)
      refine lv_iinc (v := (a7 + (-1))) (lv' := [(7, .int (a7 + (-1))), (0, .ref a0), (2, .int a2), (5, .int a5), (6, .ref a6)]) Z.x Z.b dX5_addSailing_83 hl (k := 4) rfl rfl (by decide) rfl (fun ls hl => ?_)
      refine lv_goto (tgt := 46) Z.x Z.b dX5_addSailing_86 (by decide) ?_
      exact k46 hf E (lv_sub hl [1, 2, 3, 4, 0] rfl)
theorem t_X5_addSailing_46 {p : Program} {l : Launch} {e : Env} {s : State} {m : MethodId} {args : Array Value} {below : List Frame} {meth : Method} {c : Code} {G : zG} (Z : zF p s m args c meth cX5_addSailing 8 RX5 G) (hr : meth.sig.returnType = (some .int)) {out : Int32 × zHp} : ∀ (n : Nat), ∀ {a0 : Nat} {a2 : Int32} {a5 : Int32} {a6 : Nat} {a7 : Int32} {h : zHp} {H : Heap} {locs : List Loc} {ls : Array Slot}, f_X5_addSailing_46 n a0 a2 a5 a6 a7 h = some out → zE G s h H locs → lv_has ls 8 [(0, .ref a0), (2, .int a2), (5, .int a5), (6, .ref a6), (7, .int a7)] → W p l e rm_X5_addSailing s m args below meth c H locs 0 0 (MQ below (zQi G out.1 out.2) args s 0 0 (zA G)) (F0 m 46 ls [])
  | 0 => fun hf => by cases hf
  | n + 1 => fun hf E hl => t_X5_addSailing_46_body Z hr (r46 := f_X5_addSailing_46 n) (t_X5_addSailing_46 Z hr n) hf E hl
set_option maxHeartbeats 4000000 in
set_option maxRecDepth 20000 in
theorem t_X5_addSailing {p : Program} {l : Launch} {e : Env} {s : State} {m : MethodId} {args : Array Value} {below : List Frame} {meth : Method} {c : Code} {G : zG} (Z : zF p s m args c meth cX5_addSailing 8 RX5 G) (hr : meth.sig.returnType = (some .int)) {out : Int32 × zHp} {a0 : Nat} {a1 : Int32} {a2 : Int32} {a3 : Int32} {a4 : Int32} {h : zHp} {H : Heap} {locs : List Loc} {ls : Array Slot} (hf : f_X5_addSailing a0 a1 a2 a3 a4 h = some out) (E : zE G s h H locs) (hl : lv_has ls 8 [(0, .ref a0), (1, .int a1), (2, .int a2), (3, .int a3), (4, .int a4)]) : W p l e rm_X5_addSailing s m args below meth c H locs 0 0 (MQ below (zQi G out.1 out.2) args s 0 0 (zA G)) (F0 m 0 ls []) := by
  unfold f_X5_addSailing at hf
  refine lv_aload_n Z.x Z.b dX5_addSailing_0 rfl (lv_at hl 0 rfl) ?_
  refine z_getI Z E q_X5_41 dX5_addSailing_1 hf (fun v1 hf => ?_)
  refine lv_istore (lv' := [(5, .int v1), (0, .ref a0), (1, .int a1), (2, .int a2), (3, .int a3), (4, .int a4)]) Z.x Z.b dX5_addSailing_4 hl (by decide) rfl (fun ls hl => ?_)
  refine lv_iload Z.x Z.b dX5_addSailing_6 (lv_at hl 0 rfl) ?_
  refine lv_if_lt (tgt := 18) Z.x Z.b dX5_addSailing_8 (by decide) (fun c => ?_) (fun c => ?_)
  · have hf := zit hf c
    refine lv_bipush (v := (-3)) Z.x Z.b dX5_addSailing_18 (by decide) ?_
    exact z_iret Z E hr dX5_addSailing_20 hf
  · have hf := zif_ hf c
    refine lv_iload Z.x Z.b dX5_addSailing_11 (lv_at hl 0 rfl) ?_
    refine lv_bipush (v := 48) Z.x Z.b dX5_addSailing_13 (by decide) ?_
    refine lv_icmp_lt (tgt := 21) Z.x Z.b dX5_addSailing_15 (by decide) (fun c => ?_) (fun c => ?_)
    · have hf := zit hf c
      refine lv_aload_n Z.x Z.b dX5_addSailing_21 rfl (lv_at hl 1 rfl) ?_
      refine z_getR Z E q_X5_17 dX5_addSailing_22 hf (fun v2 hf => ?_)
      refine lv_iload Z.x Z.b dX5_addSailing_25 (lv_at hl 0 rfl) ?_
      refine z_aald (kd := 2) Z E rfl dX5_addSailing_27 hf (fun v3 hf => ?_)
      refine lv_astore (lv' := [(6, .ref v3), (5, .int v1), (0, .ref a0), (1, .int a1), (2, .int a2), (3, .int a3), (4, .int a4)]) Z.x Z.b dX5_addSailing_28 hl (by decide) rfl (fun ls hl => ?_)
      refine lv_aload Z.x Z.b dX5_addSailing_30 (lv_at hl 0 rfl) ?_
      refine lv_iload Z.x Z.b dX5_addSailing_32 (lv_at hl 1 rfl) ?_
      refine lv_iload_n Z.x Z.b dX5_addSailing_34 rfl (lv_at hl 3 rfl) ?_
      refine lv_iload_n Z.x Z.b dX5_addSailing_35 rfl (lv_at hl 4 rfl) ?_
      refine lv_iload_n Z.x Z.b dX5_addSailing_36 rfl (lv_at hl 5 rfl) ?_
      refine lv_iload Z.x Z.b dX5_addSailing_37 (lv_at hl 6 rfl) ?_
      refine z_Vv (As := [.int v1, .int a1, .int a2, .int a3, .int a4]) Z E hl.1 k_X5_93 v_X4_come hf (fun h' e => c_X4_come l G h h' v3 v1 a1 a2 a3 a4 e) rfl rfl (Nat.le_of_ble_eq_true rfl) (zRm_of rfl (Nat.zero_le _) (Nat.zero_le _)) dX5_addSailing_39 (fun h4 H locs hf E => ?_)
      refine lv_iload Z.x Z.b dX5_addSailing_42 (lv_at hl 1 rfl) ?_
      refine lv_istore (lv' := [(7, .int v1), (6, .ref v3), (5, .int v1), (0, .ref a0), (1, .int a1), (2, .int a2), (3, .int a3), (4, .int a4)]) Z.x Z.b dX5_addSailing_44 hl (by decide) rfl (fun ls hl => ?_)
      exact t_X5_addSailing_46 Z hr zN hf E (lv_sub hl [3, 5, 2, 1, 0] rfl)
    · have hf := zif_ hf c
      refine lv_bipush (v := (-3)) Z.x Z.b dX5_addSailing_18 (by decide) ?_
      exact z_iret Z E hr dX5_addSailing_20 hf
set_option maxHeartbeats 4000000 in
set_option maxRecDepth 20000 in
theorem c_X5_addSailing (l : Launch) (G : zG) (h : zHp) (h' : zHp) (a0 : Nat) (a1 : Int32) (a2 : Int32) (a3 : Int32) (a4 : Int32) (r : Int32) (hf : f_X5_addSailing a0 a1 a2 a3 a4 h = some (r, h')) : zM0 l yX5_addSailing cX5_addSailing 8 (some .int) rm_X5_addSailing G [.ref a0, .int a1, .int a2, .int a3, .int a4] h (zQi G r h') := by
  refine Met.ofW (cc := cX5_addSailing) (maxL := 8) (ret := (some .int)) (by decide) rfl ?_
  intro p e s m args below meth c s₁ B hml hv
  obtain ⟨rfl, hW⟩ := hv
  obtain ⟨Z, E, hr⟩ := zEnter (own := RX5) B hml rfl hW
  have hl := lv_entry ([.ref a0, .int a1, .int a2, .int a3, .int a4]) (n := 8) (Nat.le_of_ble_eq_true rfl)
  rw [lg_entry_eq]
  generalize (lg_sl ([.ref a0, .int a1, .int a2, .int a3, .int a4]) ++ List.replicate (8 - (lg_sl ([.ref a0, .int a1, .int a2, .int a3, .int a4])).length) Slot.unset).toArray = ls at hl ⊢
  have hl : lv_has ls 8 [(0, .ref a0), (1, .int a1), (2, .int a2), (3, .int a3), (4, .int a4)] := hl
  exact t_X5_addSailing (out := (r, h')) Z hr hf E hl
/-! FerryCrews$State.addMember(II)I -/
theorem dX5_addMember_0 : decode cX5_addMember 0 = .ok (.aload_n 0, 1) := by decide +kernel
theorem dX5_addMember_1 : decode cX5_addMember 1 = .ok (.getfield 44, 3) := by decide +kernel
theorem dX5_addMember_4 : decode cX5_addMember 4 = .ok (.istore_n 3, 1) := by decide +kernel
theorem dX5_addMember_5 : decode cX5_addMember 5 = .ok (.iload_n 3, 1) := by decide +kernel
theorem dX5_addMember_6 : decode cX5_addMember 6 = .ok (.invokestatic 76, 3) := by decide +kernel
theorem dX5_addMember_9 : decode cX5_addMember 9 = .ok (.ifCond .eq 10, 3) := by decide +kernel
theorem dX5_addMember_12 : decode cX5_addMember 12 = .ok (.iload_n 1, 1) := by decide +kernel
theorem dX5_addMember_13 : decode cX5_addMember 13 = .ok (.invokestatic 80, 3) := by decide +kernel
theorem dX5_addMember_16 : decode cX5_addMember 16 = .ok (.ifCond .ne 6, 3) := by decide +kernel
theorem dX5_addMember_19 : decode cX5_addMember 19 = .ok (.bipush (-3), 2) := by decide +kernel
theorem dX5_addMember_21 : decode cX5_addMember 21 = .ok (.ireturn, 1) := by decide +kernel
theorem dX5_addMember_22 : decode cX5_addMember 22 = .ok (.aload_n 0, 1) := by decide +kernel
theorem dX5_addMember_23 : decode cX5_addMember 23 = .ok (.dup, 1) := by decide +kernel
theorem dX5_addMember_24 : decode cX5_addMember 24 = .ok (.getfield 44, 3) := by decide +kernel
theorem dX5_addMember_27 : decode cX5_addMember 27 = .ok (.iconst 1, 1) := by decide +kernel
theorem dX5_addMember_28 : decode cX5_addMember 28 = .ok (.iadd, 1) := by decide +kernel
theorem dX5_addMember_29 : decode cX5_addMember 29 = .ok (.putfield 44, 3) := by decide +kernel
theorem dX5_addMember_32 : decode cX5_addMember 32 = .ok (.aload_n 0, 1) := by decide +kernel
theorem dX5_addMember_33 : decode cX5_addMember 33 = .ok (.getfield 23, 3) := by decide +kernel
theorem dX5_addMember_36 : decode cX5_addMember 36 = .ok (.iload_n 3, 1) := by decide +kernel
theorem dX5_addMember_37 : decode cX5_addMember 37 = .ok (.aaload, 1) := by decide +kernel
theorem dX5_addMember_38 : decode cX5_addMember 38 = .ok (.iload_n 1, 1) := by decide +kernel
theorem dX5_addMember_39 : decode cX5_addMember 39 = .ok (.iload_n 2, 1) := by decide +kernel
theorem dX5_addMember_40 : decode cX5_addMember 40 = .ok (.invokevirtual 100, 3) := by decide +kernel
theorem dX5_addMember_43 : decode cX5_addMember 43 = .ok (.pop, 1) := by decide +kernel
theorem dX5_addMember_44 : decode cX5_addMember 44 = .ok (.aload_n 0, 1) := by decide +kernel
theorem dX5_addMember_45 : decode cX5_addMember 45 = .ok (.getfield 29, 3) := by decide +kernel
theorem dX5_addMember_48 : decode cX5_addMember 48 = .ok (.iload_n 1, 1) := by decide +kernel
theorem dX5_addMember_49 : decode cX5_addMember 49 = .ok (.aaload, 1) := by decide +kernel
theorem dX5_addMember_50 : decode cX5_addMember 50 = .ok (.iload_n 3, 1) := by decide +kernel
theorem dX5_addMember_51 : decode cX5_addMember 51 = .ok (.invokevirtual 104, 3) := by decide +kernel
theorem dX5_addMember_54 : decode cX5_addMember 54 = .ok (.pop, 1) := by decide +kernel
theorem dX5_addMember_55 : decode cX5_addMember 55 = .ok (.iload_n 3, 1) := by decide +kernel
theorem dX5_addMember_56 : decode cX5_addMember 56 = .ok (.ireturn, 1) := by decide +kernel
set_option maxRecDepth 20000 in
theorem wc_X3_replaceCertificate : Cond.code yX3_replaceCertificate cX3_replaceCertificate 4 (some .int) ∈ zB := List.mem_filter.mpr ⟨List.mem_of_getElem? (i := 547) (by decide +kernel), by decide +kernel⟩
set_option maxRecDepth 20000 in
theorem wm_X5_100 : Cond.methodLink RX5 100 yX3_replaceCertificate ∈ zB := List.mem_filter.mpr ⟨List.mem_of_getElem? (i := 544) (by decide +kernel), by decide +kernel⟩
theorem k_X5_100 : zCal RX5 100 yX3_replaceCertificate cX3_replaceCertificate 4 (some .int) 2 := ⟨wm_X5_100, wi_X3, wc_X3_replaceCertificate, by decide +kernel, by decide +kernel, by decide +kernel⟩
set_option maxRecDepth 20000 in
theorem wn_X3_replaceCertificate : Cond.instanceMethod yX3_replaceCertificate ∈ zB := List.mem_filter.mpr ⟨List.mem_of_getElem? (i := 545) (by decide +kernel), by decide +kernel⟩
set_option maxRecDepth 20000 in
theorem ws_X3_replaceCertificate : Cond.selects RX3 yX3_replaceCertificate yX3_replaceCertificate ∈ zB := List.mem_filter.mpr ⟨List.mem_of_getElem? (i := 546) (by decide +kernel), by decide +kernel⟩
theorem v_X3_replaceCertificate : zVir yX3_replaceCertificate 3 := ⟨wn_X3_replaceCertificate, ws_X3_replaceCertificate, TX3, 3, rfl⟩
set_option maxRecDepth 20000 in
theorem wc_X2_putLast : Cond.code yX2_putLast cX2_putLast 2 (some .int) ∈ zB := List.mem_filter.mpr ⟨List.mem_of_getElem? (i := 552) (by decide +kernel), by decide +kernel⟩
set_option maxRecDepth 20000 in
theorem wm_X5_104 : Cond.methodLink RX5 104 yX2_putLast ∈ zB := List.mem_filter.mpr ⟨List.mem_of_getElem? (i := 549) (by decide +kernel), by decide +kernel⟩
theorem k_X5_104 : zCal RX5 104 yX2_putLast cX2_putLast 2 (some .int) 1 := ⟨wm_X5_104, wi_X2, wc_X2_putLast, by decide +kernel, by decide +kernel, by decide +kernel⟩
set_option maxRecDepth 20000 in
theorem wn_X2_putLast : Cond.instanceMethod yX2_putLast ∈ zB := List.mem_filter.mpr ⟨List.mem_of_getElem? (i := 550) (by decide +kernel), by decide +kernel⟩
set_option maxRecDepth 20000 in
theorem ws_X2_putLast : Cond.selects RX2 yX2_putLast yX2_putLast ∈ zB := List.mem_filter.mpr ⟨List.mem_of_getElem? (i := 551) (by decide +kernel), by decide +kernel⟩
theorem v_X2_putLast : zVir yX2_putLast 2 := ⟨wn_X2_putLast, ws_X2_putLast, TX2, 2, rfl⟩
def rm_X5_addMember : Room := { frames := 3, cells := 0, slots := 0, locals := 64 }
set_option maxHeartbeats 4000000 in
set_option maxRecDepth 20000 in
theorem t_X5_addMember {p : Program} {l : Launch} {e : Env} {s : State} {m : MethodId} {args : Array Value} {below : List Frame} {meth : Method} {c : Code} {G : zG} (Z : zF p s m args c meth cX5_addMember 4 RX5 G) (hr : meth.sig.returnType = (some .int)) {out : Int32 × zHp} {a0 : Nat} {a1 : Int32} {a2 : Int32} {h : zHp} {H : Heap} {locs : List Loc} {ls : Array Slot} (hf : f_X5_addMember a0 a1 a2 h = some out) (E : zE G s h H locs) (hl : lv_has ls 4 [(0, .ref a0), (1, .int a1), (2, .int a2)]) : W p l e rm_X5_addMember s m args below meth c H locs 0 0 (MQ below (zQi G out.1 out.2) args s 0 0 (zA G)) (F0 m 0 ls []) := by
  unfold f_X5_addMember at hf
  refine lv_aload_n Z.x Z.b dX5_addMember_0 rfl (lv_at hl 0 rfl) ?_
  refine z_getI Z E q_X5_44 dX5_addMember_1 hf (fun v1 hf => ?_)
  refine lv_istore_n (lv' := [(3, .int v1), (0, .ref a0), (1, .int a1), (2, .int a2)]) Z.x Z.b dX5_addMember_4 rfl hl (by decide) rfl (fun ls hl => ?_)
  refine lv_iload_n Z.x Z.b dX5_addMember_5 rfl (lv_at hl 0 rfl) ?_
  refine z_SNi (As := [.int v1]) Z E hl.1 k_X5_76 wt_X7_isMemberNumber hf (fun r h' e => c_X7_isMemberNumber l G h h' v1 r e) rfl rfl (Nat.le_of_ble_eq_true rfl) (zRm_of rfl (Nat.zero_le _) (Nat.zero_le _)) dX5_addMember_6 (fun v2 h3 H locs hf E => ?_)
  refine lv_if_eq (tgt := 19) Z.x Z.b dX5_addMember_9 (by decide) (fun c => ?_) (fun c => ?_)
  · have hf := zit hf c
    refine lv_bipush (v := (-3)) Z.x Z.b dX5_addMember_19 (by decide) ?_
    exact z_iret Z E hr dX5_addMember_21 hf
  · have hf := zif_ hf c
    refine lv_iload_n Z.x Z.b dX5_addMember_12 rfl (lv_at hl 2 rfl) ?_
    refine z_SNi (As := [.int a1]) Z E hl.1 k_X5_80 wt_X7_isRole hf (fun r h' e => c_X7_isRole l G h3 h' a1 r e) rfl rfl (Nat.le_of_ble_eq_true rfl) (zRm_of rfl (Nat.zero_le _) (Nat.zero_le _)) dX5_addMember_13 (fun v4 h5 H locs hf E => ?_)
    refine lv_if_ne (tgt := 22) Z.x Z.b dX5_addMember_16 (by decide) (fun c => ?_) (fun c => ?_)
    · have hf := zif_ hf c
      refine lv_aload_n Z.x Z.b dX5_addMember_22 rfl (lv_at hl 1 rfl) ?_
      refine lv_dup Z.x Z.b dX5_addMember_23 rfl ?_
      refine z_getI Z E q_X5_44 dX5_addMember_24 hf (fun v6 hf => ?_)
      refine lv_iconst (v := 1) Z.x Z.b dX5_addMember_27 (by decide) ?_
      refine lv_iadd Z.x Z.b dX5_addMember_28 ?_
      refine z_put Z E p_X5_44 rfl rfl dX5_addMember_29 hf (fun h7 H locs hf E => ?_)
      refine lv_aload_n Z.x Z.b dX5_addMember_32 rfl (lv_at hl 1 rfl) ?_
      refine z_getR Z E q_X5_23 dX5_addMember_33 hf (fun v8 hf => ?_)
      refine lv_iload_n Z.x Z.b dX5_addMember_36 rfl (lv_at hl 0 rfl) ?_
      refine z_aald (kd := 3) Z E rfl dX5_addMember_37 hf (fun v9 hf => ?_)
      refine lv_iload_n Z.x Z.b dX5_addMember_38 rfl (lv_at hl 2 rfl) ?_
      refine lv_iload_n Z.x Z.b dX5_addMember_39 rfl (lv_at hl 3 rfl) ?_
      refine z_Vi (As := [.int a1, .int a2]) Z E hl.1 k_X5_100 v_X3_replaceCertificate hf (fun r h' e => c_X3_replaceCertificate l G h7 h' v9 a1 a2 r e) rfl rfl (Nat.le_of_ble_eq_true rfl) (zRm_of rfl (Nat.zero_le _) (Nat.zero_le _)) dX5_addMember_40 (fun v10 h11 H locs hf E => ?_)
      refine lv_pop Z.x Z.b dX5_addMember_43 rfl ?_
      refine lv_aload_n Z.x Z.b dX5_addMember_44 rfl (lv_at hl 1 rfl) ?_
      refine z_getR Z E q_X5_29 dX5_addMember_45 hf (fun v12 hf => ?_)
      refine lv_iload_n Z.x Z.b dX5_addMember_48 rfl (lv_at hl 2 rfl) ?_
      refine z_aald (kd := 4) Z E rfl dX5_addMember_49 hf (fun v13 hf => ?_)
      refine lv_iload_n Z.x Z.b dX5_addMember_50 rfl (lv_at hl 0 rfl) ?_
      refine z_Vi (As := [.int v1]) Z E hl.1 k_X5_104 v_X2_putLast hf (fun r h' e => c_X2_putLast l G h11 h' v13 v1 r e) rfl rfl (Nat.le_of_ble_eq_true rfl) (zRm_of rfl (Nat.zero_le _) (Nat.zero_le _)) dX5_addMember_51 (fun v14 h15 H locs hf E => ?_)
      refine lv_pop Z.x Z.b dX5_addMember_54 rfl ?_
      refine lv_iload_n Z.x Z.b dX5_addMember_55 rfl (lv_at hl 0 rfl) ?_
      exact z_iret Z E hr dX5_addMember_56 hf
    · have hf := zit hf c
      refine lv_bipush (v := (-3)) Z.x Z.b dX5_addMember_19 (by decide) ?_
      exact z_iret Z E hr dX5_addMember_21 hf
set_option maxHeartbeats 4000000 in
set_option maxRecDepth 20000 in
theorem c_X5_addMember (l : Launch) (G : zG) (h : zHp) (h' : zHp) (a0 : Nat) (a1 : Int32) (a2 : Int32) (r : Int32) (hf : f_X5_addMember a0 a1 a2 h = some (r, h')) : zM0 l yX5_addMember cX5_addMember 4 (some .int) rm_X5_addMember G [.ref a0, .int a1, .int a2] h (zQi G r h') := by
  refine Met.ofW (cc := cX5_addMember) (maxL := 4) (ret := (some .int)) (by decide) rfl ?_
  intro p e s m args below meth c s₁ B hml hv
  obtain ⟨rfl, hW⟩ := hv
  obtain ⟨Z, E, hr⟩ := zEnter (own := RX5) B hml rfl hW
  have hl := lv_entry ([.ref a0, .int a1, .int a2]) (n := 4) (Nat.le_of_ble_eq_true rfl)
  rw [lg_entry_eq]
  generalize (lg_sl ([.ref a0, .int a1, .int a2]) ++ List.replicate (4 - (lg_sl ([.ref a0, .int a1, .int a2])).length) Slot.unset).toArray = ls at hl ⊢
  have hl : lv_has ls 4 [(0, .ref a0), (1, .int a1), (2, .int a2)] := hl
  exact t_X5_addMember (out := (r, h')) Z hr hf E hl
/-! FerryCrews$State.needsCertificateAfter(III)Z -/
theorem dX5_needsCertificateAfter_0 : decode cX5_needsCertificateAfter 0 = .ok (.aload_n 0, 1) := by decide +kernel
theorem dX5_needsCertificateAfter_1 : decode cX5_needsCertificateAfter 1 = .ok (.getfield 17, 3) := by decide +kernel
theorem dX5_needsCertificateAfter_4 : decode cX5_needsCertificateAfter 4 = .ok (.astore 4, 2) := by decide +kernel
theorem dX5_needsCertificateAfter_6 : decode cX5_needsCertificateAfter 6 = .ok (.aload 4, 2) := by decide +kernel
theorem dX5_needsCertificateAfter_8 : decode cX5_needsCertificateAfter 8 = .ok (.arraylength, 1) := by decide +kernel
theorem dX5_needsCertificateAfter_9 : decode cX5_needsCertificateAfter 9 = .ok (.istore 5, 2) := by decide +kernel
theorem dX5_needsCertificateAfter_11 : decode cX5_needsCertificateAfter 11 = .ok (.iconst 0, 1) := by decide +kernel
theorem dX5_needsCertificateAfter_12 : decode cX5_needsCertificateAfter 12 = .ok (.istore 6, 2) := by decide +kernel
theorem dX5_needsCertificateAfter_14 : decode cX5_needsCertificateAfter 14 = .ok (.iload 6, 2) := by decide +kernel
theorem dX5_needsCertificateAfter_16 : decode cX5_needsCertificateAfter 16 = .ok (.iload 5, 2) := by decide +kernel
theorem dX5_needsCertificateAfter_18 : decode cX5_needsCertificateAfter 18 = .ok (.if_icmp .ge 45, 3) := by decide +kernel
theorem dX5_needsCertificateAfter_21 : decode cX5_needsCertificateAfter 21 = .ok (.aload 4, 2) := by decide +kernel
theorem dX5_needsCertificateAfter_23 : decode cX5_needsCertificateAfter 23 = .ok (.iload 6, 2) := by decide +kernel
theorem dX5_needsCertificateAfter_25 : decode cX5_needsCertificateAfter 25 = .ok (.aaload, 1) := by decide +kernel
theorem dX5_needsCertificateAfter_26 : decode cX5_needsCertificateAfter 26 = .ok (.astore 7, 2) := by decide +kernel
theorem dX5_needsCertificateAfter_28 : decode cX5_needsCertificateAfter 28 = .ok (.aload 7, 2) := by decide +kernel
theorem dX5_needsCertificateAfter_30 : decode cX5_needsCertificateAfter 30 = .ok (.invokevirtual 108, 3) := by decide +kernel
theorem dX5_needsCertificateAfter_33 : decode cX5_needsCertificateAfter 33 = .ok (.ifCond .eq 24, 3) := by decide +kernel
theorem dX5_needsCertificateAfter_36 : decode cX5_needsCertificateAfter 36 = .ok (.aload 7, 2) := by decide +kernel
theorem dX5_needsCertificateAfter_38 : decode cX5_needsCertificateAfter 38 = .ok (.getfield 111, 3) := by decide +kernel
theorem dX5_needsCertificateAfter_41 : decode cX5_needsCertificateAfter 41 = .ok (.iload_n 3, 1) := by decide +kernel
theorem dX5_needsCertificateAfter_42 : decode cX5_needsCertificateAfter 42 = .ok (.if_icmp .le 15, 3) := by decide +kernel
theorem dX5_needsCertificateAfter_45 : decode cX5_needsCertificateAfter 45 = .ok (.aload 7, 2) := by decide +kernel
theorem dX5_needsCertificateAfter_47 : decode cX5_needsCertificateAfter 47 = .ok (.iload_n 1, 1) := by decide +kernel
theorem dX5_needsCertificateAfter_48 : decode cX5_needsCertificateAfter 48 = .ok (.invokevirtual 114, 3) := by decide +kernel
theorem dX5_needsCertificateAfter_51 : decode cX5_needsCertificateAfter 51 = .ok (.iload_n 2, 1) := by decide +kernel
theorem dX5_needsCertificateAfter_52 : decode cX5_needsCertificateAfter 52 = .ok (.if_icmp .ne 5, 3) := by decide +kernel
theorem dX5_needsCertificateAfter_55 : decode cX5_needsCertificateAfter 55 = .ok (.iconst 1, 1) := by decide +kernel
theorem dX5_needsCertificateAfter_56 : decode cX5_needsCertificateAfter 56 = .ok (.ireturn, 1) := by decide +kernel
theorem dX5_needsCertificateAfter_57 : decode cX5_needsCertificateAfter 57 = .ok (.iinc 6 1, 3) := by decide +kernel
theorem dX5_needsCertificateAfter_60 : decode cX5_needsCertificateAfter 60 = .ok (.goto (-46), 3) := by decide +kernel
theorem dX5_needsCertificateAfter_63 : decode cX5_needsCertificateAfter 63 = .ok (.iconst 0, 1) := by decide +kernel
theorem dX5_needsCertificateAfter_64 : decode cX5_needsCertificateAfter 64 = .ok (.ireturn, 1) := by decide +kernel
set_option maxRecDepth 20000 in
theorem wc_X4_isOpen : Cond.code yX4_isOpen cX4_isOpen 1 (some .boolean) ∈ zB := List.mem_filter.mpr ⟨List.mem_of_getElem? (i := 350) (by decide +kernel), by decide +kernel⟩
set_option maxRecDepth 20000 in
theorem wm_X5_108 : Cond.methodLink RX5 108 yX4_isOpen ∈ zB := List.mem_filter.mpr ⟨List.mem_of_getElem? (i := 347) (by decide +kernel), by decide +kernel⟩
theorem k_X5_108 : zCal RX5 108 yX4_isOpen cX4_isOpen 1 (some .boolean) 0 := ⟨wm_X5_108, wi_X4, wc_X4_isOpen, by decide +kernel, by decide +kernel, by decide +kernel⟩
set_option maxRecDepth 20000 in
theorem wn_X4_isOpen : Cond.instanceMethod yX4_isOpen ∈ zB := List.mem_filter.mpr ⟨List.mem_of_getElem? (i := 348) (by decide +kernel), by decide +kernel⟩
set_option maxRecDepth 20000 in
theorem ws_X4_isOpen : Cond.selects RX4 yX4_isOpen yX4_isOpen ∈ zB := List.mem_filter.mpr ⟨List.mem_of_getElem? (i := 349) (by decide +kernel), by decide +kernel⟩
theorem v_X4_isOpen : zVir yX4_isOpen 4 := ⟨wn_X4_isOpen, ws_X4_isOpen, TX4, 9, rfl⟩
set_option maxRecDepth 20000 in
theorem wf_X5_111 : Cond.fieldLink RX5 111 RX4 "end" "I" ∈ zB := List.mem_filter.mpr ⟨List.mem_of_getElem? (i := 82) (by decide +kernel), by decide +kernel⟩
theorem q_X5_111 : zFld RX5 111 4 3 := ⟨RX4, TX4, 9, rfl, by decide, iX4, wf_X5_111, rfl⟩
set_option maxRecDepth 20000 in
theorem wm_X5_114 : Cond.methodLink RX5 114 yX4_roleOf ∈ zB := List.mem_filter.mpr ⟨List.mem_of_getElem? (i := 637) (by decide +kernel), by decide +kernel⟩
theorem k_X5_114 : zCal RX5 114 yX4_roleOf cX4_roleOf 2 (some .int) 1 := ⟨wm_X5_114, wi_X4, wc_X4_roleOf, by decide +kernel, by decide +kernel, by decide +kernel⟩
def rm_X5_needsCertificateAfter : Room := { frames := 2, cells := 0, slots := 0, locals := 41 }
set_option maxHeartbeats 4000000 in
set_option maxRecDepth 20000 in
theorem t_X5_needsCertificateAfter_57 {p : Program} {l : Launch} {e : Env} {s : State} {m : MethodId} {args : Array Value} {below : List Frame} {meth : Method} {c : Code} {G : zG} (Z : zF p s m args c meth cX5_needsCertificateAfter 8 RX5 G) (hr : meth.sig.returnType = (some .boolean)) {out : Int32 × zHp} {r14 : Int32 → Int32 → Int32 → Nat → Int32 → Int32 → zHp → Option (Int32 × zHp)} (k14 : ∀ {a1 : Int32} {a2 : Int32} {a3 : Int32} {a4 : Nat} {a5 : Int32} {a6 : Int32} {h : zHp} {H : Heap} {locs : List Loc} {ls : Array Slot}, r14 a1 a2 a3 a4 a5 a6 h = some out → zE G s h H locs → lv_has ls 8 [(1, .int a1), (2, .int a2), (3, .int a3), (4, .ref a4), (5, .int a5), (6, .int a6)] → W p l e rm_X5_needsCertificateAfter s m args below meth c H locs 0 0 (MQ below (zQi G out.1 out.2) args s 0 0 (zA G)) (F0 m 14 ls [])) {a1 : Int32} {a2 : Int32} {a3 : Int32} {a4 : Nat} {a5 : Int32} {a6 : Int32} {h : zHp} {H : Heap} {locs : List Loc} {ls : Array Slot} (hf : f_X5_needsCertificateAfter_57 r14 a1 a2 a3 a4 a5 a6 h = some out) (E : zE G s h H locs) (hl : lv_has ls 8 [(1, .int a1), (2, .int a2), (3, .int a3), (4, .ref a4), (5, .int a5), (6, .int a6)]) : W p l e rm_X5_needsCertificateAfter s m args below meth c H locs 0 0 (MQ below (zQi G out.1 out.2) args s 0 0 (zA G)) (F0 m 57 ls []) := by
  unfold f_X5_needsCertificateAfter_57 at hf
  refine lv_iinc (v := (a6 + 1)) (lv' := [(6, .int (a6 + 1)), (1, .int a1), (2, .int a2), (3, .int a3), (4, .ref a4), (5, .int a5)]) Z.x Z.b dX5_needsCertificateAfter_57 hl (k := 5) rfl rfl (by decide) rfl (fun ls hl => ?_)
  refine lv_goto (tgt := 14) Z.x Z.b dX5_needsCertificateAfter_60 (by decide) ?_
  exact k14 hf E (lv_sub hl [1, 2, 3, 4, 5, 0] rfl)
set_option maxHeartbeats 4000000 in
set_option maxRecDepth 20000 in
theorem t_X5_needsCertificateAfter_14_body {p : Program} {l : Launch} {e : Env} {s : State} {m : MethodId} {args : Array Value} {below : List Frame} {meth : Method} {c : Code} {G : zG} (Z : zF p s m args c meth cX5_needsCertificateAfter 8 RX5 G) (hr : meth.sig.returnType = (some .boolean)) {out : Int32 × zHp} {r14 : Int32 → Int32 → Int32 → Nat → Int32 → Int32 → zHp → Option (Int32 × zHp)} (k14 : ∀ {a1 : Int32} {a2 : Int32} {a3 : Int32} {a4 : Nat} {a5 : Int32} {a6 : Int32} {h : zHp} {H : Heap} {locs : List Loc} {ls : Array Slot}, r14 a1 a2 a3 a4 a5 a6 h = some out → zE G s h H locs → lv_has ls 8 [(1, .int a1), (2, .int a2), (3, .int a3), (4, .ref a4), (5, .int a5), (6, .int a6)] → W p l e rm_X5_needsCertificateAfter s m args below meth c H locs 0 0 (MQ below (zQi G out.1 out.2) args s 0 0 (zA G)) (F0 m 14 ls [])) {a1 : Int32} {a2 : Int32} {a3 : Int32} {a4 : Nat} {a5 : Int32} {a6 : Int32} {h : zHp} {H : Heap} {locs : List Loc} {ls : Array Slot} (hf : f_X5_needsCertificateAfter_14_body r14 a1 a2 a3 a4 a5 a6 h = some out) (E : zE G s h H locs) (hl : lv_has ls 8 [(1, .int a1), (2, .int a2), (3, .int a3), (4, .ref a4), (5, .int a5), (6, .int a6)]) : W p l e rm_X5_needsCertificateAfter s m args below meth c H locs 0 0 (MQ below (zQi G out.1 out.2) args s 0 0 (zA G)) (F0 m 14 ls []) := by
  unfold f_X5_needsCertificateAfter_14_body at hf
  refine lv_iload Z.x Z.b dX5_needsCertificateAfter_14 (lv_at hl 5 rfl) ?_
  refine lv_iload Z.x Z.b dX5_needsCertificateAfter_16 (lv_at hl 4 rfl) ?_
  refine lv_icmp_ge (tgt := 63) Z.x Z.b dX5_needsCertificateAfter_18 (by decide) (fun c => ?_) (fun c => ?_)
  · have hf := zit hf c
    refine lv_iconst (v := 0) Z.x Z.b dX5_needsCertificateAfter_63 (by decide) ?_
    exact z_zret Z E hr dX5_needsCertificateAfter_64 hf
  · have hf := zif_ hf c
    refine lv_aload Z.x Z.b dX5_needsCertificateAfter_21 (lv_at hl 3 rfl) ?_
    refine lv_iload Z.x Z.b dX5_needsCertificateAfter_23 (lv_at hl 5 rfl) ?_
    refine z_aald (kd := 2) Z E rfl dX5_needsCertificateAfter_25 hf (fun v1 hf => ?_)
    refine lv_astore (lv' := [(7, .ref v1), (1, .int a1), (2, .int a2), (3, .int a3), (4, .ref a4), (5, .int a5), (6, .int a6)]) Z.x Z.b dX5_needsCertificateAfter_26 hl (by decide) rfl (fun ls hl => ?_)
    refine lv_aload Z.x Z.b dX5_needsCertificateAfter_28 (lv_at hl 0 rfl) ?_
    refine z_Vi (As := []) Z E hl.1 k_X5_108 v_X4_isOpen hf (fun r h' e => c_X4_isOpen l G h h' v1 r e) rfl rfl (Nat.le_of_ble_eq_true rfl) (zRm_of rfl (Nat.zero_le _) (Nat.zero_le _)) dX5_needsCertificateAfter_30 (fun v2 h3 H locs hf E => ?_)
    refine lv_if_eq (tgt := 57) Z.x Z.b dX5_needsCertificateAfter_33 (by decide) (fun c => ?_) (fun c => ?_)
    · have hf := zit hf c
      exact t_X5_needsCertificateAfter_57 Z hr k14 hf E (lv_sub hl [1, 2, 3, 4, 5, 6] rfl)
    · have hf := zif_ hf c
      refine lv_aload Z.x Z.b dX5_needsCertificateAfter_36 (lv_at hl 0 rfl) ?_
      refine z_getI Z E q_X5_111 dX5_needsCertificateAfter_38 hf (fun v4 hf => ?_)
      refine lv_iload_n Z.x Z.b dX5_needsCertificateAfter_41 rfl (lv_at hl 3 rfl) ?_
      refine lv_icmp_le (tgt := 57) Z.x Z.b dX5_needsCertificateAfter_42 (by decide) (fun c => ?_) (fun c => ?_)
      · have hf := zit hf c
        exact t_X5_needsCertificateAfter_57 Z hr k14 hf E (lv_sub hl [1, 2, 3, 4, 5, 6] rfl)
      · have hf := zif_ hf c
        refine lv_aload Z.x Z.b dX5_needsCertificateAfter_45 (lv_at hl 0 rfl) ?_
        refine lv_iload_n Z.x Z.b dX5_needsCertificateAfter_47 rfl (lv_at hl 1 rfl) ?_
        refine z_Vi (As := [.int a1]) Z E hl.1 k_X5_114 v_X4_roleOf hf (fun r h' e => c_X4_roleOf l G h3 h' v1 a1 r e) rfl rfl (Nat.le_of_ble_eq_true rfl) (zRm_of rfl (Nat.zero_le _) (Nat.zero_le _)) dX5_needsCertificateAfter_48 (fun v5 h6 H locs hf E => ?_)
        refine lv_iload_n Z.x Z.b dX5_needsCertificateAfter_51 rfl (lv_at hl 2 rfl) ?_
        refine lv_icmp_ne (tgt := 57) Z.x Z.b dX5_needsCertificateAfter_52 (by decide) (fun c => ?_) (fun c => ?_)
        · have hf := zif_ hf c
          exact t_X5_needsCertificateAfter_57 Z hr k14 hf E (lv_sub hl [1, 2, 3, 4, 5, 6] rfl)
        · have hf := zit hf c
          refine lv_iconst (v := 1) Z.x Z.b dX5_needsCertificateAfter_55 (by decide) ?_
          exact z_zret Z E hr dX5_needsCertificateAfter_56 hf
theorem t_X5_needsCertificateAfter_14 {p : Program} {l : Launch} {e : Env} {s : State} {m : MethodId} {args : Array Value} {below : List Frame} {meth : Method} {c : Code} {G : zG} (Z : zF p s m args c meth cX5_needsCertificateAfter 8 RX5 G) (hr : meth.sig.returnType = (some .boolean)) {out : Int32 × zHp} : ∀ (n : Nat), ∀ {a1 : Int32} {a2 : Int32} {a3 : Int32} {a4 : Nat} {a5 : Int32} {a6 : Int32} {h : zHp} {H : Heap} {locs : List Loc} {ls : Array Slot}, f_X5_needsCertificateAfter_14 n a1 a2 a3 a4 a5 a6 h = some out → zE G s h H locs → lv_has ls 8 [(1, .int a1), (2, .int a2), (3, .int a3), (4, .ref a4), (5, .int a5), (6, .int a6)] → W p l e rm_X5_needsCertificateAfter s m args below meth c H locs 0 0 (MQ below (zQi G out.1 out.2) args s 0 0 (zA G)) (F0 m 14 ls [])
  | 0 => fun hf => by cases hf
  | n + 1 => fun hf E hl => t_X5_needsCertificateAfter_14_body Z hr (r14 := f_X5_needsCertificateAfter_14 n) (t_X5_needsCertificateAfter_14 Z hr n) hf E hl
set_option maxHeartbeats 4000000 in
set_option maxRecDepth 20000 in
theorem t_X5_needsCertificateAfter {p : Program} {l : Launch} {e : Env} {s : State} {m : MethodId} {args : Array Value} {below : List Frame} {meth : Method} {c : Code} {G : zG} (Z : zF p s m args c meth cX5_needsCertificateAfter 8 RX5 G) (hr : meth.sig.returnType = (some .boolean)) {out : Int32 × zHp} {a0 : Nat} {a1 : Int32} {a2 : Int32} {a3 : Int32} {h : zHp} {H : Heap} {locs : List Loc} {ls : Array Slot} (hf : f_X5_needsCertificateAfter a0 a1 a2 a3 h = some out) (E : zE G s h H locs) (hl : lv_has ls 8 [(0, .ref a0), (1, .int a1), (2, .int a2), (3, .int a3)]) : W p l e rm_X5_needsCertificateAfter s m args below meth c H locs 0 0 (MQ below (zQi G out.1 out.2) args s 0 0 (zA G)) (F0 m 0 ls []) := by
  unfold f_X5_needsCertificateAfter at hf
  refine lv_aload_n Z.x Z.b dX5_needsCertificateAfter_0 rfl (lv_at hl 0 rfl) ?_
  refine z_getR Z E q_X5_17 dX5_needsCertificateAfter_1 hf (fun v1 hf => ?_)
  refine lv_astore (lv' := [(4, .ref v1), (0, .ref a0), (1, .int a1), (2, .int a2), (3, .int a3)]) Z.x Z.b dX5_needsCertificateAfter_4 hl (by decide) rfl (fun ls hl => ?_)
  refine lv_aload Z.x Z.b dX5_needsCertificateAfter_6 (lv_at hl 0 rfl) ?_
  refine z_alenR (kd := 2) Z E rfl dX5_needsCertificateAfter_8 hf (fun v2 hf => ?_)
  refine lv_istore (lv' := [(5, .int v2), (4, .ref v1), (0, .ref a0), (1, .int a1), (2, .int a2), (3, .int a3)]) Z.x Z.b dX5_needsCertificateAfter_9 hl (by decide) rfl (fun ls hl => ?_)
  refine lv_iconst (v := 0) Z.x Z.b dX5_needsCertificateAfter_11 (by decide) ?_
  refine lv_istore (lv' := [(6, .int 0), (5, .int v2), (4, .ref v1), (0, .ref a0), (1, .int a1), (2, .int a2), (3, .int a3)]) Z.x Z.b dX5_needsCertificateAfter_12 hl (by decide) rfl (fun ls hl => ?_)
  exact t_X5_needsCertificateAfter_14 Z hr zN hf E (lv_sub hl [4, 5, 6, 2, 1, 0] rfl)
set_option maxHeartbeats 4000000 in
set_option maxRecDepth 20000 in
theorem c_X5_needsCertificateAfter (l : Launch) (G : zG) (h : zHp) (h' : zHp) (a0 : Nat) (a1 : Int32) (a2 : Int32) (a3 : Int32) (r : Int32) (hf : f_X5_needsCertificateAfter a0 a1 a2 a3 h = some (r, h')) : zM0 l yX5_needsCertificateAfter cX5_needsCertificateAfter 8 (some .boolean) rm_X5_needsCertificateAfter G [.ref a0, .int a1, .int a2, .int a3] h (zQi G r h') := by
  refine Met.ofW (cc := cX5_needsCertificateAfter) (maxL := 8) (ret := (some .boolean)) (by decide) rfl ?_
  intro p e s m args below meth c s₁ B hml hv
  obtain ⟨rfl, hW⟩ := hv
  obtain ⟨Z, E, hr⟩ := zEnter (own := RX5) B hml rfl hW
  have hl := lv_entry ([.ref a0, .int a1, .int a2, .int a3]) (n := 8) (Nat.le_of_ble_eq_true rfl)
  rw [lg_entry_eq]
  generalize (lg_sl ([.ref a0, .int a1, .int a2, .int a3]) ++ List.replicate (8 - (lg_sl ([.ref a0, .int a1, .int a2, .int a3])).length) Slot.unset).toArray = ls at hl ⊢
  have hl : lv_has ls 8 [(0, .ref a0), (1, .int a1), (2, .int a2), (3, .int a3)] := hl
  exact t_X5_needsCertificateAfter (out := (r, h')) Z hr hf E hl
