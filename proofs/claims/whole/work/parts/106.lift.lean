/-! FerryCrewsModel.sickNow(II)I -/
theorem dX8_sickNow_0 : decode cX8_sickNow 0 = .ok (.aload_n 0, 1) := by decide +kernel
theorem dX8_sickNow_1 : decode cX8_sickNow 1 = .ok (.getfield 7, 3) := by decide +kernel
theorem dX8_sickNow_4 : decode cX8_sickNow 4 = .ok (.iconst 0, 1) := by decide +kernel
theorem dX8_sickNow_5 : decode cX8_sickNow 5 = .ok (.iaload, 1) := by decide +kernel
theorem dX8_sickNow_6 : decode cX8_sickNow 6 = .ok (.iload_n 2, 1) := by decide +kernel
theorem dX8_sickNow_7 : decode cX8_sickNow 7 = .ok (.iadd, 1) := by decide +kernel
theorem dX8_sickNow_8 : decode cX8_sickNow 8 = .ok (.istore_n 3, 1) := by decide +kernel
theorem dX8_sickNow_9 : decode cX8_sickNow 9 = .ok (.aload_n 0, 1) := by decide +kernel
theorem dX8_sickNow_10 : decode cX8_sickNow 10 = .ok (.iload_n 1, 1) := by decide +kernel
theorem dX8_sickNow_11 : decode cX8_sickNow 11 = .ok (.iconst 4, 1) := by decide +kernel
theorem dX8_sickNow_12 : decode cX8_sickNow 12 = .ok (.iload_n 3, 1) := by decide +kernel
theorem dX8_sickNow_13 : decode cX8_sickNow 13 = .ok (.invokevirtual 104, 3) := by decide +kernel
theorem dX8_sickNow_16 : decode cX8_sickNow 16 = .ok (.iconst 0, 1) := by decide +kernel
theorem dX8_sickNow_17 : decode cX8_sickNow 17 = .ok (.istore 4, 2) := by decide +kernel
theorem dX8_sickNow_19 : decode cX8_sickNow 19 = .ok (.iload 4, 2) := by decide +kernel
theorem dX8_sickNow_21 : decode cX8_sickNow 21 = .ok (.aload_n 0, 1) := by decide +kernel
theorem dX8_sickNow_22 : decode cX8_sickNow 22 = .ok (.getfield 7, 3) := by decide +kernel
theorem dX8_sickNow_25 : decode cX8_sickNow 25 = .ok (.iconst 1, 1) := by decide +kernel
theorem dX8_sickNow_26 : decode cX8_sickNow 26 = .ok (.iaload, 1) := by decide +kernel
theorem dX8_sickNow_27 : decode cX8_sickNow 27 = .ok (.if_icmp .ge 99, 3) := by decide +kernel
theorem dX8_sickNow_30 : decode cX8_sickNow 30 = .ok (.aload_n 0, 1) := by decide +kernel
theorem dX8_sickNow_31 : decode cX8_sickNow 31 = .ok (.iload 4, 2) := by decide +kernel
theorem dX8_sickNow_33 : decode cX8_sickNow 33 = .ok (.iconst 0, 1) := by decide +kernel
theorem dX8_sickNow_34 : decode cX8_sickNow 34 = .ok (.invokevirtual 62, 3) := by decide +kernel
theorem dX8_sickNow_37 : decode cX8_sickNow 37 = .ok (.ifCond .eq 44, 3) := by decide +kernel
theorem dX8_sickNow_40 : decode cX8_sickNow 40 = .ok (.aload_n 0, 1) := by decide +kernel
theorem dX8_sickNow_41 : decode cX8_sickNow 41 = .ok (.iload 4, 2) := by decide +kernel
theorem dX8_sickNow_43 : decode cX8_sickNow 43 = .ok (.iconst 2, 1) := by decide +kernel
theorem dX8_sickNow_44 : decode cX8_sickNow 44 = .ok (.invokevirtual 38, 3) := by decide +kernel
theorem dX8_sickNow_47 : decode cX8_sickNow 47 = .ok (.aload_n 0, 1) := by decide +kernel
theorem dX8_sickNow_48 : decode cX8_sickNow 48 = .ok (.getfield 7, 3) := by decide +kernel
theorem dX8_sickNow_51 : decode cX8_sickNow 51 = .ok (.iconst 0, 1) := by decide +kernel
theorem dX8_sickNow_52 : decode cX8_sickNow 52 = .ok (.iaload, 1) := by decide +kernel
theorem dX8_sickNow_53 : decode cX8_sickNow 53 = .ok (.if_icmp .lt 28, 3) := by decide +kernel
theorem dX8_sickNow_56 : decode cX8_sickNow 56 = .ok (.aload_n 0, 1) := by decide +kernel
theorem dX8_sickNow_57 : decode cX8_sickNow 57 = .ok (.iload 4, 2) := by decide +kernel
theorem dX8_sickNow_59 : decode cX8_sickNow 59 = .ok (.iconst 2, 1) := by decide +kernel
theorem dX8_sickNow_60 : decode cX8_sickNow 60 = .ok (.invokevirtual 38, 3) := by decide +kernel
theorem dX8_sickNow_63 : decode cX8_sickNow 63 = .ok (.iload_n 3, 1) := by decide +kernel
theorem dX8_sickNow_64 : decode cX8_sickNow 64 = .ok (.if_icmp .ge 17, 3) := by decide +kernel
theorem dX8_sickNow_67 : decode cX8_sickNow 67 = .ok (.aload_n 0, 1) := by decide +kernel
theorem dX8_sickNow_68 : decode cX8_sickNow 68 = .ok (.iload 4, 2) := by decide +kernel
theorem dX8_sickNow_70 : decode cX8_sickNow 70 = .ok (.iload_n 1, 1) := by decide +kernel
theorem dX8_sickNow_71 : decode cX8_sickNow 71 = .ok (.invokevirtual 46, 3) := by decide +kernel
theorem dX8_sickNow_74 : decode cX8_sickNow 74 = .ok (.ifCond .le 7, 3) := by decide +kernel
theorem dX8_sickNow_77 : decode cX8_sickNow 77 = .ok (.iconst 1, 1) := by decide +kernel
theorem dX8_sickNow_78 : decode cX8_sickNow 78 = .ok (.goto 4, 3) := by decide +kernel
theorem dX8_sickNow_81 : decode cX8_sickNow 81 = .ok (.iconst 0, 1) := by decide +kernel
theorem dX8_sickNow_82 : decode cX8_sickNow 82 = .ok (.istore 5, 2) := by decide +kernel
theorem dX8_sickNow_84 : decode cX8_sickNow 84 = .ok (.aload_n 0, 1) := by decide +kernel
theorem dX8_sickNow_85 : decode cX8_sickNow 85 = .ok (.getfield 31, 3) := by decide +kernel
theorem dX8_sickNow_88 : decode cX8_sickNow 88 = .ok (.iload 4, 2) := by decide +kernel
theorem dX8_sickNow_90 : decode cX8_sickNow 90 = .ok (.iload 5, 2) := by decide +kernel
theorem dX8_sickNow_92 : decode cX8_sickNow 92 = .ok (.ifCond .eq 13, 3) := by decide +kernel
theorem dX8_sickNow_95 : decode cX8_sickNow 95 = .ok (.aload_n 0, 1) := by decide +kernel
theorem dX8_sickNow_96 : decode cX8_sickNow 96 = .ok (.iload 4, 2) := by decide +kernel
theorem dX8_sickNow_98 : decode cX8_sickNow 98 = .ok (.iload_n 1, 1) := by decide +kernel
theorem dX8_sickNow_99 : decode cX8_sickNow 99 = .ok (.invokevirtual 46, 3) := by decide +kernel
theorem dX8_sickNow_102 : decode cX8_sickNow 102 = .ok (.goto 4, 3) := by decide +kernel
theorem dX8_sickNow_105 : decode cX8_sickNow 105 = .ok (.iconst 0, 1) := by decide +kernel
theorem dX8_sickNow_106 : decode cX8_sickNow 106 = .ok (.iastore, 1) := by decide +kernel
theorem dX8_sickNow_107 : decode cX8_sickNow 107 = .ok (.iload 5, 2) := by decide +kernel
theorem dX8_sickNow_109 : decode cX8_sickNow 109 = .ok (.ifCond .eq 11, 3) := by decide +kernel
theorem dX8_sickNow_112 : decode cX8_sickNow 112 = .ok (.aload_n 0, 1) := by decide +kernel
theorem dX8_sickNow_113 : decode cX8_sickNow 113 = .ok (.iload 4, 2) := by decide +kernel
theorem dX8_sickNow_115 : decode cX8_sickNow 115 = .ok (.iload_n 1, 1) := by decide +kernel
theorem dX8_sickNow_116 : decode cX8_sickNow 116 = .ok (.iconst 0, 1) := by decide +kernel
theorem dX8_sickNow_117 : decode cX8_sickNow 117 = .ok (.invokevirtual 93, 3) := by decide +kernel
theorem dX8_sickNow_120 : decode cX8_sickNow 120 = .ok (.iinc 4 1, 3) := by decide +kernel
theorem dX8_sickNow_123 : decode cX8_sickNow 123 = .ok (.goto (-104), 3) := by decide +kernel
theorem dX8_sickNow_126 : decode cX8_sickNow 126 = .ok (.iconst 0, 1) := by decide +kernel
theorem dX8_sickNow_127 : decode cX8_sickNow 127 = .ok (.istore 4, 2) := by decide +kernel
theorem dX8_sickNow_129 : decode cX8_sickNow 129 = .ok (.aload_n 0, 1) := by decide +kernel
theorem dX8_sickNow_130 : decode cX8_sickNow 130 = .ok (.getfield 7, 3) := by decide +kernel
theorem dX8_sickNow_133 : decode cX8_sickNow 133 = .ok (.iconst 0, 1) := by decide +kernel
theorem dX8_sickNow_134 : decode cX8_sickNow 134 = .ok (.iaload, 1) := by decide +kernel
theorem dX8_sickNow_135 : decode cX8_sickNow 135 = .ok (.istore 5, 2) := by decide +kernel
theorem dX8_sickNow_137 : decode cX8_sickNow 137 = .ok (.iload 5, 2) := by decide +kernel
theorem dX8_sickNow_139 : decode cX8_sickNow 139 = .ok (.iload_n 3, 1) := by decide +kernel
theorem dX8_sickNow_140 : decode cX8_sickNow 140 = .ok (.if_icmp .ge 79, 3) := by decide +kernel
theorem dX8_sickNow_143 : decode cX8_sickNow 143 = .ok (.iconst 0, 1) := by decide +kernel
theorem dX8_sickNow_144 : decode cX8_sickNow 144 = .ok (.istore 6, 2) := by decide +kernel
theorem dX8_sickNow_146 : decode cX8_sickNow 146 = .ok (.iload 6, 2) := by decide +kernel
theorem dX8_sickNow_148 : decode cX8_sickNow 148 = .ok (.aload_n 0, 1) := by decide +kernel
theorem dX8_sickNow_149 : decode cX8_sickNow 149 = .ok (.getfield 7, 3) := by decide +kernel
theorem dX8_sickNow_152 : decode cX8_sickNow 152 = .ok (.iconst 1, 1) := by decide +kernel
theorem dX8_sickNow_153 : decode cX8_sickNow 153 = .ok (.iaload, 1) := by decide +kernel
theorem dX8_sickNow_154 : decode cX8_sickNow 154 = .ok (.if_icmp .ge 59, 3) := by decide +kernel
theorem dX8_sickNow_157 : decode cX8_sickNow 157 = .ok (.aload_n 0, 1) := by decide +kernel
theorem dX8_sickNow_158 : decode cX8_sickNow 158 = .ok (.getfield 31, 3) := by decide +kernel
theorem dX8_sickNow_161 : decode cX8_sickNow 161 = .ok (.iload 6, 2) := by decide +kernel
theorem dX8_sickNow_163 : decode cX8_sickNow 163 = .ok (.iaload, 1) := by decide +kernel
theorem dX8_sickNow_164 : decode cX8_sickNow 164 = .ok (.ifCond .le 43, 3) := by decide +kernel
theorem dX8_sickNow_167 : decode cX8_sickNow 167 = .ok (.aload_n 0, 1) := by decide +kernel
theorem dX8_sickNow_168 : decode cX8_sickNow 168 = .ok (.iload 6, 2) := by decide +kernel
theorem dX8_sickNow_170 : decode cX8_sickNow 170 = .ok (.iconst 2, 1) := by decide +kernel
theorem dX8_sickNow_171 : decode cX8_sickNow 171 = .ok (.invokevirtual 38, 3) := by decide +kernel
theorem dX8_sickNow_174 : decode cX8_sickNow 174 = .ok (.iload 5, 2) := by decide +kernel
theorem dX8_sickNow_176 : decode cX8_sickNow 176 = .ok (.if_icmp .ne 31, 3) := by decide +kernel
theorem dX8_sickNow_179 : decode cX8_sickNow 179 = .ok (.iload 4, 2) := by decide +kernel
theorem dX8_sickNow_181 : decode cX8_sickNow 181 = .ok (.aload_n 0, 1) := by decide +kernel
theorem dX8_sickNow_182 : decode cX8_sickNow 182 = .ok (.iload 6, 2) := by decide +kernel
theorem dX8_sickNow_184 : decode cX8_sickNow 184 = .ok (.aload_n 0, 1) := by decide +kernel
theorem dX8_sickNow_185 : decode cX8_sickNow 185 = .ok (.getfield 31, 3) := by decide +kernel
theorem dX8_sickNow_188 : decode cX8_sickNow 188 = .ok (.iload 6, 2) := by decide +kernel
theorem dX8_sickNow_190 : decode cX8_sickNow 190 = .ok (.iaload, 1) := by decide +kernel
theorem dX8_sickNow_191 : decode cX8_sickNow 191 = .ok (.iconst 1, 1) := by decide +kernel
theorem dX8_sickNow_192 : decode cX8_sickNow 192 = .ok (.isub, 1) := by decide +kernel
theorem dX8_sickNow_193 : decode cX8_sickNow 193 = .ok (.invokevirtual 113, 3) := by decide +kernel
theorem dX8_sickNow_196 : decode cX8_sickNow 196 = .ok (.ifCond .eq 7, 3) := by decide +kernel
theorem dX8_sickNow_199 : decode cX8_sickNow 199 = .ok (.iconst 0, 1) := by decide +kernel
theorem dX8_sickNow_200 : decode cX8_sickNow 200 = .ok (.goto 4, 3) := by decide +kernel
theorem dX8_sickNow_203 : decode cX8_sickNow 203 = .ok (.iconst 1, 1) := by decide +kernel
theorem dX8_sickNow_204 : decode cX8_sickNow 204 = .ok (.iadd, 1) := by decide +kernel
theorem dX8_sickNow_205 : decode cX8_sickNow 205 = .ok (.istore 4, 2) := by decide +kernel
theorem dX8_sickNow_207 : decode cX8_sickNow 207 = .ok (.iinc 6 1, 3) := by decide +kernel
theorem dX8_sickNow_210 : decode cX8_sickNow 210 = .ok (.goto (-64), 3) := by decide +kernel
theorem dX8_sickNow_213 : decode cX8_sickNow 213 = .ok (.iinc 5 1, 3) := by decide +kernel
theorem dX8_sickNow_216 : decode cX8_sickNow 216 = .ok (.goto (-79), 3) := by decide +kernel
theorem dX8_sickNow_219 : decode cX8_sickNow 219 = .ok (.iload 4, 2) := by decide +kernel
theorem dX8_sickNow_221 : decode cX8_sickNow 221 = .ok (.ireturn, 1) := by decide +kernel
theorem q_X8_31 : zFld RX8 31 8 7 := ⟨RX8, TX8, 12, rfl, by decide, iX8, wf_X8_31, rfl⟩
set_option maxRecDepth 20000 in
theorem wc_X8_cover : Cond.code yX8_cover cX8_cover 5 (some .boolean) ∈ zB := List.mem_filter.mpr ⟨List.mem_of_getElem? (i := 991) (by decide +kernel), by decide +kernel⟩
set_option maxRecDepth 20000 in
theorem wm_X8_113 : Cond.methodLink RX8 113 yX8_cover ∈ zB := List.mem_filter.mpr ⟨List.mem_of_getElem? (i := 988) (by decide +kernel), by decide +kernel⟩
theorem k_X8_113 : zCal RX8 113 yX8_cover cX8_cover 5 (some .boolean) 2 := ⟨wm_X8_113, wi_X8, wc_X8_cover, by decide +kernel, by decide +kernel, by decide +kernel⟩
set_option maxRecDepth 20000 in
theorem wn_X8_cover : Cond.instanceMethod yX8_cover ∈ zB := List.mem_filter.mpr ⟨List.mem_of_getElem? (i := 990) (by decide +kernel), by decide +kernel⟩
set_option maxRecDepth 20000 in
theorem ws_X8_cover : Cond.selects RX8 yX8_cover yX8_cover ∈ zB := List.mem_filter.mpr ⟨List.mem_of_getElem? (i := 39) (by decide +kernel), by decide +kernel⟩
theorem v_X8_cover : zVir yX8_cover 8 := ⟨wn_X8_cover, ws_X8_cover, TX8, 12, rfl⟩
def rm_X8_sickNow : Room := { frames := 8, cells := 0, slots := 0, locals := 184 }
set_option maxHeartbeats 4000000 in
set_option maxRecDepth 20000 in
theorem t_X8_sickNow_207 {p : Program} {l : Launch} {e : Env} {s : State} {m : MethodId} {args : Array Value} {below : List Frame} {meth : Method} {c : Code} {G : zG} (Z : zF p s m args c meth cX8_sickNow 7 RX8 G) (hr : meth.sig.returnType = (some .int)) {out : Int32 × zHp} {r137 : Nat → Int32 → Int32 → Int32 → zHp → Option (Int32 × zHp)} (k137 : ∀ {a0 : Nat} {a3 : Int32} {a4 : Int32} {a5 : Int32} {h : zHp} {H : Heap} {locs : List Loc} {ls : Array Slot}, r137 a0 a3 a4 a5 h = some out → zE G s h H locs → lv_has ls 7 [(0, .ref a0), (3, .int a3), (4, .int a4), (5, .int a5)] → W p l e rm_X8_sickNow s m args below meth c H locs 0 0 (MQ below (zQi G out.1 out.2) args s 0 0 (zA G)) (F0 m 137 ls [])) {r146 : Nat → Int32 → Int32 → Int32 → Int32 → zHp → Option (Int32 × zHp)} (k146 : ∀ {a0 : Nat} {a3 : Int32} {a4 : Int32} {a5 : Int32} {a6 : Int32} {h : zHp} {H : Heap} {locs : List Loc} {ls : Array Slot}, r146 a0 a3 a4 a5 a6 h = some out → zE G s h H locs → lv_has ls 7 [(0, .ref a0), (3, .int a3), (4, .int a4), (5, .int a5), (6, .int a6)] → W p l e rm_X8_sickNow s m args below meth c H locs 0 0 (MQ below (zQi G out.1 out.2) args s 0 0 (zA G)) (F0 m 146 ls [])) {a0 : Nat} {a3 : Int32} {a4 : Int32} {a5 : Int32} {a6 : Int32} {h : zHp} {H : Heap} {locs : List Loc} {ls : Array Slot} (hf : f_X8_sickNow_207 r137 r146 a0 a3 a4 a5 a6 h = some out) (E : zE G s h H locs) (hl : lv_has ls 7 [(0, .ref a0), (3, .int a3), (4, .int a4), (5, .int a5), (6, .int a6)]) : W p l e rm_X8_sickNow s m args below meth c H locs 0 0 (MQ below (zQi G out.1 out.2) args s 0 0 (zA G)) (F0 m 207 ls []) := by
  unfold f_X8_sickNow_207 at hf
  refine lv_iinc (v := (a6 + 1)) (lv' := [(6, .int (a6 + 1)), (0, .ref a0), (3, .int a3), (4, .int a4), (5, .int a5)]) Z.x Z.b dX8_sickNow_207 hl (k := 4) rfl rfl (by decide) rfl (fun ls hl => ?_)
  refine lv_goto (tgt := 146) Z.x Z.b dX8_sickNow_210 (by decide) ?_
  exact k146 hf E (lv_sub hl [1, 2, 3, 4, 0] rfl)
set_option maxHeartbeats 4000000 in
set_option maxRecDepth 20000 in
theorem t_X8_sickNow_204 {p : Program} {l : Launch} {e : Env} {s : State} {m : MethodId} {args : Array Value} {below : List Frame} {meth : Method} {c : Code} {G : zG} (Z : zF p s m args c meth cX8_sickNow 7 RX8 G) (hr : meth.sig.returnType = (some .int)) {out : Int32 × zHp} {r137 : Nat → Int32 → Int32 → Int32 → zHp → Option (Int32 × zHp)} (k137 : ∀ {a0 : Nat} {a3 : Int32} {a4 : Int32} {a5 : Int32} {h : zHp} {H : Heap} {locs : List Loc} {ls : Array Slot}, r137 a0 a3 a4 a5 h = some out → zE G s h H locs → lv_has ls 7 [(0, .ref a0), (3, .int a3), (4, .int a4), (5, .int a5)] → W p l e rm_X8_sickNow s m args below meth c H locs 0 0 (MQ below (zQi G out.1 out.2) args s 0 0 (zA G)) (F0 m 137 ls [])) {r146 : Nat → Int32 → Int32 → Int32 → Int32 → zHp → Option (Int32 × zHp)} (k146 : ∀ {a0 : Nat} {a3 : Int32} {a4 : Int32} {a5 : Int32} {a6 : Int32} {h : zHp} {H : Heap} {locs : List Loc} {ls : Array Slot}, r146 a0 a3 a4 a5 a6 h = some out → zE G s h H locs → lv_has ls 7 [(0, .ref a0), (3, .int a3), (4, .int a4), (5, .int a5), (6, .int a6)] → W p l e rm_X8_sickNow s m args below meth c H locs 0 0 (MQ below (zQi G out.1 out.2) args s 0 0 (zA G)) (F0 m 146 ls [])) {a0 : Nat} {a3 : Int32} {a5 : Int32} {a6 : Int32} {s0 : Int32} {s1 : Int32} {h : zHp} {H : Heap} {locs : List Loc} {ls : Array Slot} (hf : f_X8_sickNow_204 r137 r146 a0 a3 a5 a6 s0 s1 h = some out) (E : zE G s h H locs) (hl : lv_has ls 7 [(0, .ref a0), (3, .int a3), (5, .int a5), (6, .int a6)]) : W p l e rm_X8_sickNow s m args below meth c H locs 0 0 (MQ below (zQi G out.1 out.2) args s 0 0 (zA G)) (F0 m 204 ls [.int s0, .int s1]) := by
  unfold f_X8_sickNow_204 at hf
  refine lv_iadd Z.x Z.b dX8_sickNow_204 ?_
  refine lv_istore (lv' := [(4, .int (s1 + s0)), (0, .ref a0), (3, .int a3), (5, .int a5), (6, .int a6)]) Z.x Z.b dX8_sickNow_205 hl (by decide) rfl (fun ls hl => ?_)
  exact t_X8_sickNow_207 Z hr k137 k146 hf E (lv_sub hl [1, 2, 0, 3, 4] rfl)
set_option maxHeartbeats 4000000 in
set_option maxRecDepth 20000 in
theorem t_X8_sickNow_146_body {p : Program} {l : Launch} {e : Env} {s : State} {m : MethodId} {args : Array Value} {below : List Frame} {meth : Method} {c : Code} {G : zG} (Z : zF p s m args c meth cX8_sickNow 7 RX8 G) (hr : meth.sig.returnType = (some .int)) {out : Int32 × zHp} {r137 : Nat → Int32 → Int32 → Int32 → zHp → Option (Int32 × zHp)} (k137 : ∀ {a0 : Nat} {a3 : Int32} {a4 : Int32} {a5 : Int32} {h : zHp} {H : Heap} {locs : List Loc} {ls : Array Slot}, r137 a0 a3 a4 a5 h = some out → zE G s h H locs → lv_has ls 7 [(0, .ref a0), (3, .int a3), (4, .int a4), (5, .int a5)] → W p l e rm_X8_sickNow s m args below meth c H locs 0 0 (MQ below (zQi G out.1 out.2) args s 0 0 (zA G)) (F0 m 137 ls [])) {r146 : Nat → Int32 → Int32 → Int32 → Int32 → zHp → Option (Int32 × zHp)} (k146 : ∀ {a0 : Nat} {a3 : Int32} {a4 : Int32} {a5 : Int32} {a6 : Int32} {h : zHp} {H : Heap} {locs : List Loc} {ls : Array Slot}, r146 a0 a3 a4 a5 a6 h = some out → zE G s h H locs → lv_has ls 7 [(0, .ref a0), (3, .int a3), (4, .int a4), (5, .int a5), (6, .int a6)] → W p l e rm_X8_sickNow s m args below meth c H locs 0 0 (MQ below (zQi G out.1 out.2) args s 0 0 (zA G)) (F0 m 146 ls [])) {a0 : Nat} {a3 : Int32} {a4 : Int32} {a5 : Int32} {a6 : Int32} {h : zHp} {H : Heap} {locs : List Loc} {ls : Array Slot} (hf : f_X8_sickNow_146_body r137 r146 a0 a3 a4 a5 a6 h = some out) (E : zE G s h H locs) (hl : lv_has ls 7 [(0, .ref a0), (3, .int a3), (4, .int a4), (5, .int a5), (6, .int a6)]) : W p l e rm_X8_sickNow s m args below meth c H locs 0 0 (MQ below (zQi G out.1 out.2) args s 0 0 (zA G)) (F0 m 146 ls []) := by
  unfold f_X8_sickNow_146_body at hf
  refine lv_iload Z.x Z.b dX8_sickNow_146 (lv_at hl 4 rfl) ?_
  refine lv_aload_n Z.x Z.b dX8_sickNow_148 rfl (lv_at hl 0 rfl) ?_
  refine z_getR Z E q_X8_7 dX8_sickNow_149 hf (fun v1 hf => ?_)
  refine lv_iconst (v := 1) Z.x Z.b dX8_sickNow_152 (by decide) ?_
  refine z_iald Z E dX8_sickNow_153 hf (fun v2 hf => ?_)
  refine lv_icmp_ge (tgt := 213) Z.x Z.b dX8_sickNow_154 (by decide) (fun c => ?_) (fun c => ?_)
  · have hf := zit hf c
    refine lv_iinc (v := (a5 + 1)) (lv' := [(5, .int (a5 + 1)), (0, .ref a0), (3, .int a3), (4, .int a4), (6, .int a6)]) Z.x Z.b dX8_sickNow_213 hl (k := 3) rfl rfl (by decide) rfl (fun ls hl => ?_)
    refine lv_goto (tgt := 137) Z.x Z.b dX8_sickNow_216 (by decide) ?_
    exact k137 hf E (lv_sub hl [1, 2, 3, 0] rfl)
  · have hf := zif_ hf c
    refine lv_aload_n Z.x Z.b dX8_sickNow_157 rfl (lv_at hl 0 rfl) ?_
    refine z_getR Z E q_X8_31 dX8_sickNow_158 hf (fun v3 hf => ?_)
    refine lv_iload Z.x Z.b dX8_sickNow_161 (lv_at hl 4 rfl) ?_
    refine z_iald Z E dX8_sickNow_163 hf (fun v4 hf => ?_)
    refine lv_if_le (tgt := 207) Z.x Z.b dX8_sickNow_164 (by decide) (fun c => ?_) (fun c => ?_)
    · have hf := zit hf c
      exact t_X8_sickNow_207 Z hr k137 k146 hf E (lv_sub hl [0, 1, 2, 3, 4] rfl)
    · have hf := zif_ hf c
      refine lv_aload_n Z.x Z.b dX8_sickNow_167 rfl (lv_at hl 0 rfl) ?_
      refine lv_iload Z.x Z.b dX8_sickNow_168 (lv_at hl 4 rfl) ?_
      refine lv_iconst (v := 2) Z.x Z.b dX8_sickNow_170 (by decide) ?_
      refine z_Vi (As := [.int a6, .int 2]) Z E hl.1 k_X8_38 v_X8_of hf (fun r h' e => c_X8_of l G h h' a0 a6 2 r e) rfl rfl (Nat.le_of_ble_eq_true rfl) (zRm_of rfl (Nat.zero_le _) (Nat.zero_le _)) dX8_sickNow_171 (fun v5 h6 H locs hf E => ?_)
      refine lv_iload Z.x Z.b dX8_sickNow_174 (lv_at hl 3 rfl) ?_
      refine lv_icmp_ne (tgt := 207) Z.x Z.b dX8_sickNow_176 (by decide) (fun c => ?_) (fun c => ?_)
      · have hf := zif_ hf c
        exact t_X8_sickNow_207 Z hr k137 k146 hf E (lv_sub hl [0, 1, 2, 3, 4] rfl)
      · have hf := zit hf c
        refine lv_iload Z.x Z.b dX8_sickNow_179 (lv_at hl 2 rfl) ?_
        refine lv_aload_n Z.x Z.b dX8_sickNow_181 rfl (lv_at hl 0 rfl) ?_
        refine lv_iload Z.x Z.b dX8_sickNow_182 (lv_at hl 4 rfl) ?_
        refine lv_aload_n Z.x Z.b dX8_sickNow_184 rfl (lv_at hl 0 rfl) ?_
        refine z_getR Z E q_X8_31 dX8_sickNow_185 hf (fun v7 hf => ?_)
        refine lv_iload Z.x Z.b dX8_sickNow_188 (lv_at hl 4 rfl) ?_
        refine z_iald Z E dX8_sickNow_190 hf (fun v8 hf => ?_)
        refine lv_iconst (v := 1) Z.x Z.b dX8_sickNow_191 (by decide) ?_
        refine lv_isub Z.x Z.b dX8_sickNow_192 ?_
        refine z_Vi (As := [.int a6, .int (v8 - 1)]) Z E hl.1 k_X8_113 v_X8_cover hf (fun r h' e => c_X8_cover l G h6 h' a0 a6 (v8 - 1) r e) rfl rfl (Nat.le_of_ble_eq_true rfl) (zRm_of rfl (Nat.zero_le _) (Nat.zero_le _)) dX8_sickNow_193 (fun v9 h10 H locs hf E => ?_)
        refine lv_if_eq (tgt := 203) Z.x Z.b dX8_sickNow_196 (by decide) (fun c => ?_) (fun c => ?_)
        · have hf := zit hf c
          refine lv_iconst (v := 1) Z.x Z.b dX8_sickNow_203 (by decide) ?_
          exact t_X8_sickNow_204 Z hr k137 k146 hf E (lv_sub hl [0, 1, 3, 4] rfl)
        · have hf := zif_ hf c
          refine lv_iconst (v := 0) Z.x Z.b dX8_sickNow_199 (by decide) ?_
          refine lv_goto (tgt := 204) Z.x Z.b dX8_sickNow_200 (by decide) ?_
          exact t_X8_sickNow_204 Z hr k137 k146 hf E (lv_sub hl [0, 1, 3, 4] rfl)
theorem t_X8_sickNow_146 {p : Program} {l : Launch} {e : Env} {s : State} {m : MethodId} {args : Array Value} {below : List Frame} {meth : Method} {c : Code} {G : zG} (Z : zF p s m args c meth cX8_sickNow 7 RX8 G) (hr : meth.sig.returnType = (some .int)) {out : Int32 × zHp} {r137 : Nat → Int32 → Int32 → Int32 → zHp → Option (Int32 × zHp)} (k137 : ∀ {a0 : Nat} {a3 : Int32} {a4 : Int32} {a5 : Int32} {h : zHp} {H : Heap} {locs : List Loc} {ls : Array Slot}, r137 a0 a3 a4 a5 h = some out → zE G s h H locs → lv_has ls 7 [(0, .ref a0), (3, .int a3), (4, .int a4), (5, .int a5)] → W p l e rm_X8_sickNow s m args below meth c H locs 0 0 (MQ below (zQi G out.1 out.2) args s 0 0 (zA G)) (F0 m 137 ls [])) : ∀ (n : Nat), ∀ {a0 : Nat} {a3 : Int32} {a4 : Int32} {a5 : Int32} {a6 : Int32} {h : zHp} {H : Heap} {locs : List Loc} {ls : Array Slot}, f_X8_sickNow_146 r137 n a0 a3 a4 a5 a6 h = some out → zE G s h H locs → lv_has ls 7 [(0, .ref a0), (3, .int a3), (4, .int a4), (5, .int a5), (6, .int a6)] → W p l e rm_X8_sickNow s m args below meth c H locs 0 0 (MQ below (zQi G out.1 out.2) args s 0 0 (zA G)) (F0 m 146 ls [])
  | 0 => fun hf => by cases hf
  | n + 1 => fun hf E hl => t_X8_sickNow_146_body Z hr k137 (r146 := f_X8_sickNow_146 r137 n) (t_X8_sickNow_146 Z hr k137 n) hf E hl
set_option maxHeartbeats 4000000 in
set_option maxRecDepth 20000 in
theorem t_X8_sickNow_137_body {p : Program} {l : Launch} {e : Env} {s : State} {m : MethodId} {args : Array Value} {below : List Frame} {meth : Method} {c : Code} {G : zG} (Z : zF p s m args c meth cX8_sickNow 7 RX8 G) (hr : meth.sig.returnType = (some .int)) {out : Int32 × zHp} {r137 : Nat → Int32 → Int32 → Int32 → zHp → Option (Int32 × zHp)} (k137 : ∀ {a0 : Nat} {a3 : Int32} {a4 : Int32} {a5 : Int32} {h : zHp} {H : Heap} {locs : List Loc} {ls : Array Slot}, r137 a0 a3 a4 a5 h = some out → zE G s h H locs → lv_has ls 7 [(0, .ref a0), (3, .int a3), (4, .int a4), (5, .int a5)] → W p l e rm_X8_sickNow s m args below meth c H locs 0 0 (MQ below (zQi G out.1 out.2) args s 0 0 (zA G)) (F0 m 137 ls [])) {a0 : Nat} {a3 : Int32} {a4 : Int32} {a5 : Int32} {h : zHp} {H : Heap} {locs : List Loc} {ls : Array Slot} (hf : f_X8_sickNow_137_body r137 a0 a3 a4 a5 h = some out) (E : zE G s h H locs) (hl : lv_has ls 7 [(0, .ref a0), (3, .int a3), (4, .int a4), (5, .int a5)]) : W p l e rm_X8_sickNow s m args below meth c H locs 0 0 (MQ below (zQi G out.1 out.2) args s 0 0 (zA G)) (F0 m 137 ls []) := by
  unfold f_X8_sickNow_137_body at hf
  refine lv_iload Z.x Z.b dX8_sickNow_137 (lv_at hl 3 rfl) ?_
  refine lv_iload_n Z.x Z.b dX8_sickNow_139 rfl (lv_at hl 1 rfl) ?_
  refine lv_icmp_ge (tgt := 219) Z.x Z.b dX8_sickNow_140 (by decide) (fun c => ?_) (fun c => ?_)
  · have hf := zit hf c
    refine lv_iload Z.x Z.b dX8_sickNow_219 (lv_at hl 2 rfl) ?_
    exact z_iret Z E hr dX8_sickNow_221 hf
  · have hf := zif_ hf c
    refine lv_iconst (v := 0) Z.x Z.b dX8_sickNow_143 (by decide) ?_
    refine lv_istore (lv' := [(6, .int 0), (0, .ref a0), (3, .int a3), (4, .int a4), (5, .int a5)]) Z.x Z.b dX8_sickNow_144 hl (by decide) rfl (fun ls hl => ?_)
    exact t_X8_sickNow_146 Z hr k137 zN hf E (lv_sub hl [1, 2, 3, 4, 0] rfl)
theorem t_X8_sickNow_137 {p : Program} {l : Launch} {e : Env} {s : State} {m : MethodId} {args : Array Value} {below : List Frame} {meth : Method} {c : Code} {G : zG} (Z : zF p s m args c meth cX8_sickNow 7 RX8 G) (hr : meth.sig.returnType = (some .int)) {out : Int32 × zHp} : ∀ (n : Nat), ∀ {a0 : Nat} {a3 : Int32} {a4 : Int32} {a5 : Int32} {h : zHp} {H : Heap} {locs : List Loc} {ls : Array Slot}, f_X8_sickNow_137 n a0 a3 a4 a5 h = some out → zE G s h H locs → lv_has ls 7 [(0, .ref a0), (3, .int a3), (4, .int a4), (5, .int a5)] → W p l e rm_X8_sickNow s m args below meth c H locs 0 0 (MQ below (zQi G out.1 out.2) args s 0 0 (zA G)) (F0 m 137 ls [])
  | 0 => fun hf => by cases hf
  | n + 1 => fun hf E hl => t_X8_sickNow_137_body Z hr (r137 := f_X8_sickNow_137 n) (t_X8_sickNow_137 Z hr n) hf E hl
set_option maxHeartbeats 4000000 in
set_option maxRecDepth 20000 in
theorem t_X8_sickNow_120 {p : Program} {l : Launch} {e : Env} {s : State} {m : MethodId} {args : Array Value} {below : List Frame} {meth : Method} {c : Code} {G : zG} (Z : zF p s m args c meth cX8_sickNow 7 RX8 G) (hr : meth.sig.returnType = (some .int)) {out : Int32 × zHp} {r19 : Nat → Int32 → Int32 → Int32 → zHp → Option (Int32 × zHp)} (k19 : ∀ {a0 : Nat} {a1 : Int32} {a3 : Int32} {a4 : Int32} {h : zHp} {H : Heap} {locs : List Loc} {ls : Array Slot}, r19 a0 a1 a3 a4 h = some out → zE G s h H locs → lv_has ls 7 [(0, .ref a0), (1, .int a1), (3, .int a3), (4, .int a4)] → W p l e rm_X8_sickNow s m args below meth c H locs 0 0 (MQ below (zQi G out.1 out.2) args s 0 0 (zA G)) (F0 m 19 ls [])) {a0 : Nat} {a1 : Int32} {a3 : Int32} {a4 : Int32} {h : zHp} {H : Heap} {locs : List Loc} {ls : Array Slot} (hf : f_X8_sickNow_120 r19 a0 a1 a3 a4 h = some out) (E : zE G s h H locs) (hl : lv_has ls 7 [(0, .ref a0), (1, .int a1), (3, .int a3), (4, .int a4)]) : W p l e rm_X8_sickNow s m args below meth c H locs 0 0 (MQ below (zQi G out.1 out.2) args s 0 0 (zA G)) (F0 m 120 ls []) := by
  unfold f_X8_sickNow_120 at hf
  refine lv_iinc (v := (a4 + 1)) (lv' := [(4, .int (a4 + 1)), (0, .ref a0), (1, .int a1), (3, .int a3)]) Z.x Z.b dX8_sickNow_120 hl (k := 3) rfl rfl (by decide) rfl (fun ls hl => ?_)
  refine lv_goto (tgt := 19) Z.x Z.b dX8_sickNow_123 (by decide) ?_
  exact k19 hf E (lv_sub hl [1, 2, 3, 0] rfl)
set_option maxHeartbeats 4000000 in
set_option maxRecDepth 20000 in
theorem t_X8_sickNow_106 {p : Program} {l : Launch} {e : Env} {s : State} {m : MethodId} {args : Array Value} {below : List Frame} {meth : Method} {c : Code} {G : zG} (Z : zF p s m args c meth cX8_sickNow 7 RX8 G) (hr : meth.sig.returnType = (some .int)) {out : Int32 × zHp} {r19 : Nat → Int32 → Int32 → Int32 → zHp → Option (Int32 × zHp)} (k19 : ∀ {a0 : Nat} {a1 : Int32} {a3 : Int32} {a4 : Int32} {h : zHp} {H : Heap} {locs : List Loc} {ls : Array Slot}, r19 a0 a1 a3 a4 h = some out → zE G s h H locs → lv_has ls 7 [(0, .ref a0), (1, .int a1), (3, .int a3), (4, .int a4)] → W p l e rm_X8_sickNow s m args below meth c H locs 0 0 (MQ below (zQi G out.1 out.2) args s 0 0 (zA G)) (F0 m 19 ls [])) {a0 : Nat} {a1 : Int32} {a3 : Int32} {a4 : Int32} {a5 : Int32} {s0 : Int32} {s1 : Int32} {s2 : Nat} {h : zHp} {H : Heap} {locs : List Loc} {ls : Array Slot} (hf : f_X8_sickNow_106 r19 a0 a1 a3 a4 a5 s0 s1 s2 h = some out) (E : zE G s h H locs) (hl : lv_has ls 7 [(0, .ref a0), (1, .int a1), (3, .int a3), (4, .int a4), (5, .int a5)]) : W p l e rm_X8_sickNow s m args below meth c H locs 0 0 (MQ below (zQi G out.1 out.2) args s 0 0 (zA G)) (F0 m 106 ls [.int s0, .int s1, .ref s2]) := by
  unfold f_X8_sickNow_106 at hf
  refine z_iast Z E dX8_sickNow_106 hf (fun h1 H locs hf E => ?_)
  refine lv_iload Z.x Z.b dX8_sickNow_107 (lv_at hl 4 rfl) ?_
  refine lv_if_eq (tgt := 120) Z.x Z.b dX8_sickNow_109 (by decide) (fun c => ?_) (fun c => ?_)
  · have hf := zit hf c
    exact t_X8_sickNow_120 Z hr k19 hf E (lv_sub hl [0, 1, 2, 3] rfl)
  · have hf := zif_ hf c
    refine lv_aload_n Z.x Z.b dX8_sickNow_112 rfl (lv_at hl 0 rfl) ?_
    refine lv_iload Z.x Z.b dX8_sickNow_113 (lv_at hl 3 rfl) ?_
    refine lv_iload_n Z.x Z.b dX8_sickNow_115 rfl (lv_at hl 1 rfl) ?_
    refine lv_iconst (v := 0) Z.x Z.b dX8_sickNow_116 (by decide) ?_
    refine z_Vv (As := [.int a4, .int a1, .int 0]) Z E hl.1 k_X8_93 v_X8_setPlace hf (fun h' e => c_X8_setPlace l G h1 h' a0 a4 a1 0 e) rfl rfl (Nat.le_of_ble_eq_true rfl) (zRm_of rfl (Nat.zero_le _) (Nat.zero_le _)) dX8_sickNow_117 (fun h2 H locs hf E => ?_)
    exact t_X8_sickNow_120 Z hr k19 hf E (lv_sub hl [0, 1, 2, 3] rfl)
set_option maxHeartbeats 4000000 in
set_option maxRecDepth 20000 in
theorem t_X8_sickNow_82 {p : Program} {l : Launch} {e : Env} {s : State} {m : MethodId} {args : Array Value} {below : List Frame} {meth : Method} {c : Code} {G : zG} (Z : zF p s m args c meth cX8_sickNow 7 RX8 G) (hr : meth.sig.returnType = (some .int)) {out : Int32 × zHp} {r19 : Nat → Int32 → Int32 → Int32 → zHp → Option (Int32 × zHp)} (k19 : ∀ {a0 : Nat} {a1 : Int32} {a3 : Int32} {a4 : Int32} {h : zHp} {H : Heap} {locs : List Loc} {ls : Array Slot}, r19 a0 a1 a3 a4 h = some out → zE G s h H locs → lv_has ls 7 [(0, .ref a0), (1, .int a1), (3, .int a3), (4, .int a4)] → W p l e rm_X8_sickNow s m args below meth c H locs 0 0 (MQ below (zQi G out.1 out.2) args s 0 0 (zA G)) (F0 m 19 ls [])) {a0 : Nat} {a1 : Int32} {a3 : Int32} {a4 : Int32} {s0 : Int32} {h : zHp} {H : Heap} {locs : List Loc} {ls : Array Slot} (hf : f_X8_sickNow_82 r19 a0 a1 a3 a4 s0 h = some out) (E : zE G s h H locs) (hl : lv_has ls 7 [(0, .ref a0), (1, .int a1), (3, .int a3), (4, .int a4)]) : W p l e rm_X8_sickNow s m args below meth c H locs 0 0 (MQ below (zQi G out.1 out.2) args s 0 0 (zA G)) (F0 m 82 ls [.int s0]) := by
  unfold f_X8_sickNow_82 at hf
  refine lv_istore (lv' := [(5, .int s0), (0, .ref a0), (1, .int a1), (3, .int a3), (4, .int a4)]) Z.x Z.b dX8_sickNow_82 hl (by decide) rfl (fun ls hl => ?_)
  refine lv_aload_n Z.x Z.b dX8_sickNow_84 rfl (lv_at hl 1 rfl) ?_
  refine z_getR Z E q_X8_31 dX8_sickNow_85 hf (fun v1 hf => ?_)
  refine lv_iload Z.x Z.b dX8_sickNow_88 (lv_at hl 4 rfl) ?_
  refine lv_iload Z.x Z.b dX8_sickNow_90 (lv_at hl 0 rfl) ?_
  refine lv_if_eq (tgt := 105) Z.x Z.b dX8_sickNow_92 (by decide) (fun c => ?_) (fun c => ?_)
  · have hf := zit hf c
    refine lv_iconst (v := 0) Z.x Z.b dX8_sickNow_105 (by decide) ?_
    exact t_X8_sickNow_106 Z hr k19 hf E (lv_sub hl [1, 2, 3, 4, 0] rfl)
  · have hf := zif_ hf c
    refine lv_aload_n Z.x Z.b dX8_sickNow_95 rfl (lv_at hl 1 rfl) ?_
    refine lv_iload Z.x Z.b dX8_sickNow_96 (lv_at hl 4 rfl) ?_
    refine lv_iload_n Z.x Z.b dX8_sickNow_98 rfl (lv_at hl 2 rfl) ?_
    refine z_Vi (As := [.int a4, .int a1]) Z E hl.1 k_X8_46 v_X8_placeOf hf (fun r h' e => c_X8_placeOf l G h h' a0 a4 a1 r e) rfl rfl (Nat.le_of_ble_eq_true rfl) (zRm_of rfl (Nat.zero_le _) (Nat.zero_le _)) dX8_sickNow_99 (fun v2 h3 H locs hf E => ?_)
    refine lv_goto (tgt := 106) Z.x Z.b dX8_sickNow_102 (by decide) ?_
    exact t_X8_sickNow_106 Z hr k19 hf E (lv_sub hl [1, 2, 3, 4, 0] rfl)
set_option maxHeartbeats 4000000 in
set_option maxRecDepth 20000 in
theorem t_X8_sickNow_81 {p : Program} {l : Launch} {e : Env} {s : State} {m : MethodId} {args : Array Value} {below : List Frame} {meth : Method} {c : Code} {G : zG} (Z : zF p s m args c meth cX8_sickNow 7 RX8 G) (hr : meth.sig.returnType = (some .int)) {out : Int32 × zHp} {r19 : Nat → Int32 → Int32 → Int32 → zHp → Option (Int32 × zHp)} (k19 : ∀ {a0 : Nat} {a1 : Int32} {a3 : Int32} {a4 : Int32} {h : zHp} {H : Heap} {locs : List Loc} {ls : Array Slot}, r19 a0 a1 a3 a4 h = some out → zE G s h H locs → lv_has ls 7 [(0, .ref a0), (1, .int a1), (3, .int a3), (4, .int a4)] → W p l e rm_X8_sickNow s m args below meth c H locs 0 0 (MQ below (zQi G out.1 out.2) args s 0 0 (zA G)) (F0 m 19 ls [])) {a0 : Nat} {a1 : Int32} {a3 : Int32} {a4 : Int32} {h : zHp} {H : Heap} {locs : List Loc} {ls : Array Slot} (hf : f_X8_sickNow_81 r19 a0 a1 a3 a4 h = some out) (E : zE G s h H locs) (hl : lv_has ls 7 [(0, .ref a0), (1, .int a1), (3, .int a3), (4, .int a4)]) : W p l e rm_X8_sickNow s m args below meth c H locs 0 0 (MQ below (zQi G out.1 out.2) args s 0 0 (zA G)) (F0 m 81 ls []) := by
  unfold f_X8_sickNow_81 at hf
  refine lv_iconst (v := 0) Z.x Z.b dX8_sickNow_81 (by decide) ?_
  exact t_X8_sickNow_82 Z hr k19 hf E (lv_sub hl [0, 1, 2, 3] rfl)
set_option maxHeartbeats 4000000 in
set_option maxRecDepth 20000 in
theorem t_X8_sickNow_19_body {p : Program} {l : Launch} {e : Env} {s : State} {m : MethodId} {args : Array Value} {below : List Frame} {meth : Method} {c : Code} {G : zG} (Z : zF p s m args c meth cX8_sickNow 7 RX8 G) (hr : meth.sig.returnType = (some .int)) {out : Int32 × zHp} {r19 : Nat → Int32 → Int32 → Int32 → zHp → Option (Int32 × zHp)} (k19 : ∀ {a0 : Nat} {a1 : Int32} {a3 : Int32} {a4 : Int32} {h : zHp} {H : Heap} {locs : List Loc} {ls : Array Slot}, r19 a0 a1 a3 a4 h = some out → zE G s h H locs → lv_has ls 7 [(0, .ref a0), (1, .int a1), (3, .int a3), (4, .int a4)] → W p l e rm_X8_sickNow s m args below meth c H locs 0 0 (MQ below (zQi G out.1 out.2) args s 0 0 (zA G)) (F0 m 19 ls [])) {a0 : Nat} {a1 : Int32} {a3 : Int32} {a4 : Int32} {h : zHp} {H : Heap} {locs : List Loc} {ls : Array Slot} (hf : f_X8_sickNow_19_body r19 a0 a1 a3 a4 h = some out) (E : zE G s h H locs) (hl : lv_has ls 7 [(0, .ref a0), (1, .int a1), (3, .int a3), (4, .int a4)]) : W p l e rm_X8_sickNow s m args below meth c H locs 0 0 (MQ below (zQi G out.1 out.2) args s 0 0 (zA G)) (F0 m 19 ls []) := by
  unfold f_X8_sickNow_19_body at hf
  refine lv_iload Z.x Z.b dX8_sickNow_19 (lv_at hl 3 rfl) ?_
  refine lv_aload_n Z.x Z.b dX8_sickNow_21 rfl (lv_at hl 0 rfl) ?_
  refine z_getR Z E q_X8_7 dX8_sickNow_22 hf (fun v1 hf => ?_)
  refine lv_iconst (v := 1) Z.x Z.b dX8_sickNow_25 (by decide) ?_
  refine z_iald Z E dX8_sickNow_26 hf (fun v2 hf => ?_)
  refine lv_icmp_ge (tgt := 126) Z.x Z.b dX8_sickNow_27 (by decide) (fun c => ?_) (fun c => ?_)
  · have hf := zit hf c
    refine lv_iconst (v := 0) Z.x Z.b dX8_sickNow_126 (by decide) ?_
    refine lv_istore (lv' := [(4, .int 0), (0, .ref a0), (1, .int a1), (3, .int a3)]) Z.x Z.b dX8_sickNow_127 hl (by decide) rfl (fun ls hl => ?_)
    refine lv_aload_n Z.x Z.b dX8_sickNow_129 rfl (lv_at hl 1 rfl) ?_
    refine z_getR Z E q_X8_7 dX8_sickNow_130 hf (fun v3 hf => ?_)
    refine lv_iconst (v := 0) Z.x Z.b dX8_sickNow_133 (by decide) ?_
    refine z_iald Z E dX8_sickNow_134 hf (fun v4 hf => ?_)
    refine lv_istore (lv' := [(5, .int v4), (4, .int 0), (0, .ref a0), (1, .int a1), (3, .int a3)]) Z.x Z.b dX8_sickNow_135 hl (by decide) rfl (fun ls hl => ?_)
    exact t_X8_sickNow_137 Z hr zN hf E (lv_sub hl [2, 4, 1, 0] rfl)
  · have hf := zif_ hf c
    refine lv_aload_n Z.x Z.b dX8_sickNow_30 rfl (lv_at hl 0 rfl) ?_
    refine lv_iload Z.x Z.b dX8_sickNow_31 (lv_at hl 3 rfl) ?_
    refine lv_iconst (v := 0) Z.x Z.b dX8_sickNow_33 (by decide) ?_
    refine z_Vi (As := [.int a4, .int 0]) Z E hl.1 k_X8_62 v_X8_is hf (fun r h' e => c_X8_is l G h h' a0 a4 0 r e) rfl rfl (Nat.le_of_ble_eq_true rfl) (zRm_of rfl (Nat.zero_le _) (Nat.zero_le _)) dX8_sickNow_34 (fun v5 h6 H locs hf E => ?_)
    refine lv_if_eq (tgt := 81) Z.x Z.b dX8_sickNow_37 (by decide) (fun c => ?_) (fun c => ?_)
    · have hf := zit hf c
      exact t_X8_sickNow_81 Z hr k19 hf E (lv_sub hl [0, 1, 2, 3] rfl)
    · have hf := zif_ hf c
      refine lv_aload_n Z.x Z.b dX8_sickNow_40 rfl (lv_at hl 0 rfl) ?_
      refine lv_iload Z.x Z.b dX8_sickNow_41 (lv_at hl 3 rfl) ?_
      refine lv_iconst (v := 2) Z.x Z.b dX8_sickNow_43 (by decide) ?_
      refine z_Vi (As := [.int a4, .int 2]) Z E hl.1 k_X8_38 v_X8_of hf (fun r h' e => c_X8_of l G h6 h' a0 a4 2 r e) rfl rfl (Nat.le_of_ble_eq_true rfl) (zRm_of rfl (Nat.zero_le _) (Nat.zero_le _)) dX8_sickNow_44 (fun v7 h8 H locs hf E => ?_)
      refine lv_aload_n Z.x Z.b dX8_sickNow_47 rfl (lv_at hl 0 rfl) ?_
      refine z_getR Z E q_X8_7 dX8_sickNow_48 hf (fun v9 hf => ?_)
      refine lv_iconst (v := 0) Z.x Z.b dX8_sickNow_51 (by decide) ?_
      refine z_iald Z E dX8_sickNow_52 hf (fun v10 hf => ?_)
      refine lv_icmp_lt (tgt := 81) Z.x Z.b dX8_sickNow_53 (by decide) (fun c => ?_) (fun c => ?_)
      · have hf := zit hf c
        exact t_X8_sickNow_81 Z hr k19 hf E (lv_sub hl [0, 1, 2, 3] rfl)
      · have hf := zif_ hf c
        refine lv_aload_n Z.x Z.b dX8_sickNow_56 rfl (lv_at hl 0 rfl) ?_
        refine lv_iload Z.x Z.b dX8_sickNow_57 (lv_at hl 3 rfl) ?_
        refine lv_iconst (v := 2) Z.x Z.b dX8_sickNow_59 (by decide) ?_
        refine z_Vi (As := [.int a4, .int 2]) Z E hl.1 k_X8_38 v_X8_of hf (fun r h' e => c_X8_of l G h8 h' a0 a4 2 r e) rfl rfl (Nat.le_of_ble_eq_true rfl) (zRm_of rfl (Nat.zero_le _) (Nat.zero_le _)) dX8_sickNow_60 (fun v11 h12 H locs hf E => ?_)
        refine lv_iload_n Z.x Z.b dX8_sickNow_63 rfl (lv_at hl 2 rfl) ?_
        refine lv_icmp_ge (tgt := 81) Z.x Z.b dX8_sickNow_64 (by decide) (fun c => ?_) (fun c => ?_)
        · have hf := zit hf c
          exact t_X8_sickNow_81 Z hr k19 hf E (lv_sub hl [0, 1, 2, 3] rfl)
        · have hf := zif_ hf c
          refine lv_aload_n Z.x Z.b dX8_sickNow_67 rfl (lv_at hl 0 rfl) ?_
          refine lv_iload Z.x Z.b dX8_sickNow_68 (lv_at hl 3 rfl) ?_
          refine lv_iload_n Z.x Z.b dX8_sickNow_70 rfl (lv_at hl 1 rfl) ?_
          refine z_Vi (As := [.int a4, .int a1]) Z E hl.1 k_X8_46 v_X8_placeOf hf (fun r h' e => c_X8_placeOf l G h12 h' a0 a4 a1 r e) rfl rfl (Nat.le_of_ble_eq_true rfl) (zRm_of rfl (Nat.zero_le _) (Nat.zero_le _)) dX8_sickNow_71 (fun v13 h14 H locs hf E => ?_)
          refine lv_if_le (tgt := 81) Z.x Z.b dX8_sickNow_74 (by decide) (fun c => ?_) (fun c => ?_)
          · have hf := zit hf c
            exact t_X8_sickNow_81 Z hr k19 hf E (lv_sub hl [0, 1, 2, 3] rfl)
          · have hf := zif_ hf c
            refine lv_iconst (v := 1) Z.x Z.b dX8_sickNow_77 (by decide) ?_
            refine lv_goto (tgt := 82) Z.x Z.b dX8_sickNow_78 (by decide) ?_
            exact t_X8_sickNow_82 Z hr k19 hf E (lv_sub hl [0, 1, 2, 3] rfl)
theorem t_X8_sickNow_19 {p : Program} {l : Launch} {e : Env} {s : State} {m : MethodId} {args : Array Value} {below : List Frame} {meth : Method} {c : Code} {G : zG} (Z : zF p s m args c meth cX8_sickNow 7 RX8 G) (hr : meth.sig.returnType = (some .int)) {out : Int32 × zHp} : ∀ (n : Nat), ∀ {a0 : Nat} {a1 : Int32} {a3 : Int32} {a4 : Int32} {h : zHp} {H : Heap} {locs : List Loc} {ls : Array Slot}, f_X8_sickNow_19 n a0 a1 a3 a4 h = some out → zE G s h H locs → lv_has ls 7 [(0, .ref a0), (1, .int a1), (3, .int a3), (4, .int a4)] → W p l e rm_X8_sickNow s m args below meth c H locs 0 0 (MQ below (zQi G out.1 out.2) args s 0 0 (zA G)) (F0 m 19 ls [])
  | 0 => fun hf => by cases hf
  | n + 1 => fun hf E hl => t_X8_sickNow_19_body Z hr (r19 := f_X8_sickNow_19 n) (t_X8_sickNow_19 Z hr n) hf E hl
set_option maxHeartbeats 4000000 in
set_option maxRecDepth 20000 in
theorem t_X8_sickNow {p : Program} {l : Launch} {e : Env} {s : State} {m : MethodId} {args : Array Value} {below : List Frame} {meth : Method} {c : Code} {G : zG} (Z : zF p s m args c meth cX8_sickNow 7 RX8 G) (hr : meth.sig.returnType = (some .int)) {out : Int32 × zHp} {a0 : Nat} {a1 : Int32} {a2 : Int32} {h : zHp} {H : Heap} {locs : List Loc} {ls : Array Slot} (hf : f_X8_sickNow a0 a1 a2 h = some out) (E : zE G s h H locs) (hl : lv_has ls 7 [(0, .ref a0), (1, .int a1), (2, .int a2)]) : W p l e rm_X8_sickNow s m args below meth c H locs 0 0 (MQ below (zQi G out.1 out.2) args s 0 0 (zA G)) (F0 m 0 ls []) := by
  unfold f_X8_sickNow at hf
  refine lv_aload_n Z.x Z.b dX8_sickNow_0 rfl (lv_at hl 0 rfl) ?_
  refine z_getR Z E q_X8_7 dX8_sickNow_1 hf (fun v1 hf => ?_)
  refine lv_iconst (v := 0) Z.x Z.b dX8_sickNow_4 (by decide) ?_
  refine z_iald Z E dX8_sickNow_5 hf (fun v2 hf => ?_)
  refine lv_iload_n Z.x Z.b dX8_sickNow_6 rfl (lv_at hl 2 rfl) ?_
  refine lv_iadd Z.x Z.b dX8_sickNow_7 ?_
  refine lv_istore_n (lv' := [(3, .int (v2 + a2)), (0, .ref a0), (1, .int a1), (2, .int a2)]) Z.x Z.b dX8_sickNow_8 rfl hl (by decide) rfl (fun ls hl => ?_)
  refine lv_aload_n Z.x Z.b dX8_sickNow_9 rfl (lv_at hl 1 rfl) ?_
  refine lv_iload_n Z.x Z.b dX8_sickNow_10 rfl (lv_at hl 2 rfl) ?_
  refine lv_iconst (v := 4) Z.x Z.b dX8_sickNow_11 (by decide) ?_
  refine lv_iload_n Z.x Z.b dX8_sickNow_12 rfl (lv_at hl 0 rfl) ?_
  refine z_Vv (As := [.int a1, .int 4, .int (v2 + a2)]) Z E hl.1 k_X8_104 v_X8_note hf (fun h' e => c_X8_note l G h h' a0 a1 4 (v2 + a2) e) rfl rfl (Nat.le_of_ble_eq_true rfl) (zRm_of rfl (Nat.zero_le _) (Nat.zero_le _)) dX8_sickNow_13 (fun h3 H locs hf E => ?_)
  refine lv_iconst (v := 0) Z.x Z.b dX8_sickNow_16 (by decide) ?_
  refine lv_istore (lv' := [(4, .int 0), (3, .int (v2 + a2)), (0, .ref a0), (1, .int a1), (2, .int a2)]) Z.x Z.b dX8_sickNow_17 hl (by decide) rfl (fun ls hl => ?_)
  exact t_X8_sickNow_19 Z hr zN hf E (lv_sub hl [2, 3, 1, 0] rfl)
set_option maxHeartbeats 4000000 in
set_option maxRecDepth 20000 in
theorem c_X8_sickNow (l : Launch) (G : zG) (h : zHp) (h' : zHp) (a0 : Nat) (a1 : Int32) (a2 : Int32) (r : Int32) (hf : f_X8_sickNow a0 a1 a2 h = some (r, h')) : zM0 l yX8_sickNow cX8_sickNow 7 (some .int) rm_X8_sickNow G [.ref a0, .int a1, .int a2] h (zQi G r h') := by
  refine Met.ofW (cc := cX8_sickNow) (maxL := 7) (ret := (some .int)) (by decide) rfl ?_
  intro p e s m args below meth c s₁ B hml hv
  obtain ⟨rfl, hW⟩ := hv
  obtain ⟨Z, E, hr⟩ := zEnter (own := RX8) B hml rfl hW
  have hl := lv_entry ([.ref a0, .int a1, .int a2]) (n := 7) (Nat.le_of_ble_eq_true rfl)
  rw [lg_entry_eq]
  generalize (lg_sl ([.ref a0, .int a1, .int a2]) ++ List.replicate (7 - (lg_sl ([.ref a0, .int a1, .int a2])).length) Slot.unset).toArray = ls at hl ⊢
  have hl : lv_has ls 7 [(0, .ref a0), (1, .int a1), (2, .int a2)] := hl
  exact t_X8_sickNow (out := (r, h')) Z hr hf E hl
/-! FerryCrewsModel.passHour()V -/
theorem dX8_passHour_0 : decode cX8_passHour 0 = .ok (.iconst 0, 1) := by decide +kernel
theorem dX8_passHour_1 : decode cX8_passHour 1 = .ok (.istore_n 1, 1) := by decide +kernel
theorem dX8_passHour_2 : decode cX8_passHour 2 = .ok (.iload_n 1, 1) := by decide +kernel
theorem dX8_passHour_3 : decode cX8_passHour 3 = .ok (.aload_n 0, 1) := by decide +kernel
theorem dX8_passHour_4 : decode cX8_passHour 4 = .ok (.getfield 7, 3) := by decide +kernel
theorem dX8_passHour_7 : decode cX8_passHour 7 = .ok (.iconst 1, 1) := by decide +kernel
theorem dX8_passHour_8 : decode cX8_passHour 8 = .ok (.iaload, 1) := by decide +kernel
theorem dX8_passHour_9 : decode cX8_passHour 9 = .ok (.if_icmp .ge 56, 3) := by decide +kernel
theorem dX8_passHour_12 : decode cX8_passHour 12 = .ok (.aload_n 0, 1) := by decide +kernel
theorem dX8_passHour_13 : decode cX8_passHour 13 = .ok (.iload_n 1, 1) := by decide +kernel
theorem dX8_passHour_14 : decode cX8_passHour 14 = .ok (.iconst 0, 1) := by decide +kernel
theorem dX8_passHour_15 : decode cX8_passHour 15 = .ok (.invokevirtual 62, 3) := by decide +kernel
theorem dX8_passHour_18 : decode cX8_passHour 18 = .ok (.ifCond .eq 41, 3) := by decide +kernel
theorem dX8_passHour_21 : decode cX8_passHour 21 = .ok (.aload_n 0, 1) := by decide +kernel
theorem dX8_passHour_22 : decode cX8_passHour 22 = .ok (.iload_n 1, 1) := by decide +kernel
theorem dX8_passHour_23 : decode cX8_passHour 23 = .ok (.iconst 2, 1) := by decide +kernel
theorem dX8_passHour_24 : decode cX8_passHour 24 = .ok (.invokevirtual 38, 3) := by decide +kernel
theorem dX8_passHour_27 : decode cX8_passHour 27 = .ok (.aload_n 0, 1) := by decide +kernel
theorem dX8_passHour_28 : decode cX8_passHour 28 = .ok (.getfield 7, 3) := by decide +kernel
theorem dX8_passHour_31 : decode cX8_passHour 31 = .ok (.iconst 0, 1) := by decide +kernel
theorem dX8_passHour_32 : decode cX8_passHour 32 = .ok (.iaload, 1) := by decide +kernel
theorem dX8_passHour_33 : decode cX8_passHour 33 = .ok (.if_icmp .ne 26, 3) := by decide +kernel
theorem dX8_passHour_36 : decode cX8_passHour 36 = .ok (.aload_n 0, 1) := by decide +kernel
theorem dX8_passHour_37 : decode cX8_passHour 37 = .ok (.iload_n 1, 1) := by decide +kernel
theorem dX8_passHour_38 : decode cX8_passHour 38 = .ok (.invokevirtual 116, 3) := by decide +kernel
theorem dX8_passHour_41 : decode cX8_passHour 41 = .ok (.ifCond .ne 13, 3) := by decide +kernel
theorem dX8_passHour_44 : decode cX8_passHour 44 = .ok (.aload_n 0, 1) := by decide +kernel
theorem dX8_passHour_45 : decode cX8_passHour 45 = .ok (.iload_n 1, 1) := by decide +kernel
theorem dX8_passHour_46 : decode cX8_passHour 46 = .ok (.iconst 0, 1) := by decide +kernel
theorem dX8_passHour_47 : decode cX8_passHour 47 = .ok (.iconst 1, 1) := by decide +kernel
theorem dX8_passHour_48 : decode cX8_passHour 48 = .ok (.invokevirtual 107, 3) := by decide +kernel
theorem dX8_passHour_51 : decode cX8_passHour 51 = .ok (.goto 8, 3) := by decide +kernel
theorem dX8_passHour_54 : decode cX8_passHour 54 = .ok (.aload_n 0, 1) := by decide +kernel
theorem dX8_passHour_55 : decode cX8_passHour 55 = .ok (.iload_n 1, 1) := by decide +kernel
theorem dX8_passHour_56 : decode cX8_passHour 56 = .ok (.invokevirtual 119, 3) := by decide +kernel
theorem dX8_passHour_59 : decode cX8_passHour 59 = .ok (.iinc 1 1, 3) := by decide +kernel
theorem dX8_passHour_62 : decode cX8_passHour 62 = .ok (.goto (-60), 3) := by decide +kernel
theorem dX8_passHour_65 : decode cX8_passHour 65 = .ok (.aload_n 0, 1) := by decide +kernel
theorem dX8_passHour_66 : decode cX8_passHour 66 = .ok (.getfield 7, 3) := by decide +kernel
theorem dX8_passHour_69 : decode cX8_passHour 69 = .ok (.iconst 0, 1) := by decide +kernel
theorem dX8_passHour_70 : decode cX8_passHour 70 = .ok (.dup2, 1) := by decide +kernel
theorem dX8_passHour_71 : decode cX8_passHour 71 = .ok (.iaload, 1) := by decide +kernel
theorem dX8_passHour_72 : decode cX8_passHour 72 = .ok (.iconst 1, 1) := by decide +kernel
theorem dX8_passHour_73 : decode cX8_passHour 73 = .ok (.iadd, 1) := by decide +kernel
theorem dX8_passHour_74 : decode cX8_passHour 74 = .ok (.iastore, 1) := by decide +kernel
theorem dX8_passHour_75 : decode cX8_passHour 75 = .ok (.return_, 1) := by decide +kernel
set_option maxRecDepth 20000 in
theorem wc_X8_freeOf : Cond.code yX8_freeOf cX8_freeOf 2 (some .int) ∈ zB := List.mem_filter.mpr ⟨List.mem_of_getElem? (i := 1055) (by decide +kernel), by decide +kernel⟩
set_option maxRecDepth 20000 in
theorem wm_X8_116 : Cond.methodLink RX8 116 yX8_freeOf ∈ zB := List.mem_filter.mpr ⟨List.mem_of_getElem? (i := 1052) (by decide +kernel), by decide +kernel⟩
theorem k_X8_116 : zCal RX8 116 yX8_freeOf cX8_freeOf 2 (some .int) 1 := ⟨wm_X8_116, wi_X8, wc_X8_freeOf, by decide +kernel, by decide +kernel, by decide +kernel⟩
set_option maxRecDepth 20000 in
theorem wn_X8_freeOf : Cond.instanceMethod yX8_freeOf ∈ zB := List.mem_filter.mpr ⟨List.mem_of_getElem? (i := 1054) (by decide +kernel), by decide +kernel⟩
set_option maxRecDepth 20000 in
theorem ws_X8_freeOf : Cond.selects RX8 yX8_freeOf yX8_freeOf ∈ zB := List.mem_filter.mpr ⟨List.mem_of_getElem? (i := 50) (by decide +kernel), by decide +kernel⟩
theorem v_X8_freeOf : zVir yX8_freeOf 8 := ⟨wn_X8_freeOf, ws_X8_freeOf, TX8, 12, rfl⟩
set_option maxRecDepth 20000 in
theorem wc_X8_cancelNow : Cond.code yX8_cancelNow cX8_cancelNow 2 none ∈ zB := List.mem_filter.mpr ⟨List.mem_of_getElem? (i := 932) (by decide +kernel), by decide +kernel⟩
set_option maxRecDepth 20000 in
theorem wm_X8_119 : Cond.methodLink RX8 119 yX8_cancelNow ∈ zB := List.mem_filter.mpr ⟨List.mem_of_getElem? (i := 929) (by decide +kernel), by decide +kernel⟩
theorem k_X8_119 : zCal RX8 119 yX8_cancelNow cX8_cancelNow 2 none 1 := ⟨wm_X8_119, wi_X8, wc_X8_cancelNow, by decide +kernel, by decide +kernel, by decide +kernel⟩
set_option maxRecDepth 20000 in
theorem wn_X8_cancelNow : Cond.instanceMethod yX8_cancelNow ∈ zB := List.mem_filter.mpr ⟨List.mem_of_getElem? (i := 931) (by decide +kernel), by decide +kernel⟩
set_option maxRecDepth 20000 in
theorem ws_X8_cancelNow : Cond.selects RX8 yX8_cancelNow yX8_cancelNow ∈ zB := List.mem_filter.mpr ⟨List.mem_of_getElem? (i := 30) (by decide +kernel), by decide +kernel⟩
theorem v_X8_cancelNow : zVir yX8_cancelNow 8 := ⟨wn_X8_cancelNow, ws_X8_cancelNow, TX8, 12, rfl⟩
def rm_X8_passHour : Room := { frames := 4, cells := 0, slots := 0, locals := 88 }
set_option maxHeartbeats 4000000 in
set_option maxRecDepth 20000 in
theorem t_X8_passHour_59 {p : Program} {l : Launch} {e : Env} {s : State} {m : MethodId} {args : Array Value} {below : List Frame} {meth : Method} {c : Code} {G : zG} (Z : zF p s m args c meth cX8_passHour 2 RX8 G) (hr : meth.sig.returnType = none) {out : zHp} {r2 : Nat → Int32 → zHp → Option (zHp)} (k2 : ∀ {a0 : Nat} {a1 : Int32} {h : zHp} {H : Heap} {locs : List Loc} {ls : Array Slot}, r2 a0 a1 h = some out → zE G s h H locs → lv_has ls 2 [(0, .ref a0), (1, .int a1)] → W p l e rm_X8_passHour s m args below meth c H locs 0 0 (MQ below (zQv G out) args s 0 0 (zA G)) (F0 m 2 ls [])) {a0 : Nat} {a1 : Int32} {h : zHp} {H : Heap} {locs : List Loc} {ls : Array Slot} (hf : f_X8_passHour_59 r2 a0 a1 h = some out) (E : zE G s h H locs) (hl : lv_has ls 2 [(0, .ref a0), (1, .int a1)]) : W p l e rm_X8_passHour s m args below meth c H locs 0 0 (MQ below (zQv G out) args s 0 0 (zA G)) (F0 m 59 ls []) := by
  unfold f_X8_passHour_59 at hf
  refine lv_iinc (v := (a1 + 1)) (lv' := [(1, .int (a1 + 1)), (0, .ref a0)]) Z.x Z.b dX8_passHour_59 hl (k := 1) rfl rfl (by decide) rfl (fun ls hl => ?_)
  refine lv_goto (tgt := 2) Z.x Z.b dX8_passHour_62 (by decide) ?_
  exact k2 hf E (lv_sub hl [1, 0] rfl)
set_option maxHeartbeats 4000000 in
set_option maxRecDepth 20000 in
theorem t_X8_passHour_2_body {p : Program} {l : Launch} {e : Env} {s : State} {m : MethodId} {args : Array Value} {below : List Frame} {meth : Method} {c : Code} {G : zG} (Z : zF p s m args c meth cX8_passHour 2 RX8 G) (hr : meth.sig.returnType = none) {out : zHp} {r2 : Nat → Int32 → zHp → Option (zHp)} (k2 : ∀ {a0 : Nat} {a1 : Int32} {h : zHp} {H : Heap} {locs : List Loc} {ls : Array Slot}, r2 a0 a1 h = some out → zE G s h H locs → lv_has ls 2 [(0, .ref a0), (1, .int a1)] → W p l e rm_X8_passHour s m args below meth c H locs 0 0 (MQ below (zQv G out) args s 0 0 (zA G)) (F0 m 2 ls [])) {a0 : Nat} {a1 : Int32} {h : zHp} {H : Heap} {locs : List Loc} {ls : Array Slot} (hf : f_X8_passHour_2_body r2 a0 a1 h = some out) (E : zE G s h H locs) (hl : lv_has ls 2 [(0, .ref a0), (1, .int a1)]) : W p l e rm_X8_passHour s m args below meth c H locs 0 0 (MQ below (zQv G out) args s 0 0 (zA G)) (F0 m 2 ls []) := by
  unfold f_X8_passHour_2_body at hf
  refine lv_iload_n Z.x Z.b dX8_passHour_2 rfl (lv_at hl 1 rfl) ?_
  refine lv_aload_n Z.x Z.b dX8_passHour_3 rfl (lv_at hl 0 rfl) ?_
  refine z_getR Z E q_X8_7 dX8_passHour_4 hf (fun v1 hf => ?_)
  refine lv_iconst (v := 1) Z.x Z.b dX8_passHour_7 (by decide) ?_
  refine z_iald Z E dX8_passHour_8 hf (fun v2 hf => ?_)
  refine lv_icmp_ge (tgt := 65) Z.x Z.b dX8_passHour_9 (by decide) (fun c => ?_) (fun c => ?_)
  · have hf := zit hf c
    refine lv_aload_n Z.x Z.b dX8_passHour_65 rfl (lv_at hl 0 rfl) ?_
    refine z_getR Z E q_X8_7 dX8_passHour_66 hf (fun v3 hf => ?_)
    refine lv_iconst (v := 0) Z.x Z.b dX8_passHour_69 (by decide) ?_
    refine lv_dup2_11 Z.x Z.b dX8_passHour_70 rfl rfl ?_
    refine z_iald Z E dX8_passHour_71 hf (fun v4 hf => ?_)
    refine lv_iconst (v := 1) Z.x Z.b dX8_passHour_72 (by decide) ?_
    refine lv_iadd Z.x Z.b dX8_passHour_73 ?_
    refine z_iast Z E dX8_passHour_74 hf (fun h5 H locs hf E => ?_)
    exact z_vret Z E hr dX8_passHour_75 hf
  · have hf := zif_ hf c
    refine lv_aload_n Z.x Z.b dX8_passHour_12 rfl (lv_at hl 0 rfl) ?_
    refine lv_iload_n Z.x Z.b dX8_passHour_13 rfl (lv_at hl 1 rfl) ?_
    refine lv_iconst (v := 0) Z.x Z.b dX8_passHour_14 (by decide) ?_
    refine z_Vi (As := [.int a1, .int 0]) Z E hl.1 k_X8_62 v_X8_is hf (fun r h' e => c_X8_is l G h h' a0 a1 0 r e) rfl rfl (Nat.le_of_ble_eq_true rfl) (zRm_of rfl (Nat.zero_le _) (Nat.zero_le _)) dX8_passHour_15 (fun v6 h7 H locs hf E => ?_)
    refine lv_if_eq (tgt := 59) Z.x Z.b dX8_passHour_18 (by decide) (fun c => ?_) (fun c => ?_)
    · have hf := zit hf c
      exact t_X8_passHour_59 Z hr k2 hf E (lv_sub hl [0, 1] rfl)
    · have hf := zif_ hf c
      refine lv_aload_n Z.x Z.b dX8_passHour_21 rfl (lv_at hl 0 rfl) ?_
      refine lv_iload_n Z.x Z.b dX8_passHour_22 rfl (lv_at hl 1 rfl) ?_
      refine lv_iconst (v := 2) Z.x Z.b dX8_passHour_23 (by decide) ?_
      refine z_Vi (As := [.int a1, .int 2]) Z E hl.1 k_X8_38 v_X8_of hf (fun r h' e => c_X8_of l G h7 h' a0 a1 2 r e) rfl rfl (Nat.le_of_ble_eq_true rfl) (zRm_of rfl (Nat.zero_le _) (Nat.zero_le _)) dX8_passHour_24 (fun v8 h9 H locs hf E => ?_)
      refine lv_aload_n Z.x Z.b dX8_passHour_27 rfl (lv_at hl 0 rfl) ?_
      refine z_getR Z E q_X8_7 dX8_passHour_28 hf (fun v10 hf => ?_)
      refine lv_iconst (v := 0) Z.x Z.b dX8_passHour_31 (by decide) ?_
      refine z_iald Z E dX8_passHour_32 hf (fun v11 hf => ?_)
      refine lv_icmp_ne (tgt := 59) Z.x Z.b dX8_passHour_33 (by decide) (fun c => ?_) (fun c => ?_)
      · have hf := zif_ hf c
        exact t_X8_passHour_59 Z hr k2 hf E (lv_sub hl [0, 1] rfl)
      · have hf := zit hf c
        refine lv_aload_n Z.x Z.b dX8_passHour_36 rfl (lv_at hl 0 rfl) ?_
        refine lv_iload_n Z.x Z.b dX8_passHour_37 rfl (lv_at hl 1 rfl) ?_
        refine z_Vi (As := [.int a1]) Z E hl.1 k_X8_116 v_X8_freeOf hf (fun r h' e => c_X8_freeOf l G h9 h' a0 a1 r e) rfl rfl (Nat.le_of_ble_eq_true rfl) (zRm_of rfl (Nat.zero_le _) (Nat.zero_le _)) dX8_passHour_38 (fun v12 h13 H locs hf E => ?_)
        refine lv_if_ne (tgt := 54) Z.x Z.b dX8_passHour_41 (by decide) (fun c => ?_) (fun c => ?_)
        · have hf := zif_ hf c
          refine lv_aload_n Z.x Z.b dX8_passHour_54 rfl (lv_at hl 0 rfl) ?_
          refine lv_iload_n Z.x Z.b dX8_passHour_55 rfl (lv_at hl 1 rfl) ?_
          refine z_Vv (As := [.int a1]) Z E hl.1 k_X8_119 v_X8_cancelNow hf (fun h' e => c_X8_cancelNow l G h13 h' a0 a1 e) rfl rfl (Nat.le_of_ble_eq_true rfl) (zRm_of rfl (Nat.zero_le _) (Nat.zero_le _)) dX8_passHour_56 (fun h14 H locs hf E => ?_)
          exact t_X8_passHour_59 Z hr k2 hf E (lv_sub hl [0, 1] rfl)
        · have hf := zit hf c
          refine lv_aload_n Z.x Z.b dX8_passHour_44 rfl (lv_at hl 0 rfl) ?_
          refine lv_iload_n Z.x Z.b dX8_passHour_45 rfl (lv_at hl 1 rfl) ?_
          refine lv_iconst (v := 0) Z.x Z.b dX8_passHour_46 (by decide) ?_
          refine lv_iconst (v := 1) Z.x Z.b dX8_passHour_47 (by decide) ?_
          refine z_Vv (As := [.int a1, .int 0, .int 1]) Z E hl.1 k_X8_107 v_X8_put hf (fun h' e => c_X8_put l G h13 h' a0 a1 0 1 e) rfl rfl (Nat.le_of_ble_eq_true rfl) (zRm_of rfl (Nat.zero_le _) (Nat.zero_le _)) dX8_passHour_48 (fun h15 H locs hf E => ?_)
          refine lv_goto (tgt := 59) Z.x Z.b dX8_passHour_51 (by decide) ?_
          exact t_X8_passHour_59 Z hr k2 hf E (lv_sub hl [0, 1] rfl)
theorem t_X8_passHour_2 {p : Program} {l : Launch} {e : Env} {s : State} {m : MethodId} {args : Array Value} {below : List Frame} {meth : Method} {c : Code} {G : zG} (Z : zF p s m args c meth cX8_passHour 2 RX8 G) (hr : meth.sig.returnType = none) {out : zHp} : ∀ (n : Nat), ∀ {a0 : Nat} {a1 : Int32} {h : zHp} {H : Heap} {locs : List Loc} {ls : Array Slot}, f_X8_passHour_2 n a0 a1 h = some out → zE G s h H locs → lv_has ls 2 [(0, .ref a0), (1, .int a1)] → W p l e rm_X8_passHour s m args below meth c H locs 0 0 (MQ below (zQv G out) args s 0 0 (zA G)) (F0 m 2 ls [])
  | 0 => fun hf => by cases hf
  | n + 1 => fun hf E hl => t_X8_passHour_2_body Z hr (r2 := f_X8_passHour_2 n) (t_X8_passHour_2 Z hr n) hf E hl
set_option maxHeartbeats 4000000 in
set_option maxRecDepth 20000 in
theorem t_X8_passHour {p : Program} {l : Launch} {e : Env} {s : State} {m : MethodId} {args : Array Value} {below : List Frame} {meth : Method} {c : Code} {G : zG} (Z : zF p s m args c meth cX8_passHour 2 RX8 G) (hr : meth.sig.returnType = none) {out : zHp} {a0 : Nat} {h : zHp} {H : Heap} {locs : List Loc} {ls : Array Slot} (hf : f_X8_passHour a0 h = some out) (E : zE G s h H locs) (hl : lv_has ls 2 [(0, .ref a0)]) : W p l e rm_X8_passHour s m args below meth c H locs 0 0 (MQ below (zQv G out) args s 0 0 (zA G)) (F0 m 0 ls []) := by
  unfold f_X8_passHour at hf
  refine lv_iconst (v := 0) Z.x Z.b dX8_passHour_0 (by decide) ?_
  refine lv_istore_n (lv' := [(1, .int 0), (0, .ref a0)]) Z.x Z.b dX8_passHour_1 rfl hl (by decide) rfl (fun ls hl => ?_)
  exact t_X8_passHour_2 Z hr zN hf E (lv_sub hl [1, 0] rfl)
set_option maxHeartbeats 4000000 in
set_option maxRecDepth 20000 in
theorem c_X8_passHour (l : Launch) (G : zG) (h : zHp) (h' : zHp) (a0 : Nat) (hf : f_X8_passHour a0 h = some h') : zM0 l yX8_passHour cX8_passHour 2 none rm_X8_passHour G [.ref a0] h (zQv G h') := by
  refine Met.ofW (cc := cX8_passHour) (maxL := 2) (ret := none) (by decide) rfl ?_
  intro p e s m args below meth c s₁ B hml hv
  obtain ⟨rfl, hW⟩ := hv
  obtain ⟨Z, E, hr⟩ := zEnter (own := RX8) B hml rfl hW
  have hl := lv_entry ([.ref a0]) (n := 2) (Nat.le_of_ble_eq_true rfl)
  rw [lg_entry_eq]
  generalize (lg_sl ([.ref a0]) ++ List.replicate (2 - (lg_sl ([.ref a0])).length) Slot.unset).toArray = ls at hl ⊢
  have hl : lv_has ls 2 [(0, .ref a0)] := hl
  exact t_X8_passHour (out := h') Z hr hf E hl
/-! FerryCrewsModel.digit(II)I -/
theorem dX8_digit_0 : decode cX8_digit 0 = .ok (.iload_n 0, 1) := by decide +kernel
theorem dX8_digit_1 : decode cX8_digit 1 = .ok (.istore_n 2, 1) := by decide +kernel
theorem dX8_digit_2 : decode cX8_digit 2 = .ok (.iload_n 1, 1) := by decide +kernel
theorem dX8_digit_3 : decode cX8_digit 3 = .ok (.istore_n 3, 1) := by decide +kernel
theorem dX8_digit_4 : decode cX8_digit 4 = .ok (.iload_n 3, 1) := by decide +kernel
theorem dX8_digit_5 : decode cX8_digit 5 = .ok (.iconst 3, 1) := by decide +kernel
theorem dX8_digit_6 : decode cX8_digit 6 = .ok (.if_icmp .ge 14, 3) := by decide +kernel
theorem dX8_digit_9 : decode cX8_digit 9 = .ok (.iload_n 2, 1) := by decide +kernel
theorem dX8_digit_10 : decode cX8_digit 10 = .ok (.bipush 10, 2) := by decide +kernel
theorem dX8_digit_12 : decode cX8_digit 12 = .ok (.idiv, 1) := by decide +kernel
theorem dX8_digit_13 : decode cX8_digit 13 = .ok (.istore_n 2, 1) := by decide +kernel
theorem dX8_digit_14 : decode cX8_digit 14 = .ok (.iinc 3 1, 3) := by decide +kernel
theorem dX8_digit_17 : decode cX8_digit 17 = .ok (.goto (-13), 3) := by decide +kernel
theorem dX8_digit_20 : decode cX8_digit 20 = .ok (.iload_n 2, 1) := by decide +kernel
theorem dX8_digit_21 : decode cX8_digit 21 = .ok (.bipush 10, 2) := by decide +kernel
theorem dX8_digit_23 : decode cX8_digit 23 = .ok (.irem, 1) := by decide +kernel
theorem dX8_digit_24 : decode cX8_digit 24 = .ok (.ireturn, 1) := by decide +kernel
def rm_X8_digit : Room := { frames := 0, cells := 0, slots := 0, locals := 0 }
set_option maxHeartbeats 4000000 in
set_option maxRecDepth 20000 in
theorem t_X8_digit_4_body {p : Program} {l : Launch} {e : Env} {s : State} {m : MethodId} {args : Array Value} {below : List Frame} {meth : Method} {c : Code} {G : zG} (Z : zF p s m args c meth cX8_digit 4 RX8 G) (hr : meth.sig.returnType = (some .int)) {out : Int32 × zHp} {r4 : Int32 → Int32 → zHp → Option (Int32 × zHp)} (k4 : ∀ {a2 : Int32} {a3 : Int32} {h : zHp} {H : Heap} {locs : List Loc} {ls : Array Slot}, r4 a2 a3 h = some out → zE G s h H locs → lv_has ls 4 [(2, .int a2), (3, .int a3)] → W p l e rm_X8_digit s m args below meth c H locs 0 0 (MQ below (zQi G out.1 out.2) args s 0 0 (zA G)) (F0 m 4 ls [])) {a2 : Int32} {a3 : Int32} {h : zHp} {H : Heap} {locs : List Loc} {ls : Array Slot} (hf : f_X8_digit_4_body r4 a2 a3 h = some out) (E : zE G s h H locs) (hl : lv_has ls 4 [(2, .int a2), (3, .int a3)]) : W p l e rm_X8_digit s m args below meth c H locs 0 0 (MQ below (zQi G out.1 out.2) args s 0 0 (zA G)) (F0 m 4 ls []) := by
  unfold f_X8_digit_4_body at hf
  refine lv_iload_n Z.x Z.b dX8_digit_4 rfl (lv_at hl 1 rfl) ?_
  refine lv_iconst (v := 3) Z.x Z.b dX8_digit_5 (by decide) ?_
  refine lv_icmp_ge (tgt := 20) Z.x Z.b dX8_digit_6 (by decide) (fun c => ?_) (fun c => ?_)
  · have hf := zit hf c
    refine lv_iload_n Z.x Z.b dX8_digit_20 rfl (lv_at hl 0 rfl) ?_
    refine lv_bipush (v := 10) Z.x Z.b dX8_digit_21 (by decide) ?_
    refine z_irem Z dX8_digit_23 hf (fun v1 hf => ?_)
    exact z_iret Z E hr dX8_digit_24 hf
  · have hf := zif_ hf c
    refine lv_iload_n Z.x Z.b dX8_digit_9 rfl (lv_at hl 0 rfl) ?_
    refine lv_bipush (v := 10) Z.x Z.b dX8_digit_10 (by decide) ?_
    refine z_idiv Z dX8_digit_12 hf (fun v2 hf => ?_)
    refine lv_istore_n (lv' := [(2, .int v2), (3, .int a3)]) Z.x Z.b dX8_digit_13 rfl hl (by decide) rfl (fun ls hl => ?_)
    refine lv_iinc (v := (a3 + 1)) (lv' := [(3, .int (a3 + 1)), (2, .int v2)]) Z.x Z.b dX8_digit_14 hl (k := 1) rfl rfl (by decide) rfl (fun ls hl => ?_)
    refine lv_goto (tgt := 4) Z.x Z.b dX8_digit_17 (by decide) ?_
    exact k4 hf E (lv_sub hl [1, 0] rfl)
theorem t_X8_digit_4 {p : Program} {l : Launch} {e : Env} {s : State} {m : MethodId} {args : Array Value} {below : List Frame} {meth : Method} {c : Code} {G : zG} (Z : zF p s m args c meth cX8_digit 4 RX8 G) (hr : meth.sig.returnType = (some .int)) {out : Int32 × zHp} : ∀ (n : Nat), ∀ {a2 : Int32} {a3 : Int32} {h : zHp} {H : Heap} {locs : List Loc} {ls : Array Slot}, f_X8_digit_4 n a2 a3 h = some out → zE G s h H locs → lv_has ls 4 [(2, .int a2), (3, .int a3)] → W p l e rm_X8_digit s m args below meth c H locs 0 0 (MQ below (zQi G out.1 out.2) args s 0 0 (zA G)) (F0 m 4 ls [])
  | 0 => fun hf => by cases hf
  | n + 1 => fun hf E hl => t_X8_digit_4_body Z hr (r4 := f_X8_digit_4 n) (t_X8_digit_4 Z hr n) hf E hl
set_option maxHeartbeats 4000000 in
set_option maxRecDepth 20000 in
theorem t_X8_digit {p : Program} {l : Launch} {e : Env} {s : State} {m : MethodId} {args : Array Value} {below : List Frame} {meth : Method} {c : Code} {G : zG} (Z : zF p s m args c meth cX8_digit 4 RX8 G) (hr : meth.sig.returnType = (some .int)) {out : Int32 × zHp} {a0 : Int32} {a1 : Int32} {h : zHp} {H : Heap} {locs : List Loc} {ls : Array Slot} (hf : f_X8_digit a0 a1 h = some out) (E : zE G s h H locs) (hl : lv_has ls 4 [(0, .int a0), (1, .int a1)]) : W p l e rm_X8_digit s m args below meth c H locs 0 0 (MQ below (zQi G out.1 out.2) args s 0 0 (zA G)) (F0 m 0 ls []) := by
  unfold f_X8_digit at hf
  refine lv_iload_n Z.x Z.b dX8_digit_0 rfl (lv_at hl 0 rfl) ?_
  refine lv_istore_n (lv' := [(2, .int a0), (0, .int a0), (1, .int a1)]) Z.x Z.b dX8_digit_1 rfl hl (by decide) rfl (fun ls hl => ?_)
  refine lv_iload_n Z.x Z.b dX8_digit_2 rfl (lv_at hl 2 rfl) ?_
  refine lv_istore_n (lv' := [(3, .int a1), (2, .int a0), (0, .int a0), (1, .int a1)]) Z.x Z.b dX8_digit_3 rfl hl (by decide) rfl (fun ls hl => ?_)
  exact t_X8_digit_4 Z hr zN hf E (lv_sub hl [1, 0] rfl)
set_option maxHeartbeats 4000000 in
set_option maxRecDepth 20000 in
theorem c_X8_digit (l : Launch) (G : zG) (h : zHp) (h' : zHp) (a0 : Int32) (a1 : Int32) (r : Int32) (hf : f_X8_digit a0 a1 h = some (r, h')) : zM0 l yX8_digit cX8_digit 4 (some .int) rm_X8_digit G [.int a0, .int a1] h (zQi G r h') := by
  refine Met.ofW (cc := cX8_digit) (maxL := 4) (ret := (some .int)) (by decide) rfl ?_
  intro p e s m args below meth c s₁ B hml hv
  obtain ⟨rfl, hW⟩ := hv
  obtain ⟨Z, E, hr⟩ := zEnter (own := RX8) B hml rfl hW
  have hl := lv_entry ([.int a0, .int a1]) (n := 4) (Nat.le_of_ble_eq_true rfl)
  rw [lg_entry_eq]
  generalize (lg_sl ([.int a0, .int a1]) ++ List.replicate (4 - (lg_sl ([.int a0, .int a1])).length) Slot.unset).toArray = ls at hl ⊢
  have hl : lv_has ls 4 [(0, .int a0), (1, .int a1)] := hl
  exact t_X8_digit (out := (r, h')) Z hr hf E hl
/-! FerryCrewsModel.isSet(I)Z -/
theorem dX8_isSet_0 : decode cX8_isSet 0 = .ok (.iload_n 0, 1) := by decide +kernel
theorem dX8_isSet_1 : decode cX8_isSet 1 = .ok (.iconst 1, 1) := by decide +kernel
theorem dX8_isSet_2 : decode cX8_isSet 2 = .ok (.sipush 3333, 3) := by decide +kernel
theorem dX8_isSet_5 : decode cX8_isSet 5 = .ok (.invokestatic 42, 3) := by decide +kernel
theorem dX8_isSet_8 : decode cX8_isSet 8 = .ok (.ifCond .ne 5, 3) := by decide +kernel
theorem dX8_isSet_11 : decode cX8_isSet 11 = .ok (.iconst 0, 1) := by decide +kernel
theorem dX8_isSet_12 : decode cX8_isSet 12 = .ok (.ireturn, 1) := by decide +kernel
theorem dX8_isSet_13 : decode cX8_isSet 13 = .ok (.iconst 0, 1) := by decide +kernel
theorem dX8_isSet_14 : decode cX8_isSet 14 = .ok (.istore_n 1, 1) := by decide +kernel
theorem dX8_isSet_15 : decode cX8_isSet 15 = .ok (.iload_n 1, 1) := by decide +kernel
theorem dX8_isSet_16 : decode cX8_isSet 16 = .ok (.iconst 4, 1) := by decide +kernel
theorem dX8_isSet_17 : decode cX8_isSet 17 = .ok (.if_icmp .ge 20, 3) := by decide +kernel
theorem dX8_isSet_20 : decode cX8_isSet 20 = .ok (.iload_n 0, 1) := by decide +kernel
theorem dX8_isSet_21 : decode cX8_isSet 21 = .ok (.iload_n 1, 1) := by decide +kernel
theorem dX8_isSet_22 : decode cX8_isSet 22 = .ok (.invokestatic 122, 3) := by decide +kernel
theorem dX8_isSet_25 : decode cX8_isSet 25 = .ok (.iconst 3, 1) := by decide +kernel
theorem dX8_isSet_26 : decode cX8_isSet 26 = .ok (.if_icmp .le 5, 3) := by decide +kernel
theorem dX8_isSet_29 : decode cX8_isSet 29 = .ok (.iconst 0, 1) := by decide +kernel
theorem dX8_isSet_30 : decode cX8_isSet 30 = .ok (.ireturn, 1) := by decide +kernel
theorem dX8_isSet_31 : decode cX8_isSet 31 = .ok (.iinc 1 1, 3) := by decide +kernel
theorem dX8_isSet_34 : decode cX8_isSet 34 = .ok (.goto (-19), 3) := by decide +kernel
theorem dX8_isSet_37 : decode cX8_isSet 37 = .ok (.iconst 1, 1) := by decide +kernel
theorem dX8_isSet_38 : decode cX8_isSet 38 = .ok (.ireturn, 1) := by decide +kernel
set_option maxRecDepth 20000 in
theorem wc_X8_digit : Cond.code yX8_digit cX8_digit 4 (some .int) ∈ zB := List.mem_filter.mpr ⟨List.mem_of_getElem? (i := 852) (by decide +kernel), by decide +kernel⟩
set_option maxRecDepth 20000 in
theorem wm_X8_122 : Cond.methodLink RX8 122 yX8_digit ∈ zB := List.mem_filter.mpr ⟨List.mem_of_getElem? (i := 850) (by decide +kernel), by decide +kernel⟩
theorem k_X8_122 : zCal RX8 122 yX8_digit cX8_digit 4 (some .int) 2 := ⟨wm_X8_122, wi_X8, wc_X8_digit, by decide +kernel, by decide +kernel, by decide +kernel⟩
set_option maxRecDepth 20000 in
theorem wt_X8_digit : Cond.static yX8_digit ∈ zB := List.mem_filter.mpr ⟨List.mem_of_getElem? (i := 851) (by decide +kernel), by decide +kernel⟩
def rm_X8_isSet : Room := { frames := 1, cells := 0, slots := 0, locals := 23 }
set_option maxHeartbeats 4000000 in
set_option maxRecDepth 20000 in
theorem t_X8_isSet_15_body {p : Program} {l : Launch} {e : Env} {s : State} {m : MethodId} {args : Array Value} {below : List Frame} {meth : Method} {c : Code} {G : zG} (Z : zF p s m args c meth cX8_isSet 2 RX8 G) (hr : meth.sig.returnType = (some .boolean)) {out : Int32 × zHp} {r15 : Int32 → Int32 → zHp → Option (Int32 × zHp)} (k15 : ∀ {a0 : Int32} {a1 : Int32} {h : zHp} {H : Heap} {locs : List Loc} {ls : Array Slot}, r15 a0 a1 h = some out → zE G s h H locs → lv_has ls 2 [(0, .int a0), (1, .int a1)] → W p l e rm_X8_isSet s m args below meth c H locs 0 0 (MQ below (zQi G out.1 out.2) args s 0 0 (zA G)) (F0 m 15 ls [])) {a0 : Int32} {a1 : Int32} {h : zHp} {H : Heap} {locs : List Loc} {ls : Array Slot} (hf : f_X8_isSet_15_body r15 a0 a1 h = some out) (E : zE G s h H locs) (hl : lv_has ls 2 [(0, .int a0), (1, .int a1)]) : W p l e rm_X8_isSet s m args below meth c H locs 0 0 (MQ below (zQi G out.1 out.2) args s 0 0 (zA G)) (F0 m 15 ls []) := by
  unfold f_X8_isSet_15_body at hf
  refine lv_iload_n Z.x Z.b dX8_isSet_15 rfl (lv_at hl 1 rfl) ?_
  refine lv_iconst (v := 4) Z.x Z.b dX8_isSet_16 (by decide) ?_
  refine lv_icmp_ge (tgt := 37) Z.x Z.b dX8_isSet_17 (by decide) (fun c => ?_) (fun c => ?_)
  · have hf := zit hf c
    refine lv_iconst (v := 1) Z.x Z.b dX8_isSet_37 (by decide) ?_
    exact z_zret Z E hr dX8_isSet_38 hf
  · have hf := zif_ hf c
    refine lv_iload_n Z.x Z.b dX8_isSet_20 rfl (lv_at hl 0 rfl) ?_
    refine lv_iload_n Z.x Z.b dX8_isSet_21 rfl (lv_at hl 1 rfl) ?_
    refine z_Si (As := [.int a0, .int a1]) Z E hl.1 k_X8_122 wt_X8_digit hf (fun r h' e => c_X8_digit l G h h' a0 a1 r e) rfl rfl (Nat.le_of_ble_eq_true rfl) (zRm_of rfl (Nat.zero_le _) (Nat.zero_le _)) dX8_isSet_22 (fun v1 h2 H locs hf E => ?_)
    refine lv_iconst (v := 3) Z.x Z.b dX8_isSet_25 (by decide) ?_
    refine lv_icmp_le (tgt := 31) Z.x Z.b dX8_isSet_26 (by decide) (fun c => ?_) (fun c => ?_)
    · have hf := zit hf c
      refine lv_iinc (v := (a1 + 1)) (lv' := [(1, .int (a1 + 1)), (0, .int a0)]) Z.x Z.b dX8_isSet_31 hl (k := 1) rfl rfl (by decide) rfl (fun ls hl => ?_)
      refine lv_goto (tgt := 15) Z.x Z.b dX8_isSet_34 (by decide) ?_
      exact k15 hf E (lv_sub hl [1, 0] rfl)
    · have hf := zif_ hf c
      refine lv_iconst (v := 0) Z.x Z.b dX8_isSet_29 (by decide) ?_
      exact z_zret Z E hr dX8_isSet_30 hf
theorem t_X8_isSet_15 {p : Program} {l : Launch} {e : Env} {s : State} {m : MethodId} {args : Array Value} {below : List Frame} {meth : Method} {c : Code} {G : zG} (Z : zF p s m args c meth cX8_isSet 2 RX8 G) (hr : meth.sig.returnType = (some .boolean)) {out : Int32 × zHp} : ∀ (n : Nat), ∀ {a0 : Int32} {a1 : Int32} {h : zHp} {H : Heap} {locs : List Loc} {ls : Array Slot}, f_X8_isSet_15 n a0 a1 h = some out → zE G s h H locs → lv_has ls 2 [(0, .int a0), (1, .int a1)] → W p l e rm_X8_isSet s m args below meth c H locs 0 0 (MQ below (zQi G out.1 out.2) args s 0 0 (zA G)) (F0 m 15 ls [])
  | 0 => fun hf => by cases hf
  | n + 1 => fun hf E hl => t_X8_isSet_15_body Z hr (r15 := f_X8_isSet_15 n) (t_X8_isSet_15 Z hr n) hf E hl
set_option maxHeartbeats 4000000 in
set_option maxRecDepth 20000 in
theorem t_X8_isSet {p : Program} {l : Launch} {e : Env} {s : State} {m : MethodId} {args : Array Value} {below : List Frame} {meth : Method} {c : Code} {G : zG} (Z : zF p s m args c meth cX8_isSet 2 RX8 G) (hr : meth.sig.returnType = (some .boolean)) {out : Int32 × zHp} {a0 : Int32} {h : zHp} {H : Heap} {locs : List Loc} {ls : Array Slot} (hf : f_X8_isSet a0 h = some out) (E : zE G s h H locs) (hl : lv_has ls 2 [(0, .int a0)]) : W p l e rm_X8_isSet s m args below meth c H locs 0 0 (MQ below (zQi G out.1 out.2) args s 0 0 (zA G)) (F0 m 0 ls []) := by
  unfold f_X8_isSet at hf
  refine lv_iload_n Z.x Z.b dX8_isSet_0 rfl (lv_at hl 0 rfl) ?_
  refine lv_iconst (v := 1) Z.x Z.b dX8_isSet_1 (by decide) ?_
  refine lv_sipush (v := 3333) Z.x Z.b dX8_isSet_2 (by decide) ?_
  refine z_Si (As := [.int a0, .int 1, .int 3333]) Z E hl.1 k_X8_42 wt_X8_in hf (fun r h' e => c_X8_in l G h h' a0 1 3333 r e) rfl rfl (Nat.le_of_ble_eq_true rfl) (zRm_of rfl (Nat.zero_le _) (Nat.zero_le _)) dX8_isSet_5 (fun v1 h2 H locs hf E => ?_)
  refine lv_if_ne (tgt := 13) Z.x Z.b dX8_isSet_8 (by decide) (fun c => ?_) (fun c => ?_)
  · have hf := zif_ hf c
    refine lv_iconst (v := 0) Z.x Z.b dX8_isSet_13 (by decide) ?_
    refine lv_istore_n (lv' := [(1, .int 0), (0, .int a0)]) Z.x Z.b dX8_isSet_14 rfl hl (by decide) rfl (fun ls hl => ?_)
    exact t_X8_isSet_15 Z hr zN hf E (lv_sub hl [1, 0] rfl)
  · have hf := zit hf c
    refine lv_iconst (v := 0) Z.x Z.b dX8_isSet_11 (by decide) ?_
    exact z_zret Z E hr dX8_isSet_12 hf
set_option maxHeartbeats 4000000 in
set_option maxRecDepth 20000 in
theorem c_X8_isSet (l : Launch) (G : zG) (h : zHp) (h' : zHp) (a0 : Int32) (r : Int32) (hf : f_X8_isSet a0 h = some (r, h')) : zM0 l yX8_isSet cX8_isSet 2 (some .boolean) rm_X8_isSet G [.int a0] h (zQi G r h') := by
  refine Met.ofW (cc := cX8_isSet) (maxL := 2) (ret := (some .boolean)) (by decide) rfl ?_
  intro p e s m args below meth c s₁ B hml hv
  obtain ⟨rfl, hW⟩ := hv
  obtain ⟨Z, E, hr⟩ := zEnter (own := RX8) B hml rfl hW
  have hl := lv_entry ([.int a0]) (n := 2) (Nat.le_of_ble_eq_true rfl)
  rw [lg_entry_eq]
  generalize (lg_sl ([.int a0]) ++ List.replicate (2 - (lg_sl ([.int a0])).length) Slot.unset).toArray = ls at hl ⊢
  have hl : lv_has ls 2 [(0, .int a0)] := hl
  exact t_X8_isSet (out := (r, h')) Z hr hf E hl
/-! FerryCrewsModel.hinders(IIII)I -/
theorem dX8_hinders_0 : decode cX8_hinders 0 = .ok (.iload_n 1, 1) := by decide +kernel
theorem dX8_hinders_1 : decode cX8_hinders 1 = .ok (.iconst 0, 1) := by decide +kernel
theorem dX8_hinders_2 : decode cX8_hinders 2 = .ok (.iconst 5, 1) := by decide +kernel
theorem dX8_hinders_3 : decode cX8_hinders 3 = .ok (.invokestatic 42, 3) := by decide +kernel
theorem dX8_hinders_6 : decode cX8_hinders 6 = .ok (.ifCond .ne 5, 3) := by decide +kernel
theorem dX8_hinders_9 : decode cX8_hinders 9 = .ok (.iconst (-1), 1) := by decide +kernel
theorem dX8_hinders_10 : decode cX8_hinders 10 = .ok (.ireturn, 1) := by decide +kernel
theorem dX8_hinders_11 : decode cX8_hinders 11 = .ok (.iload_n 2, 1) := by decide +kernel
theorem dX8_hinders_12 : decode cX8_hinders 12 = .ok (.aload_n 0, 1) := by decide +kernel
theorem dX8_hinders_13 : decode cX8_hinders 13 = .ok (.getfield 7, 3) := by decide +kernel
theorem dX8_hinders_16 : decode cX8_hinders 16 = .ok (.iconst 0, 1) := by decide +kernel
theorem dX8_hinders_17 : decode cX8_hinders 17 = .ok (.iaload, 1) := by decide +kernel
theorem dX8_hinders_18 : decode cX8_hinders 18 = .ok (.sipush 900, 3) := by decide +kernel
theorem dX8_hinders_21 : decode cX8_hinders 21 = .ok (.invokestatic 42, 3) := by decide +kernel
theorem dX8_hinders_24 : decode cX8_hinders 24 = .ok (.ifCond .eq 21, 3) := by decide +kernel
theorem dX8_hinders_27 : decode cX8_hinders 27 = .ok (.iload_n 3, 1) := by decide +kernel
theorem dX8_hinders_28 : decode cX8_hinders 28 = .ok (.iconst 1, 1) := by decide +kernel
theorem dX8_hinders_29 : decode cX8_hinders 29 = .ok (.bipush 12, 2) := by decide +kernel
theorem dX8_hinders_31 : decode cX8_hinders 31 = .ok (.invokestatic 42, 3) := by decide +kernel
theorem dX8_hinders_34 : decode cX8_hinders 34 = .ok (.ifCond .eq 11, 3) := by decide +kernel
theorem dX8_hinders_37 : decode cX8_hinders 37 = .ok (.iload 4, 2) := by decide +kernel
theorem dX8_hinders_39 : decode cX8_hinders 39 = .ok (.invokestatic 125, 3) := by decide +kernel
theorem dX8_hinders_42 : decode cX8_hinders 42 = .ok (.ifCond .ne 6, 3) := by decide +kernel
theorem dX8_hinders_45 : decode cX8_hinders 45 = .ok (.bipush (-2), 2) := by decide +kernel
theorem dX8_hinders_47 : decode cX8_hinders 47 = .ok (.ireturn, 1) := by decide +kernel
theorem dX8_hinders_48 : decode cX8_hinders 48 = .ok (.iconst 0, 1) := by decide +kernel
theorem dX8_hinders_49 : decode cX8_hinders 49 = .ok (.istore 5, 2) := by decide +kernel
theorem dX8_hinders_51 : decode cX8_hinders 51 = .ok (.iload 5, 2) := by decide +kernel
theorem dX8_hinders_53 : decode cX8_hinders 53 = .ok (.aload_n 0, 1) := by decide +kernel
theorem dX8_hinders_54 : decode cX8_hinders 54 = .ok (.getfield 7, 3) := by decide +kernel
theorem dX8_hinders_57 : decode cX8_hinders 57 = .ok (.iconst 1, 1) := by decide +kernel
theorem dX8_hinders_58 : decode cX8_hinders 58 = .ok (.iaload, 1) := by decide +kernel
theorem dX8_hinders_59 : decode cX8_hinders 59 = .ok (.if_icmp .ge 56, 3) := by decide +kernel
theorem dX8_hinders_62 : decode cX8_hinders 62 = .ok (.aload_n 0, 1) := by decide +kernel
theorem dX8_hinders_63 : decode cX8_hinders 63 = .ok (.iload 5, 2) := by decide +kernel
theorem dX8_hinders_65 : decode cX8_hinders 65 = .ok (.iconst 2, 1) := by decide +kernel
theorem dX8_hinders_66 : decode cX8_hinders 66 = .ok (.invokevirtual 62, 3) := by decide +kernel
theorem dX8_hinders_69 : decode cX8_hinders 69 = .ok (.ifCond .ne 40, 3) := by decide +kernel
theorem dX8_hinders_72 : decode cX8_hinders 72 = .ok (.aload_n 0, 1) := by decide +kernel
theorem dX8_hinders_73 : decode cX8_hinders 73 = .ok (.iload 5, 2) := by decide +kernel
theorem dX8_hinders_75 : decode cX8_hinders 75 = .ok (.iconst 1, 1) := by decide +kernel
theorem dX8_hinders_76 : decode cX8_hinders 76 = .ok (.invokevirtual 38, 3) := by decide +kernel
theorem dX8_hinders_79 : decode cX8_hinders 79 = .ok (.iload_n 1, 1) := by decide +kernel
theorem dX8_hinders_80 : decode cX8_hinders 80 = .ok (.if_icmp .ne 29, 3) := by decide +kernel
theorem dX8_hinders_83 : decode cX8_hinders 83 = .ok (.aload_n 0, 1) := by decide +kernel
theorem dX8_hinders_84 : decode cX8_hinders 84 = .ok (.iload 5, 2) := by decide +kernel
theorem dX8_hinders_86 : decode cX8_hinders 86 = .ok (.iconst 2, 1) := by decide +kernel
theorem dX8_hinders_87 : decode cX8_hinders 87 = .ok (.invokevirtual 38, 3) := by decide +kernel
theorem dX8_hinders_90 : decode cX8_hinders 90 = .ok (.iload_n 2, 1) := by decide +kernel
theorem dX8_hinders_91 : decode cX8_hinders 91 = .ok (.iload_n 3, 1) := by decide +kernel
theorem dX8_hinders_92 : decode cX8_hinders 92 = .ok (.iadd, 1) := by decide +kernel
theorem dX8_hinders_93 : decode cX8_hinders 93 = .ok (.if_icmp .ge 16, 3) := by decide +kernel
theorem dX8_hinders_96 : decode cX8_hinders 96 = .ok (.iload_n 2, 1) := by decide +kernel
theorem dX8_hinders_97 : decode cX8_hinders 97 = .ok (.aload_n 0, 1) := by decide +kernel
theorem dX8_hinders_98 : decode cX8_hinders 98 = .ok (.iload 5, 2) := by decide +kernel
theorem dX8_hinders_100 : decode cX8_hinders 100 = .ok (.invokevirtual 69, 3) := by decide +kernel
theorem dX8_hinders_103 : decode cX8_hinders 103 = .ok (.if_icmp .ge 6, 3) := by decide +kernel
theorem dX8_hinders_106 : decode cX8_hinders 106 = .ok (.bipush (-4), 2) := by decide +kernel
theorem dX8_hinders_108 : decode cX8_hinders 108 = .ok (.ireturn, 1) := by decide +kernel
theorem dX8_hinders_109 : decode cX8_hinders 109 = .ok (.iinc 5 1, 3) := by decide +kernel
theorem dX8_hinders_112 : decode cX8_hinders 112 = .ok (.goto (-61), 3) := by decide +kernel
theorem dX8_hinders_115 : decode cX8_hinders 115 = .ok (.aload_n 0, 1) := by decide +kernel
theorem dX8_hinders_116 : decode cX8_hinders 116 = .ok (.getfield 7, 3) := by decide +kernel
theorem dX8_hinders_119 : decode cX8_hinders 119 = .ok (.iconst 1, 1) := by decide +kernel
theorem dX8_hinders_120 : decode cX8_hinders 120 = .ok (.iaload, 1) := by decide +kernel
theorem dX8_hinders_121 : decode cX8_hinders 121 = .ok (.bipush 48, 2) := by decide +kernel
theorem dX8_hinders_123 : decode cX8_hinders 123 = .ok (.if_icmp .ne 8, 3) := by decide +kernel
theorem dX8_hinders_126 : decode cX8_hinders 126 = .ok (.bipush (-3), 2) := by decide +kernel
theorem dX8_hinders_128 : decode cX8_hinders 128 = .ok (.goto 4, 3) := by decide +kernel
theorem dX8_hinders_131 : decode cX8_hinders 131 = .ok (.iconst 0, 1) := by decide +kernel
theorem dX8_hinders_132 : decode cX8_hinders 132 = .ok (.ireturn, 1) := by decide +kernel
set_option maxRecDepth 20000 in
theorem wc_X8_isSet : Cond.code yX8_isSet cX8_isSet 2 (some .boolean) ∈ zB := List.mem_filter.mpr ⟨List.mem_of_getElem? (i := 849) (by decide +kernel), by decide +kernel⟩
set_option maxRecDepth 20000 in
theorem wm_X8_125 : Cond.methodLink RX8 125 yX8_isSet ∈ zB := List.mem_filter.mpr ⟨List.mem_of_getElem? (i := 847) (by decide +kernel), by decide +kernel⟩
theorem k_X8_125 : zCal RX8 125 yX8_isSet cX8_isSet 2 (some .boolean) 1 := ⟨wm_X8_125, wi_X8, wc_X8_isSet, by decide +kernel, by decide +kernel, by decide +kernel⟩
set_option maxRecDepth 20000 in
theorem wt_X8_isSet : Cond.static yX8_isSet ∈ zB := List.mem_filter.mpr ⟨List.mem_of_getElem? (i := 848) (by decide +kernel), by decide +kernel⟩
def rm_X8_hinders : Room := { frames := 2, cells := 0, slots := 0, locals := 44 }
set_option maxHeartbeats 4000000 in
set_option maxRecDepth 20000 in
theorem t_X8_hinders_109 {p : Program} {l : Launch} {e : Env} {s : State} {m : MethodId} {args : Array Value} {below : List Frame} {meth : Method} {c : Code} {G : zG} (Z : zF p s m args c meth cX8_hinders 6 RX8 G) (hr : meth.sig.returnType = (some .int)) {out : Int32 × zHp} {r51 : Nat → Int32 → Int32 → Int32 → Int32 → zHp → Option (Int32 × zHp)} (k51 : ∀ {a0 : Nat} {a1 : Int32} {a2 : Int32} {a3 : Int32} {a5 : Int32} {h : zHp} {H : Heap} {locs : List Loc} {ls : Array Slot}, r51 a0 a1 a2 a3 a5 h = some out → zE G s h H locs → lv_has ls 6 [(0, .ref a0), (1, .int a1), (2, .int a2), (3, .int a3), (5, .int a5)] → W p l e rm_X8_hinders s m args below meth c H locs 0 0 (MQ below (zQi G out.1 out.2) args s 0 0 (zA G)) (F0 m 51 ls [])) {a0 : Nat} {a1 : Int32} {a2 : Int32} {a3 : Int32} {a5 : Int32} {h : zHp} {H : Heap} {locs : List Loc} {ls : Array Slot} (hf : f_X8_hinders_109 r51 a0 a1 a2 a3 a5 h = some out) (E : zE G s h H locs) (hl : lv_has ls 6 [(0, .ref a0), (1, .int a1), (2, .int a2), (3, .int a3), (5, .int a5)]) : W p l e rm_X8_hinders s m args below meth c H locs 0 0 (MQ below (zQi G out.1 out.2) args s 0 0 (zA G)) (F0 m 109 ls []) := by
  unfold f_X8_hinders_109 at hf
  refine lv_iinc (v := (a5 + 1)) (lv' := [(5, .int (a5 + 1)), (0, .ref a0), (1, .int a1), (2, .int a2), (3, .int a3)]) Z.x Z.b dX8_hinders_109 hl (k := 4) rfl rfl (by decide) rfl (fun ls hl => ?_)
  refine lv_goto (tgt := 51) Z.x Z.b dX8_hinders_112 (by decide) ?_
  exact k51 hf E (lv_sub hl [1, 2, 3, 4, 0] rfl)
set_option maxHeartbeats 4000000 in
set_option maxRecDepth 20000 in
theorem t_X8_hinders_51_body {p : Program} {l : Launch} {e : Env} {s : State} {m : MethodId} {args : Array Value} {below : List Frame} {meth : Method} {c : Code} {G : zG} (Z : zF p s m args c meth cX8_hinders 6 RX8 G) (hr : meth.sig.returnType = (some .int)) {out : Int32 × zHp} {r51 : Nat → Int32 → Int32 → Int32 → Int32 → zHp → Option (Int32 × zHp)} (k51 : ∀ {a0 : Nat} {a1 : Int32} {a2 : Int32} {a3 : Int32} {a5 : Int32} {h : zHp} {H : Heap} {locs : List Loc} {ls : Array Slot}, r51 a0 a1 a2 a3 a5 h = some out → zE G s h H locs → lv_has ls 6 [(0, .ref a0), (1, .int a1), (2, .int a2), (3, .int a3), (5, .int a5)] → W p l e rm_X8_hinders s m args below meth c H locs 0 0 (MQ below (zQi G out.1 out.2) args s 0 0 (zA G)) (F0 m 51 ls [])) {a0 : Nat} {a1 : Int32} {a2 : Int32} {a3 : Int32} {a5 : Int32} {h : zHp} {H : Heap} {locs : List Loc} {ls : Array Slot} (hf : f_X8_hinders_51_body r51 a0 a1 a2 a3 a5 h = some out) (E : zE G s h H locs) (hl : lv_has ls 6 [(0, .ref a0), (1, .int a1), (2, .int a2), (3, .int a3), (5, .int a5)]) : W p l e rm_X8_hinders s m args below meth c H locs 0 0 (MQ below (zQi G out.1 out.2) args s 0 0 (zA G)) (F0 m 51 ls []) := by
  unfold f_X8_hinders_51_body at hf
  refine lv_iload Z.x Z.b dX8_hinders_51 (lv_at hl 4 rfl) ?_
  refine lv_aload_n Z.x Z.b dX8_hinders_53 rfl (lv_at hl 0 rfl) ?_
  refine z_getR Z E q_X8_7 dX8_hinders_54 hf (fun v1 hf => ?_)
  refine lv_iconst (v := 1) Z.x Z.b dX8_hinders_57 (by decide) ?_
  refine z_iald Z E dX8_hinders_58 hf (fun v2 hf => ?_)
  refine lv_icmp_ge (tgt := 115) Z.x Z.b dX8_hinders_59 (by decide) (fun c => ?_) (fun c => ?_)
  · have hf := zit hf c
    refine lv_aload_n Z.x Z.b dX8_hinders_115 rfl (lv_at hl 0 rfl) ?_
    refine z_getR Z E q_X8_7 dX8_hinders_116 hf (fun v3 hf => ?_)
    refine lv_iconst (v := 1) Z.x Z.b dX8_hinders_119 (by decide) ?_
    refine z_iald Z E dX8_hinders_120 hf (fun v4 hf => ?_)
    refine lv_bipush (v := 48) Z.x Z.b dX8_hinders_121 (by decide) ?_
    refine lv_icmp_ne (tgt := 131) Z.x Z.b dX8_hinders_123 (by decide) (fun c => ?_) (fun c => ?_)
    · have hf := zif_ hf c
      refine lv_iconst (v := 0) Z.x Z.b dX8_hinders_131 (by decide) ?_
      exact z_iret Z E hr dX8_hinders_132 hf
    · have hf := zit hf c
      refine lv_bipush (v := (-3)) Z.x Z.b dX8_hinders_126 (by decide) ?_
      refine lv_goto (tgt := 132) Z.x Z.b dX8_hinders_128 (by decide) ?_
      exact z_iret Z E hr dX8_hinders_132 hf
  · have hf := zif_ hf c
    refine lv_aload_n Z.x Z.b dX8_hinders_62 rfl (lv_at hl 0 rfl) ?_
    refine lv_iload Z.x Z.b dX8_hinders_63 (lv_at hl 4 rfl) ?_
    refine lv_iconst (v := 2) Z.x Z.b dX8_hinders_65 (by decide) ?_
    refine z_Vi (As := [.int a5, .int 2]) Z E hl.1 k_X8_62 v_X8_is hf (fun r h' e => c_X8_is l G h h' a0 a5 2 r e) rfl rfl (Nat.le_of_ble_eq_true rfl) (zRm_of rfl (Nat.zero_le _) (Nat.zero_le _)) dX8_hinders_66 (fun v5 h6 H locs hf E => ?_)
    refine lv_if_ne (tgt := 109) Z.x Z.b dX8_hinders_69 (by decide) (fun c => ?_) (fun c => ?_)
    · have hf := zif_ hf c
      exact t_X8_hinders_109 Z hr k51 hf E (lv_sub hl [0, 1, 2, 3, 4] rfl)
    · have hf := zit hf c
      refine lv_aload_n Z.x Z.b dX8_hinders_72 rfl (lv_at hl 0 rfl) ?_
      refine lv_iload Z.x Z.b dX8_hinders_73 (lv_at hl 4 rfl) ?_
      refine lv_iconst (v := 1) Z.x Z.b dX8_hinders_75 (by decide) ?_
      refine z_Vi (As := [.int a5, .int 1]) Z E hl.1 k_X8_38 v_X8_of hf (fun r h' e => c_X8_of l G h6 h' a0 a5 1 r e) rfl rfl (Nat.le_of_ble_eq_true rfl) (zRm_of rfl (Nat.zero_le _) (Nat.zero_le _)) dX8_hinders_76 (fun v7 h8 H locs hf E => ?_)
      refine lv_iload_n Z.x Z.b dX8_hinders_79 rfl (lv_at hl 1 rfl) ?_
      refine lv_icmp_ne (tgt := 109) Z.x Z.b dX8_hinders_80 (by decide) (fun c => ?_) (fun c => ?_)
      · have hf := zif_ hf c
        exact t_X8_hinders_109 Z hr k51 hf E (lv_sub hl [0, 1, 2, 3, 4] rfl)
      · have hf := zit hf c
        refine lv_aload_n Z.x Z.b dX8_hinders_83 rfl (lv_at hl 0 rfl) ?_
        refine lv_iload Z.x Z.b dX8_hinders_84 (lv_at hl 4 rfl) ?_
        refine lv_iconst (v := 2) Z.x Z.b dX8_hinders_86 (by decide) ?_
        refine z_Vi (As := [.int a5, .int 2]) Z E hl.1 k_X8_38 v_X8_of hf (fun r h' e => c_X8_of l G h8 h' a0 a5 2 r e) rfl rfl (Nat.le_of_ble_eq_true rfl) (zRm_of rfl (Nat.zero_le _) (Nat.zero_le _)) dX8_hinders_87 (fun v9 h10 H locs hf E => ?_)
        refine lv_iload_n Z.x Z.b dX8_hinders_90 rfl (lv_at hl 2 rfl) ?_
        refine lv_iload_n Z.x Z.b dX8_hinders_91 rfl (lv_at hl 3 rfl) ?_
        refine lv_iadd Z.x Z.b dX8_hinders_92 ?_
        refine lv_icmp_ge (tgt := 109) Z.x Z.b dX8_hinders_93 (by decide) (fun c => ?_) (fun c => ?_)
        · have hf := zit hf c
          exact t_X8_hinders_109 Z hr k51 hf E (lv_sub hl [0, 1, 2, 3, 4] rfl)
        · have hf := zif_ hf c
          refine lv_iload_n Z.x Z.b dX8_hinders_96 rfl (lv_at hl 2 rfl) ?_
          refine lv_aload_n Z.x Z.b dX8_hinders_97 rfl (lv_at hl 0 rfl) ?_
          refine lv_iload Z.x Z.b dX8_hinders_98 (lv_at hl 4 rfl) ?_
          refine z_Vi (As := [.int a5]) Z E hl.1 k_X8_69 v_X8_end hf (fun r h' e => c_X8_end l G h10 h' a0 a5 r e) rfl rfl (Nat.le_of_ble_eq_true rfl) (zRm_of rfl (Nat.zero_le _) (Nat.zero_le _)) dX8_hinders_100 (fun v11 h12 H locs hf E => ?_)
          refine lv_icmp_ge (tgt := 109) Z.x Z.b dX8_hinders_103 (by decide) (fun c => ?_) (fun c => ?_)
          · have hf := zit hf c
            exact t_X8_hinders_109 Z hr k51 hf E (lv_sub hl [0, 1, 2, 3, 4] rfl)
          · have hf := zif_ hf c
            refine lv_bipush (v := (-4)) Z.x Z.b dX8_hinders_106 (by decide) ?_
            exact z_iret Z E hr dX8_hinders_108 hf
theorem t_X8_hinders_51 {p : Program} {l : Launch} {e : Env} {s : State} {m : MethodId} {args : Array Value} {below : List Frame} {meth : Method} {c : Code} {G : zG} (Z : zF p s m args c meth cX8_hinders 6 RX8 G) (hr : meth.sig.returnType = (some .int)) {out : Int32 × zHp} : ∀ (n : Nat), ∀ {a0 : Nat} {a1 : Int32} {a2 : Int32} {a3 : Int32} {a5 : Int32} {h : zHp} {H : Heap} {locs : List Loc} {ls : Array Slot}, f_X8_hinders_51 n a0 a1 a2 a3 a5 h = some out → zE G s h H locs → lv_has ls 6 [(0, .ref a0), (1, .int a1), (2, .int a2), (3, .int a3), (5, .int a5)] → W p l e rm_X8_hinders s m args below meth c H locs 0 0 (MQ below (zQi G out.1 out.2) args s 0 0 (zA G)) (F0 m 51 ls [])
  | 0 => fun hf => by cases hf
  | n + 1 => fun hf E hl => t_X8_hinders_51_body Z hr (r51 := f_X8_hinders_51 n) (t_X8_hinders_51 Z hr n) hf E hl
set_option maxHeartbeats 4000000 in
set_option maxRecDepth 20000 in
theorem t_X8_hinders {p : Program} {l : Launch} {e : Env} {s : State} {m : MethodId} {args : Array Value} {below : List Frame} {meth : Method} {c : Code} {G : zG} (Z : zF p s m args c meth cX8_hinders 6 RX8 G) (hr : meth.sig.returnType = (some .int)) {out : Int32 × zHp} {a0 : Nat} {a1 : Int32} {a2 : Int32} {a3 : Int32} {a4 : Int32} {h : zHp} {H : Heap} {locs : List Loc} {ls : Array Slot} (hf : f_X8_hinders a0 a1 a2 a3 a4 h = some out) (E : zE G s h H locs) (hl : lv_has ls 6 [(0, .ref a0), (1, .int a1), (2, .int a2), (3, .int a3), (4, .int a4)]) : W p l e rm_X8_hinders s m args below meth c H locs 0 0 (MQ below (zQi G out.1 out.2) args s 0 0 (zA G)) (F0 m 0 ls []) := by
  unfold f_X8_hinders at hf
  refine lv_iload_n Z.x Z.b dX8_hinders_0 rfl (lv_at hl 1 rfl) ?_
  refine lv_iconst (v := 0) Z.x Z.b dX8_hinders_1 (by decide) ?_
  refine lv_iconst (v := 5) Z.x Z.b dX8_hinders_2 (by decide) ?_
  refine z_Si (As := [.int a1, .int 0, .int 5]) Z E hl.1 k_X8_42 wt_X8_in hf (fun r h' e => c_X8_in l G h h' a1 0 5 r e) rfl rfl (Nat.le_of_ble_eq_true rfl) (zRm_of rfl (Nat.zero_le _) (Nat.zero_le _)) dX8_hinders_3 (fun v1 h2 H locs hf E => ?_)
  refine lv_if_ne (tgt := 11) Z.x Z.b dX8_hinders_6 (by decide) (fun c => ?_) (fun c => ?_)
  · have hf := zif_ hf c
    refine lv_iload_n Z.x Z.b dX8_hinders_11 rfl (lv_at hl 2 rfl) ?_
    refine lv_aload_n Z.x Z.b dX8_hinders_12 rfl (lv_at hl 0 rfl) ?_
    refine z_getR Z E q_X8_7 dX8_hinders_13 hf (fun v3 hf => ?_)
    refine lv_iconst (v := 0) Z.x Z.b dX8_hinders_16 (by decide) ?_
    refine z_iald Z E dX8_hinders_17 hf (fun v4 hf => ?_)
    refine lv_sipush (v := 900) Z.x Z.b dX8_hinders_18 (by decide) ?_
    refine z_Si (As := [.int a2, .int v4, .int 900]) Z E hl.1 k_X8_42 wt_X8_in hf (fun r h' e => c_X8_in l G h2 h' a2 v4 900 r e) rfl rfl (Nat.le_of_ble_eq_true rfl) (zRm_of rfl (Nat.zero_le _) (Nat.zero_le _)) dX8_hinders_21 (fun v5 h6 H locs hf E => ?_)
    refine lv_if_eq (tgt := 45) Z.x Z.b dX8_hinders_24 (by decide) (fun c => ?_) (fun c => ?_)
    · have hf := zit hf c
      refine lv_bipush (v := (-2)) Z.x Z.b dX8_hinders_45 (by decide) ?_
      exact z_iret Z E hr dX8_hinders_47 hf
    · have hf := zif_ hf c
      refine lv_iload_n Z.x Z.b dX8_hinders_27 rfl (lv_at hl 3 rfl) ?_
      refine lv_iconst (v := 1) Z.x Z.b dX8_hinders_28 (by decide) ?_
      refine lv_bipush (v := 12) Z.x Z.b dX8_hinders_29 (by decide) ?_
      refine z_Si (As := [.int a3, .int 1, .int 12]) Z E hl.1 k_X8_42 wt_X8_in hf (fun r h' e => c_X8_in l G h6 h' a3 1 12 r e) rfl rfl (Nat.le_of_ble_eq_true rfl) (zRm_of rfl (Nat.zero_le _) (Nat.zero_le _)) dX8_hinders_31 (fun v7 h8 H locs hf E => ?_)
      refine lv_if_eq (tgt := 45) Z.x Z.b dX8_hinders_34 (by decide) (fun c => ?_) (fun c => ?_)
      · have hf := zit hf c
        refine lv_bipush (v := (-2)) Z.x Z.b dX8_hinders_45 (by decide) ?_
        exact z_iret Z E hr dX8_hinders_47 hf
      · have hf := zif_ hf c
        refine lv_iload Z.x Z.b dX8_hinders_37 (lv_at hl 4 rfl) ?_
        refine z_Si (As := [.int a4]) Z E hl.1 k_X8_125 wt_X8_isSet hf (fun r h' e => c_X8_isSet l G h8 h' a4 r e) rfl rfl (Nat.le_of_ble_eq_true rfl) (zRm_of rfl (Nat.zero_le _) (Nat.zero_le _)) dX8_hinders_39 (fun v9 h10 H locs hf E => ?_)
        refine lv_if_ne (tgt := 48) Z.x Z.b dX8_hinders_42 (by decide) (fun c => ?_) (fun c => ?_)
        · have hf := zif_ hf c
          refine lv_iconst (v := 0) Z.x Z.b dX8_hinders_48 (by decide) ?_
          refine lv_istore (lv' := [(5, .int 0), (0, .ref a0), (1, .int a1), (2, .int a2), (3, .int a3), (4, .int a4)]) Z.x Z.b dX8_hinders_49 hl (by decide) rfl (fun ls hl => ?_)
          exact t_X8_hinders_51 Z hr zN hf E (lv_sub hl [1, 2, 3, 4, 0] rfl)
        · have hf := zit hf c
          refine lv_bipush (v := (-2)) Z.x Z.b dX8_hinders_45 (by decide) ?_
          exact z_iret Z E hr dX8_hinders_47 hf
  · have hf := zit hf c
    refine lv_iconst (v := (-1)) Z.x Z.b dX8_hinders_9 (by decide) ?_
    exact z_iret Z E hr dX8_hinders_10 hf
set_option maxHeartbeats 4000000 in
set_option maxRecDepth 20000 in
theorem c_X8_hinders (l : Launch) (G : zG) (h : zHp) (h' : zHp) (a0 : Nat) (a1 : Int32) (a2 : Int32) (a3 : Int32) (a4 : Int32) (r : Int32) (hf : f_X8_hinders a0 a1 a2 a3 a4 h = some (r, h')) : zM0 l yX8_hinders cX8_hinders 6 (some .int) rm_X8_hinders G [.ref a0, .int a1, .int a2, .int a3, .int a4] h (zQi G r h') := by
  refine Met.ofW (cc := cX8_hinders) (maxL := 6) (ret := (some .int)) (by decide) rfl ?_
  intro p e s m args below meth c s₁ B hml hv
  obtain ⟨rfl, hW⟩ := hv
  obtain ⟨Z, E, hr⟩ := zEnter (own := RX8) B hml rfl hW
  have hl := lv_entry ([.ref a0, .int a1, .int a2, .int a3, .int a4]) (n := 6) (Nat.le_of_ble_eq_true rfl)
  rw [lg_entry_eq]
  generalize (lg_sl ([.ref a0, .int a1, .int a2, .int a3, .int a4]) ++ List.replicate (6 - (lg_sl ([.ref a0, .int a1, .int a2, .int a3, .int a4])).length) Slot.unset).toArray = ls at hl ⊢
  have hl : lv_has ls 6 [(0, .ref a0), (1, .int a1), (2, .int a2), (3, .int a3), (4, .int a4)] := hl
  exact t_X8_hinders (out := (r, h')) Z hr hf E hl
/-! FerryCrewsModel.addSailing(IIII)I -/
theorem dX8_addSailing_0 : decode cX8_addSailing 0 = .ok (.aload_n 0, 1) := by decide +kernel
theorem dX8_addSailing_1 : decode cX8_addSailing 1 = .ok (.getfield 7, 3) := by decide +kernel
theorem dX8_addSailing_4 : decode cX8_addSailing 4 = .ok (.iconst 1, 1) := by decide +kernel
theorem dX8_addSailing_5 : decode cX8_addSailing 5 = .ok (.iaload, 1) := by decide +kernel
theorem dX8_addSailing_6 : decode cX8_addSailing 6 = .ok (.istore 5, 2) := by decide +kernel
theorem dX8_addSailing_8 : decode cX8_addSailing 8 = .ok (.aload_n 0, 1) := by decide +kernel
theorem dX8_addSailing_9 : decode cX8_addSailing 9 = .ok (.getfield 7, 3) := by decide +kernel
theorem dX8_addSailing_12 : decode cX8_addSailing 12 = .ok (.iconst 1, 1) := by decide +kernel
theorem dX8_addSailing_13 : decode cX8_addSailing 13 = .ok (.dup2, 1) := by decide +kernel
theorem dX8_addSailing_14 : decode cX8_addSailing 14 = .ok (.iaload, 1) := by decide +kernel
theorem dX8_addSailing_15 : decode cX8_addSailing 15 = .ok (.iconst 1, 1) := by decide +kernel
theorem dX8_addSailing_16 : decode cX8_addSailing 16 = .ok (.iadd, 1) := by decide +kernel
theorem dX8_addSailing_17 : decode cX8_addSailing 17 = .ok (.iastore, 1) := by decide +kernel
theorem dX8_addSailing_18 : decode cX8_addSailing 18 = .ok (.aload_n 0, 1) := by decide +kernel
theorem dX8_addSailing_19 : decode cX8_addSailing 19 = .ok (.iload 5, 2) := by decide +kernel
theorem dX8_addSailing_21 : decode cX8_addSailing 21 = .ok (.iconst 0, 1) := by decide +kernel
theorem dX8_addSailing_22 : decode cX8_addSailing 22 = .ok (.iconst 0, 1) := by decide +kernel
theorem dX8_addSailing_23 : decode cX8_addSailing 23 = .ok (.invokevirtual 107, 3) := by decide +kernel
theorem dX8_addSailing_26 : decode cX8_addSailing 26 = .ok (.aload_n 0, 1) := by decide +kernel
theorem dX8_addSailing_27 : decode cX8_addSailing 27 = .ok (.iload 5, 2) := by decide +kernel
theorem dX8_addSailing_29 : decode cX8_addSailing 29 = .ok (.iconst 1, 1) := by decide +kernel
theorem dX8_addSailing_30 : decode cX8_addSailing 30 = .ok (.iload_n 1, 1) := by decide +kernel
theorem dX8_addSailing_31 : decode cX8_addSailing 31 = .ok (.invokevirtual 107, 3) := by decide +kernel
theorem dX8_addSailing_34 : decode cX8_addSailing 34 = .ok (.aload_n 0, 1) := by decide +kernel
theorem dX8_addSailing_35 : decode cX8_addSailing 35 = .ok (.iload 5, 2) := by decide +kernel
theorem dX8_addSailing_37 : decode cX8_addSailing 37 = .ok (.iconst 2, 1) := by decide +kernel
theorem dX8_addSailing_38 : decode cX8_addSailing 38 = .ok (.iload_n 2, 1) := by decide +kernel
theorem dX8_addSailing_39 : decode cX8_addSailing 39 = .ok (.invokevirtual 107, 3) := by decide +kernel
theorem dX8_addSailing_42 : decode cX8_addSailing 42 = .ok (.aload_n 0, 1) := by decide +kernel
theorem dX8_addSailing_43 : decode cX8_addSailing 43 = .ok (.iload 5, 2) := by decide +kernel
theorem dX8_addSailing_45 : decode cX8_addSailing 45 = .ok (.iconst 3, 1) := by decide +kernel
theorem dX8_addSailing_46 : decode cX8_addSailing 46 = .ok (.iload_n 3, 1) := by decide +kernel
theorem dX8_addSailing_47 : decode cX8_addSailing 47 = .ok (.invokevirtual 107, 3) := by decide +kernel
theorem dX8_addSailing_50 : decode cX8_addSailing 50 = .ok (.iconst 0, 1) := by decide +kernel
theorem dX8_addSailing_51 : decode cX8_addSailing 51 = .ok (.istore 6, 2) := by decide +kernel
theorem dX8_addSailing_53 : decode cX8_addSailing 53 = .ok (.iload 6, 2) := by decide +kernel
theorem dX8_addSailing_55 : decode cX8_addSailing 55 = .ok (.iconst 4, 1) := by decide +kernel
theorem dX8_addSailing_56 : decode cX8_addSailing 56 = .ok (.if_icmp .ge 26, 3) := by decide +kernel
theorem dX8_addSailing_59 : decode cX8_addSailing 59 = .ok (.aload_n 0, 1) := by decide +kernel
theorem dX8_addSailing_60 : decode cX8_addSailing 60 = .ok (.iload 5, 2) := by decide +kernel
theorem dX8_addSailing_62 : decode cX8_addSailing 62 = .ok (.iconst 4, 1) := by decide +kernel
theorem dX8_addSailing_63 : decode cX8_addSailing 63 = .ok (.iload 6, 2) := by decide +kernel
theorem dX8_addSailing_65 : decode cX8_addSailing 65 = .ok (.iadd, 1) := by decide +kernel
theorem dX8_addSailing_66 : decode cX8_addSailing 66 = .ok (.iload 4, 2) := by decide +kernel
theorem dX8_addSailing_68 : decode cX8_addSailing 68 = .ok (.iload 6, 2) := by decide +kernel
theorem dX8_addSailing_70 : decode cX8_addSailing 70 = .ok (.invokestatic 122, 3) := by decide +kernel
theorem dX8_addSailing_73 : decode cX8_addSailing 73 = .ok (.invokevirtual 107, 3) := by decide +kernel
theorem dX8_addSailing_76 : decode cX8_addSailing 76 = .ok (.iinc 6 1, 3) := by decide +kernel
theorem dX8_addSailing_79 : decode cX8_addSailing 79 = .ok (.goto (-26), 3) := by decide +kernel
theorem dX8_addSailing_82 : decode cX8_addSailing 82 = .ok (.iload 5, 2) := by decide +kernel
theorem dX8_addSailing_84 : decode cX8_addSailing 84 = .ok (.ireturn, 1) := by decide +kernel
def rm_X8_addSailing : Room := { frames := 1, cells := 0, slots := 0, locals := 23 }
set_option maxHeartbeats 4000000 in
set_option maxRecDepth 20000 in
theorem t_X8_addSailing_53_body {p : Program} {l : Launch} {e : Env} {s : State} {m : MethodId} {args : Array Value} {below : List Frame} {meth : Method} {c : Code} {G : zG} (Z : zF p s m args c meth cX8_addSailing 7 RX8 G) (hr : meth.sig.returnType = (some .int)) {out : Int32 × zHp} {r53 : Nat → Int32 → Int32 → Int32 → zHp → Option (Int32 × zHp)} (k53 : ∀ {a0 : Nat} {a4 : Int32} {a5 : Int32} {a6 : Int32} {h : zHp} {H : Heap} {locs : List Loc} {ls : Array Slot}, r53 a0 a4 a5 a6 h = some out → zE G s h H locs → lv_has ls 7 [(0, .ref a0), (4, .int a4), (5, .int a5), (6, .int a6)] → W p l e rm_X8_addSailing s m args below meth c H locs 0 0 (MQ below (zQi G out.1 out.2) args s 0 0 (zA G)) (F0 m 53 ls [])) {a0 : Nat} {a4 : Int32} {a5 : Int32} {a6 : Int32} {h : zHp} {H : Heap} {locs : List Loc} {ls : Array Slot} (hf : f_X8_addSailing_53_body r53 a0 a4 a5 a6 h = some out) (E : zE G s h H locs) (hl : lv_has ls 7 [(0, .ref a0), (4, .int a4), (5, .int a5), (6, .int a6)]) : W p l e rm_X8_addSailing s m args below meth c H locs 0 0 (MQ below (zQi G out.1 out.2) args s 0 0 (zA G)) (F0 m 53 ls []) := by
  unfold f_X8_addSailing_53_body at hf
  refine lv_iload Z.x Z.b dX8_addSailing_53 (lv_at hl 3 rfl) ?_
  refine lv_iconst (v := 4) Z.x Z.b dX8_addSailing_55 (by decide) ?_
  refine lv_icmp_ge (tgt := 82) Z.x Z.b dX8_addSailing_56 (by decide) (fun c => ?_) (fun c => ?_)
  · have hf := zit hf c
    refine lv_iload Z.x Z.b dX8_addSailing_82 (lv_at hl 2 rfl) ?_
    exact z_iret Z E hr dX8_addSailing_84 hf
  · have hf := zif_ hf c
    refine lv_aload_n Z.x Z.b dX8_addSailing_59 rfl (lv_at hl 0 rfl) ?_
    refine lv_iload Z.x Z.b dX8_addSailing_60 (lv_at hl 2 rfl) ?_
    refine lv_iconst (v := 4) Z.x Z.b dX8_addSailing_62 (by decide) ?_
    refine lv_iload Z.x Z.b dX8_addSailing_63 (lv_at hl 3 rfl) ?_
    refine lv_iadd Z.x Z.b dX8_addSailing_65 ?_
    refine lv_iload Z.x Z.b dX8_addSailing_66 (lv_at hl 1 rfl) ?_
    refine lv_iload Z.x Z.b dX8_addSailing_68 (lv_at hl 3 rfl) ?_
    refine z_Si (As := [.int a4, .int a6]) Z E hl.1 k_X8_122 wt_X8_digit hf (fun r h' e => c_X8_digit l G h h' a4 a6 r e) rfl rfl (Nat.le_of_ble_eq_true rfl) (zRm_of rfl (Nat.zero_le _) (Nat.zero_le _)) dX8_addSailing_70 (fun v1 h2 H locs hf E => ?_)
    refine z_Vv (As := [.int a5, .int (4 + a6), .int v1]) Z E hl.1 k_X8_107 v_X8_put hf (fun h' e => c_X8_put l G h2 h' a0 a5 (4 + a6) v1 e) rfl rfl (Nat.le_of_ble_eq_true rfl) (zRm_of rfl (Nat.zero_le _) (Nat.zero_le _)) dX8_addSailing_73 (fun h3 H locs hf E => ?_)
    refine lv_iinc (v := (a6 + 1)) (lv' := [(6, .int (a6 + 1)), (0, .ref a0), (4, .int a4), (5, .int a5)]) Z.x Z.b dX8_addSailing_76 hl (k := 3) rfl rfl (by decide) rfl (fun ls hl => ?_)
    refine lv_goto (tgt := 53) Z.x Z.b dX8_addSailing_79 (by decide) ?_
    exact k53 hf E (lv_sub hl [1, 2, 3, 0] rfl)
theorem t_X8_addSailing_53 {p : Program} {l : Launch} {e : Env} {s : State} {m : MethodId} {args : Array Value} {below : List Frame} {meth : Method} {c : Code} {G : zG} (Z : zF p s m args c meth cX8_addSailing 7 RX8 G) (hr : meth.sig.returnType = (some .int)) {out : Int32 × zHp} : ∀ (n : Nat), ∀ {a0 : Nat} {a4 : Int32} {a5 : Int32} {a6 : Int32} {h : zHp} {H : Heap} {locs : List Loc} {ls : Array Slot}, f_X8_addSailing_53 n a0 a4 a5 a6 h = some out → zE G s h H locs → lv_has ls 7 [(0, .ref a0), (4, .int a4), (5, .int a5), (6, .int a6)] → W p l e rm_X8_addSailing s m args below meth c H locs 0 0 (MQ below (zQi G out.1 out.2) args s 0 0 (zA G)) (F0 m 53 ls [])
  | 0 => fun hf => by cases hf
  | n + 1 => fun hf E hl => t_X8_addSailing_53_body Z hr (r53 := f_X8_addSailing_53 n) (t_X8_addSailing_53 Z hr n) hf E hl
set_option maxHeartbeats 4000000 in
set_option maxRecDepth 20000 in
theorem t_X8_addSailing {p : Program} {l : Launch} {e : Env} {s : State} {m : MethodId} {args : Array Value} {below : List Frame} {meth : Method} {c : Code} {G : zG} (Z : zF p s m args c meth cX8_addSailing 7 RX8 G) (hr : meth.sig.returnType = (some .int)) {out : Int32 × zHp} {a0 : Nat} {a1 : Int32} {a2 : Int32} {a3 : Int32} {a4 : Int32} {h : zHp} {H : Heap} {locs : List Loc} {ls : Array Slot} (hf : f_X8_addSailing a0 a1 a2 a3 a4 h = some out) (E : zE G s h H locs) (hl : lv_has ls 7 [(0, .ref a0), (1, .int a1), (2, .int a2), (3, .int a3), (4, .int a4)]) : W p l e rm_X8_addSailing s m args below meth c H locs 0 0 (MQ below (zQi G out.1 out.2) args s 0 0 (zA G)) (F0 m 0 ls []) := by
  unfold f_X8_addSailing at hf
  refine lv_aload_n Z.x Z.b dX8_addSailing_0 rfl (lv_at hl 0 rfl) ?_
  refine z_getR Z E q_X8_7 dX8_addSailing_1 hf (fun v1 hf => ?_)
  refine lv_iconst (v := 1) Z.x Z.b dX8_addSailing_4 (by decide) ?_
  refine z_iald Z E dX8_addSailing_5 hf (fun v2 hf => ?_)
  refine lv_istore (lv' := [(5, .int v2), (0, .ref a0), (1, .int a1), (2, .int a2), (3, .int a3), (4, .int a4)]) Z.x Z.b dX8_addSailing_6 hl (by decide) rfl (fun ls hl => ?_)
  refine lv_aload_n Z.x Z.b dX8_addSailing_8 rfl (lv_at hl 1 rfl) ?_
  refine z_getR Z E q_X8_7 dX8_addSailing_9 hf (fun v3 hf => ?_)
  refine lv_iconst (v := 1) Z.x Z.b dX8_addSailing_12 (by decide) ?_
  refine lv_dup2_11 Z.x Z.b dX8_addSailing_13 rfl rfl ?_
  refine z_iald Z E dX8_addSailing_14 hf (fun v4 hf => ?_)
  refine lv_iconst (v := 1) Z.x Z.b dX8_addSailing_15 (by decide) ?_
  refine lv_iadd Z.x Z.b dX8_addSailing_16 ?_
  refine z_iast Z E dX8_addSailing_17 hf (fun h5 H locs hf E => ?_)
  refine lv_aload_n Z.x Z.b dX8_addSailing_18 rfl (lv_at hl 1 rfl) ?_
  refine lv_iload Z.x Z.b dX8_addSailing_19 (lv_at hl 0 rfl) ?_
  refine lv_iconst (v := 0) Z.x Z.b dX8_addSailing_21 (by decide) ?_
  refine lv_iconst (v := 0) Z.x Z.b dX8_addSailing_22 (by decide) ?_
  refine z_Vv (As := [.int v2, .int 0, .int 0]) Z E hl.1 k_X8_107 v_X8_put hf (fun h' e => c_X8_put l G h5 h' a0 v2 0 0 e) rfl rfl (Nat.le_of_ble_eq_true rfl) (zRm_of rfl (Nat.zero_le _) (Nat.zero_le _)) dX8_addSailing_23 (fun h6 H locs hf E => ?_)
  refine lv_aload_n Z.x Z.b dX8_addSailing_26 rfl (lv_at hl 1 rfl) ?_
  refine lv_iload Z.x Z.b dX8_addSailing_27 (lv_at hl 0 rfl) ?_
  refine lv_iconst (v := 1) Z.x Z.b dX8_addSailing_29 (by decide) ?_
  refine lv_iload_n Z.x Z.b dX8_addSailing_30 rfl (lv_at hl 2 rfl) ?_
  refine z_Vv (As := [.int v2, .int 1, .int a1]) Z E hl.1 k_X8_107 v_X8_put hf (fun h' e => c_X8_put l G h6 h' a0 v2 1 a1 e) rfl rfl (Nat.le_of_ble_eq_true rfl) (zRm_of rfl (Nat.zero_le _) (Nat.zero_le _)) dX8_addSailing_31 (fun h7 H locs hf E => ?_)
  refine lv_aload_n Z.x Z.b dX8_addSailing_34 rfl (lv_at hl 1 rfl) ?_
  refine lv_iload Z.x Z.b dX8_addSailing_35 (lv_at hl 0 rfl) ?_
  refine lv_iconst (v := 2) Z.x Z.b dX8_addSailing_37 (by decide) ?_
  refine lv_iload_n Z.x Z.b dX8_addSailing_38 rfl (lv_at hl 3 rfl) ?_
  refine z_Vv (As := [.int v2, .int 2, .int a2]) Z E hl.1 k_X8_107 v_X8_put hf (fun h' e => c_X8_put l G h7 h' a0 v2 2 a2 e) rfl rfl (Nat.le_of_ble_eq_true rfl) (zRm_of rfl (Nat.zero_le _) (Nat.zero_le _)) dX8_addSailing_39 (fun h8 H locs hf E => ?_)
  refine lv_aload_n Z.x Z.b dX8_addSailing_42 rfl (lv_at hl 1 rfl) ?_
  refine lv_iload Z.x Z.b dX8_addSailing_43 (lv_at hl 0 rfl) ?_
  refine lv_iconst (v := 3) Z.x Z.b dX8_addSailing_45 (by decide) ?_
  refine lv_iload_n Z.x Z.b dX8_addSailing_46 rfl (lv_at hl 4 rfl) ?_
  refine z_Vv (As := [.int v2, .int 3, .int a3]) Z E hl.1 k_X8_107 v_X8_put hf (fun h' e => c_X8_put l G h8 h' a0 v2 3 a3 e) rfl rfl (Nat.le_of_ble_eq_true rfl) (zRm_of rfl (Nat.zero_le _) (Nat.zero_le _)) dX8_addSailing_47 (fun h9 H locs hf E => ?_)
  refine lv_iconst (v := 0) Z.x Z.b dX8_addSailing_50 (by decide) ?_
  refine lv_istore (lv' := [(6, .int 0), (5, .int v2), (0, .ref a0), (1, .int a1), (2, .int a2), (3, .int a3), (4, .int a4)]) Z.x Z.b dX8_addSailing_51 hl (by decide) rfl (fun ls hl => ?_)
  exact t_X8_addSailing_53 Z hr zN hf E (lv_sub hl [2, 6, 1, 0] rfl)
set_option maxHeartbeats 4000000 in
set_option maxRecDepth 20000 in
theorem c_X8_addSailing (l : Launch) (G : zG) (h : zHp) (h' : zHp) (a0 : Nat) (a1 : Int32) (a2 : Int32) (a3 : Int32) (a4 : Int32) (r : Int32) (hf : f_X8_addSailing a0 a1 a2 a3 a4 h = some (r, h')) : zM0 l yX8_addSailing cX8_addSailing 7 (some .int) rm_X8_addSailing G [.ref a0, .int a1, .int a2, .int a3, .int a4] h (zQi G r h') := by
  refine Met.ofW (cc := cX8_addSailing) (maxL := 7) (ret := (some .int)) (by decide) rfl ?_
  intro p e s m args below meth c s₁ B hml hv
  obtain ⟨rfl, hW⟩ := hv
  obtain ⟨Z, E, hr⟩ := zEnter (own := RX8) B hml rfl hW
  have hl := lv_entry ([.ref a0, .int a1, .int a2, .int a3, .int a4]) (n := 7) (Nat.le_of_ble_eq_true rfl)
  rw [lg_entry_eq]
  generalize (lg_sl ([.ref a0, .int a1, .int a2, .int a3, .int a4]) ++ List.replicate (7 - (lg_sl ([.ref a0, .int a1, .int a2, .int a3, .int a4])).length) Slot.unset).toArray = ls at hl ⊢
  have hl : lv_has ls 7 [(0, .ref a0), (1, .int a1), (2, .int a2), (3, .int a3), (4, .int a4)] := hl
  exact t_X8_addSailing (out := (r, h')) Z hr hf E hl
/-! FerryCrewsModel.sailing(IIII)I -/
theorem dX8_sailing_0 : decode cX8_sailing 0 = .ok (.aload_n 0, 1) := by decide +kernel
theorem dX8_sailing_1 : decode cX8_sailing 1 = .ok (.iload_n 1, 1) := by decide +kernel
theorem dX8_sailing_2 : decode cX8_sailing 2 = .ok (.iload_n 2, 1) := by decide +kernel
theorem dX8_sailing_3 : decode cX8_sailing 3 = .ok (.iload_n 3, 1) := by decide +kernel
theorem dX8_sailing_4 : decode cX8_sailing 4 = .ok (.iload 4, 2) := by decide +kernel
theorem dX8_sailing_6 : decode cX8_sailing 6 = .ok (.invokevirtual 128, 3) := by decide +kernel
theorem dX8_sailing_9 : decode cX8_sailing 9 = .ok (.istore 5, 2) := by decide +kernel
theorem dX8_sailing_11 : decode cX8_sailing 11 = .ok (.iload 5, 2) := by decide +kernel
theorem dX8_sailing_13 : decode cX8_sailing 13 = .ok (.ifCond .ge 6, 3) := by decide +kernel
theorem dX8_sailing_16 : decode cX8_sailing 16 = .ok (.iload 5, 2) := by decide +kernel
theorem dX8_sailing_18 : decode cX8_sailing 18 = .ok (.ireturn, 1) := by decide +kernel
theorem dX8_sailing_19 : decode cX8_sailing 19 = .ok (.aload_n 0, 1) := by decide +kernel
theorem dX8_sailing_20 : decode cX8_sailing 20 = .ok (.invokevirtual 132, 3) := by decide +kernel
theorem dX8_sailing_23 : decode cX8_sailing 23 = .ok (.aload_n 0, 1) := by decide +kernel
theorem dX8_sailing_24 : decode cX8_sailing 24 = .ok (.iload_n 1, 1) := by decide +kernel
theorem dX8_sailing_25 : decode cX8_sailing 25 = .ok (.iload_n 2, 1) := by decide +kernel
theorem dX8_sailing_26 : decode cX8_sailing 26 = .ok (.iload_n 3, 1) := by decide +kernel
theorem dX8_sailing_27 : decode cX8_sailing 27 = .ok (.iload 4, 2) := by decide +kernel
theorem dX8_sailing_29 : decode cX8_sailing 29 = .ok (.invokevirtual 135, 3) := by decide +kernel
theorem dX8_sailing_32 : decode cX8_sailing 32 = .ok (.ireturn, 1) := by decide +kernel
set_option maxRecDepth 20000 in
theorem wc_X8_hinders : Cond.code yX8_hinders cX8_hinders 6 (some .int) ∈ zB := List.mem_filter.mpr ⟨List.mem_of_getElem? (i := 843) (by decide +kernel), by decide +kernel⟩
set_option maxRecDepth 20000 in
theorem wm_X8_128 : Cond.methodLink RX8 128 yX8_hinders ∈ zB := List.mem_filter.mpr ⟨List.mem_of_getElem? (i := 840) (by decide +kernel), by decide +kernel⟩
theorem k_X8_128 : zCal RX8 128 yX8_hinders cX8_hinders 6 (some .int) 4 := ⟨wm_X8_128, wi_X8, wc_X8_hinders, by decide +kernel, by decide +kernel, by decide +kernel⟩
set_option maxRecDepth 20000 in
theorem wn_X8_hinders : Cond.instanceMethod yX8_hinders ∈ zB := List.mem_filter.mpr ⟨List.mem_of_getElem? (i := 842) (by decide +kernel), by decide +kernel⟩
set_option maxRecDepth 20000 in
theorem ws_X8_hinders : Cond.selects RX8 yX8_hinders yX8_hinders ∈ zB := List.mem_filter.mpr ⟨List.mem_of_getElem? (i := 12) (by decide +kernel), by decide +kernel⟩
theorem v_X8_hinders : zVir yX8_hinders 8 := ⟨wn_X8_hinders, ws_X8_hinders, TX8, 12, rfl⟩
set_option maxRecDepth 20000 in
theorem wc_X8_record : Cond.code yX8_record cX8_record 2 none ∈ zB := List.mem_filter.mpr ⟨List.mem_of_getElem? (i := 868) (by decide +kernel), by decide +kernel⟩
set_option maxRecDepth 20000 in
theorem wm_X8_132 : Cond.methodLink RX8 132 yX8_record ∈ zB := List.mem_filter.mpr ⟨List.mem_of_getElem? (i := 865) (by decide +kernel), by decide +kernel⟩
theorem k_X8_132 : zCal RX8 132 yX8_record cX8_record 2 none 0 := ⟨wm_X8_132, wi_X8, wc_X8_record, by decide +kernel, by decide +kernel, by decide +kernel⟩
set_option maxRecDepth 20000 in
theorem wn_X8_record : Cond.instanceMethod yX8_record ∈ zB := List.mem_filter.mpr ⟨List.mem_of_getElem? (i := 867) (by decide +kernel), by decide +kernel⟩
set_option maxRecDepth 20000 in
theorem ws_X8_record : Cond.selects RX8 yX8_record yX8_record ∈ zB := List.mem_filter.mpr ⟨List.mem_of_getElem? (i := 16) (by decide +kernel), by decide +kernel⟩
theorem v_X8_record : zVir yX8_record 8 := ⟨wn_X8_record, ws_X8_record, TX8, 12, rfl⟩
set_option maxRecDepth 20000 in
theorem wc_X8_addSailing : Cond.code yX8_addSailing cX8_addSailing 7 (some .int) ∈ zB := List.mem_filter.mpr ⟨List.mem_of_getElem? (i := 872) (by decide +kernel), by decide +kernel⟩
set_option maxRecDepth 20000 in
theorem wm_X8_135 : Cond.methodLink RX8 135 yX8_addSailing ∈ zB := List.mem_filter.mpr ⟨List.mem_of_getElem? (i := 869) (by decide +kernel), by decide +kernel⟩
theorem k_X8_135 : zCal RX8 135 yX8_addSailing cX8_addSailing 7 (some .int) 4 := ⟨wm_X8_135, wi_X8, wc_X8_addSailing, by decide +kernel, by decide +kernel, by decide +kernel⟩
set_option maxRecDepth 20000 in
theorem wn_X8_addSailing : Cond.instanceMethod yX8_addSailing ∈ zB := List.mem_filter.mpr ⟨List.mem_of_getElem? (i := 871) (by decide +kernel), by decide +kernel⟩
set_option maxRecDepth 20000 in
theorem ws_X8_addSailing : Cond.selects RX8 yX8_addSailing yX8_addSailing ∈ zB := List.mem_filter.mpr ⟨List.mem_of_getElem? (i := 17) (by decide +kernel), by decide +kernel⟩
theorem v_X8_addSailing : zVir yX8_addSailing 8 := ⟨wn_X8_addSailing, ws_X8_addSailing, TX8, 12, rfl⟩
def rm_X8_sailing : Room := { frames := 3, cells := 0, slots := 0, locals := 69 }
set_option maxHeartbeats 4000000 in
set_option maxRecDepth 20000 in
theorem t_X8_sailing {p : Program} {l : Launch} {e : Env} {s : State} {m : MethodId} {args : Array Value} {below : List Frame} {meth : Method} {c : Code} {G : zG} (Z : zF p s m args c meth cX8_sailing 6 RX8 G) (hr : meth.sig.returnType = (some .int)) {out : Int32 × zHp} {a0 : Nat} {a1 : Int32} {a2 : Int32} {a3 : Int32} {a4 : Int32} {h : zHp} {H : Heap} {locs : List Loc} {ls : Array Slot} (hf : f_X8_sailing a0 a1 a2 a3 a4 h = some out) (E : zE G s h H locs) (hl : lv_has ls 6 [(0, .ref a0), (1, .int a1), (2, .int a2), (3, .int a3), (4, .int a4)]) : W p l e rm_X8_sailing s m args below meth c H locs 0 0 (MQ below (zQi G out.1 out.2) args s 0 0 (zA G)) (F0 m 0 ls []) := by
  unfold f_X8_sailing at hf
  refine lv_aload_n Z.x Z.b dX8_sailing_0 rfl (lv_at hl 0 rfl) ?_
  refine lv_iload_n Z.x Z.b dX8_sailing_1 rfl (lv_at hl 1 rfl) ?_
  refine lv_iload_n Z.x Z.b dX8_sailing_2 rfl (lv_at hl 2 rfl) ?_
  refine lv_iload_n Z.x Z.b dX8_sailing_3 rfl (lv_at hl 3 rfl) ?_
  refine lv_iload Z.x Z.b dX8_sailing_4 (lv_at hl 4 rfl) ?_
  refine z_Vi (As := [.int a1, .int a2, .int a3, .int a4]) Z E hl.1 k_X8_128 v_X8_hinders hf (fun r h' e => c_X8_hinders l G h h' a0 a1 a2 a3 a4 r e) rfl rfl (Nat.le_of_ble_eq_true rfl) (zRm_of rfl (Nat.zero_le _) (Nat.zero_le _)) dX8_sailing_6 (fun v1 h2 H locs hf E => ?_)
  refine lv_istore (lv' := [(5, .int v1), (0, .ref a0), (1, .int a1), (2, .int a2), (3, .int a3), (4, .int a4)]) Z.x Z.b dX8_sailing_9 hl (by decide) rfl (fun ls hl => ?_)
  refine lv_iload Z.x Z.b dX8_sailing_11 (lv_at hl 0 rfl) ?_
  refine lv_if_ge (tgt := 19) Z.x Z.b dX8_sailing_13 (by decide) (fun c => ?_) (fun c => ?_)
  · have hf := zit hf c
    refine lv_aload_n Z.x Z.b dX8_sailing_19 rfl (lv_at hl 1 rfl) ?_
    refine z_Vv (As := []) Z E hl.1 k_X8_132 v_X8_record hf (fun h' e => c_X8_record l G h2 h' a0 e) rfl rfl (Nat.le_of_ble_eq_true rfl) (zRm_of rfl (Nat.zero_le _) (Nat.zero_le _)) dX8_sailing_20 (fun h3 H locs hf E => ?_)
    refine lv_aload_n Z.x Z.b dX8_sailing_23 rfl (lv_at hl 1 rfl) ?_
    refine lv_iload_n Z.x Z.b dX8_sailing_24 rfl (lv_at hl 2 rfl) ?_
    refine lv_iload_n Z.x Z.b dX8_sailing_25 rfl (lv_at hl 3 rfl) ?_
    refine lv_iload_n Z.x Z.b dX8_sailing_26 rfl (lv_at hl 4 rfl) ?_
    refine lv_iload Z.x Z.b dX8_sailing_27 (lv_at hl 5 rfl) ?_
    refine z_Vi (As := [.int a1, .int a2, .int a3, .int a4]) Z E hl.1 k_X8_135 v_X8_addSailing hf (fun r h' e => c_X8_addSailing l G h3 h' a0 a1 a2 a3 a4 r e) rfl rfl (Nat.le_of_ble_eq_true rfl) (zRm_of rfl (Nat.zero_le _) (Nat.zero_le _)) dX8_sailing_29 (fun v4 h5 H locs hf E => ?_)
    exact z_iret Z E hr dX8_sailing_32 hf
  · have hf := zif_ hf c
    refine lv_iload Z.x Z.b dX8_sailing_16 (lv_at hl 0 rfl) ?_
    exact z_iret Z E hr dX8_sailing_18 hf
set_option maxHeartbeats 4000000 in
set_option maxRecDepth 20000 in
theorem c_X8_sailing (l : Launch) (G : zG) (h : zHp) (h' : zHp) (a0 : Nat) (a1 : Int32) (a2 : Int32) (a3 : Int32) (a4 : Int32) (r : Int32) (hf : f_X8_sailing a0 a1 a2 a3 a4 h = some (r, h')) : zM0 l yX8_sailing cX8_sailing 6 (some .int) rm_X8_sailing G [.ref a0, .int a1, .int a2, .int a3, .int a4] h (zQi G r h') := by
  refine Met.ofW (cc := cX8_sailing) (maxL := 6) (ret := (some .int)) (by decide) rfl ?_
  intro p e s m args below meth c s₁ B hml hv
  obtain ⟨rfl, hW⟩ := hv
  obtain ⟨Z, E, hr⟩ := zEnter (own := RX8) B hml rfl hW
  have hl := lv_entry ([.ref a0, .int a1, .int a2, .int a3, .int a4]) (n := 6) (Nat.le_of_ble_eq_true rfl)
  rw [lg_entry_eq]
  generalize (lg_sl ([.ref a0, .int a1, .int a2, .int a3, .int a4]) ++ List.replicate (6 - (lg_sl ([.ref a0, .int a1, .int a2, .int a3, .int a4])).length) Slot.unset).toArray = ls at hl ⊢
  have hl : lv_has ls 6 [(0, .ref a0), (1, .int a1), (2, .int a2), (3, .int a3), (4, .int a4)] := hl
  exact t_X8_sailing (out := (r, h')) Z hr hf E hl
/-! FerryCrewsModel.isNext(II)Z -/
theorem dX8_isNext_0 : decode cX8_isNext 0 = .ok (.aload_n 0, 1) := by decide +kernel
theorem dX8_isNext_1 : decode cX8_isNext 1 = .ok (.getfield 145, 3) := by decide +kernel
theorem dX8_isNext_4 : decode cX8_isNext 4 = .ok (.aload_n 0, 1) := by decide +kernel
theorem dX8_isNext_5 : decode cX8_isNext 5 = .ok (.getfield 182, 3) := by decide +kernel
theorem dX8_isNext_8 : decode cX8_isNext 8 = .ok (.if_icmp .ge 24, 3) := by decide +kernel
theorem dX8_isNext_11 : decode cX8_isNext 11 = .ok (.aload_n 0, 1) := by decide +kernel
theorem dX8_isNext_12 : decode cX8_isNext 12 = .ok (.getfield 22, 3) := by decide +kernel
theorem dX8_isNext_15 : decode cX8_isNext 15 = .ok (.aload_n 0, 1) := by decide +kernel
theorem dX8_isNext_16 : decode cX8_isNext 16 = .ok (.getfield 145, 3) := by decide +kernel
theorem dX8_isNext_19 : decode cX8_isNext 19 = .ok (.iaload, 1) := by decide +kernel
theorem dX8_isNext_20 : decode cX8_isNext 20 = .ok (.iload_n 1, 1) := by decide +kernel
theorem dX8_isNext_21 : decode cX8_isNext 21 = .ok (.iload_n 2, 1) := by decide +kernel
theorem dX8_isNext_22 : decode cX8_isNext 22 = .ok (.invokestatic 42, 3) := by decide +kernel
theorem dX8_isNext_25 : decode cX8_isNext 25 = .ok (.ifCond .eq 7, 3) := by decide +kernel
theorem dX8_isNext_28 : decode cX8_isNext 28 = .ok (.iconst 1, 1) := by decide +kernel
theorem dX8_isNext_29 : decode cX8_isNext 29 = .ok (.goto 4, 3) := by decide +kernel
theorem dX8_isNext_32 : decode cX8_isNext 32 = .ok (.iconst 0, 1) := by decide +kernel
theorem dX8_isNext_33 : decode cX8_isNext 33 = .ok (.ireturn, 1) := by decide +kernel
set_option maxRecDepth 20000 in
theorem wf_X8_145 : Cond.fieldLink RX8 145 RX8 "place" "I" ∈ zB := List.mem_filter.mpr ⟨List.mem_of_getElem? (i := 807) (by decide +kernel), by decide +kernel⟩
theorem q_X8_145 : zFld RX8 145 8 8 := ⟨RX8, TX8, 12, rfl, by decide, iX8, wf_X8_145, rfl⟩
set_option maxRecDepth 20000 in
theorem wf_X8_182 : Cond.fieldLink RX8 182 RX8 "length" "I" ∈ zB := List.mem_filter.mpr ⟨List.mem_of_getElem? (i := 809) (by decide +kernel), by decide +kernel⟩
theorem q_X8_182 : zFld RX8 182 8 10 := ⟨RX8, TX8, 12, rfl, by decide, iX8, wf_X8_182, rfl⟩
theorem q_X8_22 : zFld RX8 22 8 4 := ⟨RX8, TX8, 12, rfl, by decide, iX8, wf_X8_22, rfl⟩
def rm_X8_isNext : Room := { frames := 1, cells := 0, slots := 0, locals := 22 }
set_option maxHeartbeats 4000000 in
set_option maxRecDepth 20000 in
theorem t_X8_isNext_32 {p : Program} {l : Launch} {e : Env} {s : State} {m : MethodId} {args : Array Value} {below : List Frame} {meth : Method} {c : Code} {G : zG} (Z : zF p s m args c meth cX8_isNext 3 RX8 G) (hr : meth.sig.returnType = (some .boolean)) {out : Int32 × zHp} {h : zHp} {H : Heap} {locs : List Loc} {ls : Array Slot} (hf : f_X8_isNext_32 h = some out) (E : zE G s h H locs) (hl : lv_has ls 3 []) : W p l e rm_X8_isNext s m args below meth c H locs 0 0 (MQ below (zQi G out.1 out.2) args s 0 0 (zA G)) (F0 m 32 ls []) := by
  unfold f_X8_isNext_32 at hf
  refine lv_iconst (v := 0) Z.x Z.b dX8_isNext_32 (by decide) ?_
  exact z_zret Z E hr dX8_isNext_33 hf
set_option maxHeartbeats 4000000 in
set_option maxRecDepth 20000 in
theorem t_X8_isNext {p : Program} {l : Launch} {e : Env} {s : State} {m : MethodId} {args : Array Value} {below : List Frame} {meth : Method} {c : Code} {G : zG} (Z : zF p s m args c meth cX8_isNext 3 RX8 G) (hr : meth.sig.returnType = (some .boolean)) {out : Int32 × zHp} {a0 : Nat} {a1 : Int32} {a2 : Int32} {h : zHp} {H : Heap} {locs : List Loc} {ls : Array Slot} (hf : f_X8_isNext a0 a1 a2 h = some out) (E : zE G s h H locs) (hl : lv_has ls 3 [(0, .ref a0), (1, .int a1), (2, .int a2)]) : W p l e rm_X8_isNext s m args below meth c H locs 0 0 (MQ below (zQi G out.1 out.2) args s 0 0 (zA G)) (F0 m 0 ls []) := by
  unfold f_X8_isNext at hf
  refine lv_aload_n Z.x Z.b dX8_isNext_0 rfl (lv_at hl 0 rfl) ?_
  refine z_getI Z E q_X8_145 dX8_isNext_1 hf (fun v1 hf => ?_)
  refine lv_aload_n Z.x Z.b dX8_isNext_4 rfl (lv_at hl 0 rfl) ?_
  refine z_getI Z E q_X8_182 dX8_isNext_5 hf (fun v2 hf => ?_)
  refine lv_icmp_ge (tgt := 32) Z.x Z.b dX8_isNext_8 (by decide) (fun c => ?_) (fun c => ?_)
  · have hf := zit hf c
    exact t_X8_isNext_32 Z hr hf E (lv_sub hl [] rfl)
  · have hf := zif_ hf c
    refine lv_aload_n Z.x Z.b dX8_isNext_11 rfl (lv_at hl 0 rfl) ?_
    refine z_getR Z E q_X8_22 dX8_isNext_12 hf (fun v3 hf => ?_)
    refine lv_aload_n Z.x Z.b dX8_isNext_15 rfl (lv_at hl 0 rfl) ?_
    refine z_getI Z E q_X8_145 dX8_isNext_16 hf (fun v4 hf => ?_)
    refine z_iald Z E dX8_isNext_19 hf (fun v5 hf => ?_)
    refine lv_iload_n Z.x Z.b dX8_isNext_20 rfl (lv_at hl 1 rfl) ?_
    refine lv_iload_n Z.x Z.b dX8_isNext_21 rfl (lv_at hl 2 rfl) ?_
    refine z_Si (As := [.int v5, .int a1, .int a2]) Z E hl.1 k_X8_42 wt_X8_in hf (fun r h' e => c_X8_in l G h h' v5 a1 a2 r e) rfl rfl (Nat.le_of_ble_eq_true rfl) (zRm_of rfl (Nat.zero_le _) (Nat.zero_le _)) dX8_isNext_22 (fun v6 h7 H locs hf E => ?_)
    refine lv_if_eq (tgt := 32) Z.x Z.b dX8_isNext_25 (by decide) (fun c => ?_) (fun c => ?_)
    · have hf := zit hf c
      exact t_X8_isNext_32 Z hr hf E (lv_sub hl [] rfl)
    · have hf := zif_ hf c
      refine lv_iconst (v := 1) Z.x Z.b dX8_isNext_28 (by decide) ?_
      refine lv_goto (tgt := 33) Z.x Z.b dX8_isNext_29 (by decide) ?_
      exact z_zret Z E hr dX8_isNext_33 hf
set_option maxHeartbeats 4000000 in
set_option maxRecDepth 20000 in
theorem c_X8_isNext (l : Launch) (G : zG) (h : zHp) (h' : zHp) (a0 : Nat) (a1 : Int32) (a2 : Int32) (r : Int32) (hf : f_X8_isNext a0 a1 a2 h = some (r, h')) : zM0 l yX8_isNext cX8_isNext 3 (some .boolean) rm_X8_isNext G [.ref a0, .int a1, .int a2] h (zQi G r h') := by
  refine Met.ofW (cc := cX8_isNext) (maxL := 3) (ret := (some .boolean)) (by decide) rfl ?_
  intro p e s m args below meth c s₁ B hml hv
  obtain ⟨rfl, hW⟩ := hv
  obtain ⟨Z, E, hr⟩ := zEnter (own := RX8) B hml rfl hW
  have hl := lv_entry ([.ref a0, .int a1, .int a2]) (n := 3) (Nat.le_of_ble_eq_true rfl)
  rw [lg_entry_eq]
  generalize (lg_sl ([.ref a0, .int a1, .int a2]) ++ List.replicate (3 - (lg_sl ([.ref a0, .int a1, .int a2])).length) Slot.unset).toArray = ls at hl ⊢
  have hl : lv_has ls 3 [(0, .ref a0), (1, .int a1), (2, .int a2)] := hl
  exact t_X8_isNext (out := (r, h')) Z hr hf E hl
/-! FerryCrewsModel.number(III)Z -/
theorem dX8_number_0 : decode cX8_number 0 = .ok (.aload_n 0, 1) := by decide +kernel
theorem dX8_number_1 : decode cX8_number 1 = .ok (.bipush 48, 2) := by decide +kernel
theorem dX8_number_3 : decode cX8_number 3 = .ok (.iload_n 2, 1) := by decide +kernel
theorem dX8_number_4 : decode cX8_number 4 = .ok (.iadd, 1) := by decide +kernel
theorem dX8_number_5 : decode cX8_number 5 = .ok (.iload_n 3, 1) := by decide +kernel
theorem dX8_number_6 : decode cX8_number 6 = .ok (.bipush 9, 2) := by decide +kernel
theorem dX8_number_8 : decode cX8_number 8 = .ok (.if_icmp .ge 10, 3) := by decide +kernel
theorem dX8_number_11 : decode cX8_number 11 = .ok (.bipush 48, 2) := by decide +kernel
theorem dX8_number_13 : decode cX8_number 13 = .ok (.iload_n 3, 1) := by decide +kernel
theorem dX8_number_14 : decode cX8_number 14 = .ok (.iadd, 1) := by decide +kernel
theorem dX8_number_15 : decode cX8_number 15 = .ok (.goto 5, 3) := by decide +kernel
theorem dX8_number_18 : decode cX8_number 18 = .ok (.bipush 57, 2) := by decide +kernel
theorem dX8_number_20 : decode cX8_number 20 = .ok (.invokevirtual 185, 3) := by decide +kernel
theorem dX8_number_23 : decode cX8_number 23 = .ok (.ifCond .ne 5, 3) := by decide +kernel
theorem dX8_number_26 : decode cX8_number 26 = .ok (.iconst 0, 1) := by decide +kernel
theorem dX8_number_27 : decode cX8_number 27 = .ok (.ireturn, 1) := by decide +kernel
theorem dX8_number_28 : decode cX8_number 28 = .ok (.aload_n 0, 1) := by decide +kernel
theorem dX8_number_29 : decode cX8_number 29 = .ok (.getfield 22, 3) := by decide +kernel
theorem dX8_number_32 : decode cX8_number 32 = .ok (.aload_n 0, 1) := by decide +kernel
theorem dX8_number_33 : decode cX8_number 33 = .ok (.getfield 145, 3) := by decide +kernel
theorem dX8_number_36 : decode cX8_number 36 = .ok (.iaload, 1) := by decide +kernel
theorem dX8_number_37 : decode cX8_number 37 = .ok (.bipush 48, 2) := by decide +kernel
theorem dX8_number_39 : decode cX8_number 39 = .ok (.isub, 1) := by decide +kernel
theorem dX8_number_40 : decode cX8_number 40 = .ok (.istore 4, 2) := by decide +kernel
theorem dX8_number_42 : decode cX8_number 42 = .ok (.aload_n 0, 1) := by decide +kernel
theorem dX8_number_43 : decode cX8_number 43 = .ok (.dup, 1) := by decide +kernel
theorem dX8_number_44 : decode cX8_number 44 = .ok (.getfield 145, 3) := by decide +kernel
theorem dX8_number_47 : decode cX8_number 47 = .ok (.iconst 1, 1) := by decide +kernel
theorem dX8_number_48 : decode cX8_number 48 = .ok (.iadd, 1) := by decide +kernel
theorem dX8_number_49 : decode cX8_number 49 = .ok (.putfield 145, 3) := by decide +kernel
theorem dX8_number_52 : decode cX8_number 52 = .ok (.iload 4, 2) := by decide +kernel
theorem dX8_number_54 : decode cX8_number 54 = .ok (.ifCond .le 69, 3) := by decide +kernel
theorem dX8_number_57 : decode cX8_number 57 = .ok (.aload_n 0, 1) := by decide +kernel
theorem dX8_number_58 : decode cX8_number 58 = .ok (.bipush 48, 2) := by decide +kernel
theorem dX8_number_60 : decode cX8_number 60 = .ok (.bipush 57, 2) := by decide +kernel
theorem dX8_number_62 : decode cX8_number 62 = .ok (.invokevirtual 185, 3) := by decide +kernel
theorem dX8_number_65 : decode cX8_number 65 = .ok (.ifCond .eq 58, 3) := by decide +kernel
theorem dX8_number_68 : decode cX8_number 68 = .ok (.bipush 10, 2) := by decide +kernel
theorem dX8_number_70 : decode cX8_number 70 = .ok (.iload 4, 2) := by decide +kernel
theorem dX8_number_72 : decode cX8_number 72 = .ok (.imul, 1) := by decide +kernel
theorem dX8_number_73 : decode cX8_number 73 = .ok (.aload_n 0, 1) := by decide +kernel
theorem dX8_number_74 : decode cX8_number 74 = .ok (.getfield 22, 3) := by decide +kernel
theorem dX8_number_77 : decode cX8_number 77 = .ok (.aload_n 0, 1) := by decide +kernel
theorem dX8_number_78 : decode cX8_number 78 = .ok (.getfield 145, 3) := by decide +kernel
theorem dX8_number_81 : decode cX8_number 81 = .ok (.iaload, 1) := by decide +kernel
theorem dX8_number_82 : decode cX8_number 82 = .ok (.iadd, 1) := by decide +kernel
theorem dX8_number_83 : decode cX8_number 83 = .ok (.bipush 48, 2) := by decide +kernel
theorem dX8_number_85 : decode cX8_number 85 = .ok (.isub, 1) := by decide +kernel
theorem dX8_number_86 : decode cX8_number 86 = .ok (.iload_n 3, 1) := by decide +kernel
theorem dX8_number_87 : decode cX8_number 87 = .ok (.if_icmp .gt 36, 3) := by decide +kernel
theorem dX8_number_90 : decode cX8_number 90 = .ok (.bipush 10, 2) := by decide +kernel
theorem dX8_number_92 : decode cX8_number 92 = .ok (.iload 4, 2) := by decide +kernel
theorem dX8_number_94 : decode cX8_number 94 = .ok (.imul, 1) := by decide +kernel
theorem dX8_number_95 : decode cX8_number 95 = .ok (.aload_n 0, 1) := by decide +kernel
theorem dX8_number_96 : decode cX8_number 96 = .ok (.getfield 22, 3) := by decide +kernel
theorem dX8_number_99 : decode cX8_number 99 = .ok (.aload_n 0, 1) := by decide +kernel
theorem dX8_number_100 : decode cX8_number 100 = .ok (.getfield 145, 3) := by decide +kernel
theorem dX8_number_103 : decode cX8_number 103 = .ok (.iaload, 1) := by decide +kernel
theorem dX8_number_104 : decode cX8_number 104 = .ok (.iadd, 1) := by decide +kernel
theorem dX8_number_105 : decode cX8_number 105 = .ok (.bipush 48, 2) := by decide +kernel
theorem dX8_number_107 : decode cX8_number 107 = .ok (.isub, 1) := by decide +kernel
theorem dX8_number_108 : decode cX8_number 108 = .ok (.istore 4, 2) := by decide +kernel
theorem dX8_number_110 : decode cX8_number 110 = .ok (.aload_n 0, 1) := by decide +kernel
theorem dX8_number_111 : decode cX8_number 111 = .ok (.dup, 1) := by decide +kernel
theorem dX8_number_112 : decode cX8_number 112 = .ok (.getfield 145, 3) := by decide +kernel
theorem dX8_number_115 : decode cX8_number 115 = .ok (.iconst 1, 1) := by decide +kernel
theorem dX8_number_116 : decode cX8_number 116 = .ok (.iadd, 1) := by decide +kernel
theorem dX8_number_117 : decode cX8_number 117 = .ok (.putfield 145, 3) := by decide +kernel
theorem dX8_number_120 : decode cX8_number 120 = .ok (.goto (-68), 3) := by decide +kernel
theorem dX8_number_123 : decode cX8_number 123 = .ok (.aload_n 0, 1) := by decide +kernel
theorem dX8_number_124 : decode cX8_number 124 = .ok (.getfield 25, 3) := by decide +kernel
theorem dX8_number_127 : decode cX8_number 127 = .ok (.iload_n 1, 1) := by decide +kernel
theorem dX8_number_128 : decode cX8_number 128 = .ok (.iload 4, 2) := by decide +kernel
theorem dX8_number_130 : decode cX8_number 130 = .ok (.iastore, 1) := by decide +kernel
theorem dX8_number_131 : decode cX8_number 131 = .ok (.iconst 1, 1) := by decide +kernel
theorem dX8_number_132 : decode cX8_number 132 = .ok (.ireturn, 1) := by decide +kernel
set_option maxRecDepth 20000 in
theorem wc_X8_isNext : Cond.code yX8_isNext cX8_isNext 3 (some .boolean) ∈ zB := List.mem_filter.mpr ⟨List.mem_of_getElem? (i := 896) (by decide +kernel), by decide +kernel⟩
set_option maxRecDepth 20000 in
theorem wm_X8_185 : Cond.methodLink RX8 185 yX8_isNext ∈ zB := List.mem_filter.mpr ⟨List.mem_of_getElem? (i := 893) (by decide +kernel), by decide +kernel⟩
theorem k_X8_185 : zCal RX8 185 yX8_isNext cX8_isNext 3 (some .boolean) 2 := ⟨wm_X8_185, wi_X8, wc_X8_isNext, by decide +kernel, by decide +kernel, by decide +kernel⟩
set_option maxRecDepth 20000 in
theorem wn_X8_isNext : Cond.instanceMethod yX8_isNext ∈ zB := List.mem_filter.mpr ⟨List.mem_of_getElem? (i := 895) (by decide +kernel), by decide +kernel⟩
set_option maxRecDepth 20000 in
theorem ws_X8_isNext : Cond.selects RX8 yX8_isNext yX8_isNext ∈ zB := List.mem_filter.mpr ⟨List.mem_of_getElem? (i := 22) (by decide +kernel), by decide +kernel⟩
theorem v_X8_isNext : zVir yX8_isNext 8 := ⟨wn_X8_isNext, ws_X8_isNext, TX8, 12, rfl⟩
theorem p_X8_145 : zPut RX8 145 8 8 false .int := ⟨RX8, TX8, 12, tyX8, rfl, by decide, iX8, wf_X8_145, rfl, tyX8_ok, nmX8, rfl, by decide +kernel, fun _ => rfl⟩
theorem q_X8_25 : zFld RX8 25 8 5 := ⟨RX8, TX8, 12, rfl, by decide, iX8, wf_X8_25, rfl⟩
def rm_X8_number : Room := { frames := 2, cells := 0, slots := 0, locals := 44 }
set_option maxHeartbeats 4000000 in
set_option maxRecDepth 20000 in
theorem t_X8_number_123 {p : Program} {l : Launch} {e : Env} {s : State} {m : MethodId} {args : Array Value} {below : List Frame} {meth : Method} {c : Code} {G : zG} (Z : zF p s m args c meth cX8_number 5 RX8 G) (hr : meth.sig.returnType = (some .boolean)) {out : Int32 × zHp} {a0 : Nat} {a1 : Int32} {a4 : Int32} {h : zHp} {H : Heap} {locs : List Loc} {ls : Array Slot} (hf : f_X8_number_123 a0 a1 a4 h = some out) (E : zE G s h H locs) (hl : lv_has ls 5 [(0, .ref a0), (1, .int a1), (4, .int a4)]) : W p l e rm_X8_number s m args below meth c H locs 0 0 (MQ below (zQi G out.1 out.2) args s 0 0 (zA G)) (F0 m 123 ls []) := by
  unfold f_X8_number_123 at hf
  refine lv_aload_n Z.x Z.b dX8_number_123 rfl (lv_at hl 0 rfl) ?_
  refine z_getR Z E q_X8_25 dX8_number_124 hf (fun v1 hf => ?_)
  refine lv_iload_n Z.x Z.b dX8_number_127 rfl (lv_at hl 1 rfl) ?_
  refine lv_iload Z.x Z.b dX8_number_128 (lv_at hl 2 rfl) ?_
  refine z_iast Z E dX8_number_130 hf (fun h2 H locs hf E => ?_)
  refine lv_iconst (v := 1) Z.x Z.b dX8_number_131 (by decide) ?_
  exact z_zret Z E hr dX8_number_132 hf
set_option maxHeartbeats 4000000 in
set_option maxRecDepth 20000 in
theorem t_X8_number_52_body {p : Program} {l : Launch} {e : Env} {s : State} {m : MethodId} {args : Array Value} {below : List Frame} {meth : Method} {c : Code} {G : zG} (Z : zF p s m args c meth cX8_number 5 RX8 G) (hr : meth.sig.returnType = (some .boolean)) {out : Int32 × zHp} {r52 : Nat → Int32 → Int32 → Int32 → zHp → Option (Int32 × zHp)} (k52 : ∀ {a0 : Nat} {a1 : Int32} {a3 : Int32} {a4 : Int32} {h : zHp} {H : Heap} {locs : List Loc} {ls : Array Slot}, r52 a0 a1 a3 a4 h = some out → zE G s h H locs → lv_has ls 5 [(0, .ref a0), (1, .int a1), (3, .int a3), (4, .int a4)] → W p l e rm_X8_number s m args below meth c H locs 0 0 (MQ below (zQi G out.1 out.2) args s 0 0 (zA G)) (F0 m 52 ls [])) {a0 : Nat} {a1 : Int32} {a3 : Int32} {a4 : Int32} {h : zHp} {H : Heap} {locs : List Loc} {ls : Array Slot} (hf : f_X8_number_52_body r52 a0 a1 a3 a4 h = some out) (E : zE G s h H locs) (hl : lv_has ls 5 [(0, .ref a0), (1, .int a1), (3, .int a3), (4, .int a4)]) : W p l e rm_X8_number s m args below meth c H locs 0 0 (MQ below (zQi G out.1 out.2) args s 0 0 (zA G)) (F0 m 52 ls []) := by
  unfold f_X8_number_52_body at hf
  refine lv_iload Z.x Z.b dX8_number_52 (lv_at hl 3 rfl) ?_
  refine lv_if_le (tgt := 123) Z.x Z.b dX8_number_54 (by decide) (fun c => ?_) (fun c => ?_)
  · have hf := zit hf c
    exact t_X8_number_123 Z hr hf E (lv_sub hl [0, 1, 3] rfl)
  · have hf := zif_ hf c
    refine lv_aload_n Z.x Z.b dX8_number_57 rfl (lv_at hl 0 rfl) ?_
    refine lv_bipush (v := 48) Z.x Z.b dX8_number_58 (by decide) ?_
    refine lv_bipush (v := 57) Z.x Z.b dX8_number_60 (by decide) ?_
    refine z_Vi (As := [.int 48, .int 57]) Z E hl.1 k_X8_185 v_X8_isNext hf (fun r h' e => c_X8_isNext l G h h' a0 48 57 r e) rfl rfl (Nat.le_of_ble_eq_true rfl) (zRm_of rfl (Nat.zero_le _) (Nat.zero_le _)) dX8_number_62 (fun v1 h2 H locs hf E => ?_)
    refine lv_if_eq (tgt := 123) Z.x Z.b dX8_number_65 (by decide) (fun c => ?_) (fun c => ?_)
    · have hf := zit hf c
      exact t_X8_number_123 Z hr hf E (lv_sub hl [0, 1, 3] rfl)
    · have hf := zif_ hf c
      refine lv_bipush (v := 10) Z.x Z.b dX8_number_68 (by decide) ?_
      refine lv_iload Z.x Z.b dX8_number_70 (lv_at hl 3 rfl) ?_
      refine lv_imul Z.x Z.b dX8_number_72 ?_
      refine lv_aload_n Z.x Z.b dX8_number_73 rfl (lv_at hl 0 rfl) ?_
      refine z_getR Z E q_X8_22 dX8_number_74 hf (fun v3 hf => ?_)
      refine lv_aload_n Z.x Z.b dX8_number_77 rfl (lv_at hl 0 rfl) ?_
      refine z_getI Z E q_X8_145 dX8_number_78 hf (fun v4 hf => ?_)
      refine z_iald Z E dX8_number_81 hf (fun v5 hf => ?_)
      refine lv_iadd Z.x Z.b dX8_number_82 ?_
      refine lv_bipush (v := 48) Z.x Z.b dX8_number_83 (by decide) ?_
      refine lv_isub Z.x Z.b dX8_number_85 ?_
      refine lv_iload_n Z.x Z.b dX8_number_86 rfl (lv_at hl 2 rfl) ?_
      refine lv_icmp_gt (tgt := 123) Z.x Z.b dX8_number_87 (by decide) (fun c => ?_) (fun c => ?_)
      · have hf := zit hf c
        exact t_X8_number_123 Z hr hf E (lv_sub hl [0, 1, 3] rfl)
      · have hf := zif_ hf c
        refine lv_bipush (v := 10) Z.x Z.b dX8_number_90 (by decide) ?_
        refine lv_iload Z.x Z.b dX8_number_92 (lv_at hl 3 rfl) ?_
        refine lv_imul Z.x Z.b dX8_number_94 ?_
        refine lv_aload_n Z.x Z.b dX8_number_95 rfl (lv_at hl 0 rfl) ?_
        refine z_getR Z E q_X8_22 dX8_number_96 hf (fun v6 hf => ?_)
        refine lv_aload_n Z.x Z.b dX8_number_99 rfl (lv_at hl 0 rfl) ?_
        refine z_getI Z E q_X8_145 dX8_number_100 hf (fun v7 hf => ?_)
        refine z_iald Z E dX8_number_103 hf (fun v8 hf => ?_)
        refine lv_iadd Z.x Z.b dX8_number_104 ?_
        refine lv_bipush (v := 48) Z.x Z.b dX8_number_105 (by decide) ?_
        refine lv_isub Z.x Z.b dX8_number_107 ?_
        refine lv_istore (lv' := [(4, .int (((10 * a4) + v8) - 48)), (0, .ref a0), (1, .int a1), (3, .int a3)]) Z.x Z.b dX8_number_108 hl (by decide) rfl (fun ls hl => ?_)
        refine lv_aload_n Z.x Z.b dX8_number_110 rfl (lv_at hl 1 rfl) ?_
        refine lv_dup Z.x Z.b dX8_number_111 rfl ?_
        refine z_getI Z E q_X8_145 dX8_number_112 hf (fun v9 hf => ?_)
        refine lv_iconst (v := 1) Z.x Z.b dX8_number_115 (by decide) ?_
        refine lv_iadd Z.x Z.b dX8_number_116 ?_
        refine z_put Z E p_X8_145 rfl rfl dX8_number_117 hf (fun h10 H locs hf E => ?_)
        refine lv_goto (tgt := 52) Z.x Z.b dX8_number_120 (by decide) ?_
        exact k52 hf E (lv_sub hl [1, 2, 3, 0] rfl)
theorem t_X8_number_52 {p : Program} {l : Launch} {e : Env} {s : State} {m : MethodId} {args : Array Value} {below : List Frame} {meth : Method} {c : Code} {G : zG} (Z : zF p s m args c meth cX8_number 5 RX8 G) (hr : meth.sig.returnType = (some .boolean)) {out : Int32 × zHp} : ∀ (n : Nat), ∀ {a0 : Nat} {a1 : Int32} {a3 : Int32} {a4 : Int32} {h : zHp} {H : Heap} {locs : List Loc} {ls : Array Slot}, f_X8_number_52 n a0 a1 a3 a4 h = some out → zE G s h H locs → lv_has ls 5 [(0, .ref a0), (1, .int a1), (3, .int a3), (4, .int a4)] → W p l e rm_X8_number s m args below meth c H locs 0 0 (MQ below (zQi G out.1 out.2) args s 0 0 (zA G)) (F0 m 52 ls [])
  | 0 => fun hf => by cases hf
  | n + 1 => fun hf E hl => t_X8_number_52_body Z hr (r52 := f_X8_number_52 n) (t_X8_number_52 Z hr n) hf E hl
set_option maxHeartbeats 4000000 in
set_option maxRecDepth 20000 in
theorem t_X8_number_20 {p : Program} {l : Launch} {e : Env} {s : State} {m : MethodId} {args : Array Value} {below : List Frame} {meth : Method} {c : Code} {G : zG} (Z : zF p s m args c meth cX8_number 5 RX8 G) (hr : meth.sig.returnType = (some .boolean)) {out : Int32 × zHp} {a0 : Nat} {a1 : Int32} {a3 : Int32} {s0 : Int32} {s1 : Int32} {s2 : Nat} {h : zHp} {H : Heap} {locs : List Loc} {ls : Array Slot} (hf : f_X8_number_20 a0 a1 a3 s0 s1 s2 h = some out) (E : zE G s h H locs) (hl : lv_has ls 5 [(0, .ref a0), (1, .int a1), (3, .int a3)]) : W p l e rm_X8_number s m args below meth c H locs 0 0 (MQ below (zQi G out.1 out.2) args s 0 0 (zA G)) (F0 m 20 ls [.int s0, .int s1, .ref s2]) := by
  unfold f_X8_number_20 at hf
  refine z_Vi (As := [.int s1, .int s0]) Z E hl.1 k_X8_185 v_X8_isNext hf (fun r h' e => c_X8_isNext l G h h' s2 s1 s0 r e) rfl rfl (Nat.le_of_ble_eq_true rfl) (zRm_of rfl (Nat.zero_le _) (Nat.zero_le _)) dX8_number_20 (fun v1 h2 H locs hf E => ?_)
  refine lv_if_ne (tgt := 28) Z.x Z.b dX8_number_23 (by decide) (fun c => ?_) (fun c => ?_)
  · have hf := zif_ hf c
    refine lv_aload_n Z.x Z.b dX8_number_28 rfl (lv_at hl 0 rfl) ?_
    refine z_getR Z E q_X8_22 dX8_number_29 hf (fun v3 hf => ?_)
    refine lv_aload_n Z.x Z.b dX8_number_32 rfl (lv_at hl 0 rfl) ?_
    refine z_getI Z E q_X8_145 dX8_number_33 hf (fun v4 hf => ?_)
    refine z_iald Z E dX8_number_36 hf (fun v5 hf => ?_)
    refine lv_bipush (v := 48) Z.x Z.b dX8_number_37 (by decide) ?_
    refine lv_isub Z.x Z.b dX8_number_39 ?_
    refine lv_istore (lv' := [(4, .int (v5 - 48)), (0, .ref a0), (1, .int a1), (3, .int a3)]) Z.x Z.b dX8_number_40 hl (by decide) rfl (fun ls hl => ?_)
    refine lv_aload_n Z.x Z.b dX8_number_42 rfl (lv_at hl 1 rfl) ?_
    refine lv_dup Z.x Z.b dX8_number_43 rfl ?_
    refine z_getI Z E q_X8_145 dX8_number_44 hf (fun v6 hf => ?_)
    refine lv_iconst (v := 1) Z.x Z.b dX8_number_47 (by decide) ?_
    refine lv_iadd Z.x Z.b dX8_number_48 ?_
    refine z_put Z E p_X8_145 rfl rfl dX8_number_49 hf (fun h7 H locs hf E => ?_)
    exact t_X8_number_52 Z hr zN hf E (lv_sub hl [1, 2, 3, 0] rfl)
  · have hf := zit hf c
    refine lv_iconst (v := 0) Z.x Z.b dX8_number_26 (by decide) ?_
    exact z_zret Z E hr dX8_number_27 hf
set_option maxHeartbeats 4000000 in
set_option maxRecDepth 20000 in
theorem t_X8_number {p : Program} {l : Launch} {e : Env} {s : State} {m : MethodId} {args : Array Value} {below : List Frame} {meth : Method} {c : Code} {G : zG} (Z : zF p s m args c meth cX8_number 5 RX8 G) (hr : meth.sig.returnType = (some .boolean)) {out : Int32 × zHp} {a0 : Nat} {a1 : Int32} {a2 : Int32} {a3 : Int32} {h : zHp} {H : Heap} {locs : List Loc} {ls : Array Slot} (hf : f_X8_number a0 a1 a2 a3 h = some out) (E : zE G s h H locs) (hl : lv_has ls 5 [(0, .ref a0), (1, .int a1), (2, .int a2), (3, .int a3)]) : W p l e rm_X8_number s m args below meth c H locs 0 0 (MQ below (zQi G out.1 out.2) args s 0 0 (zA G)) (F0 m 0 ls []) := by
  unfold f_X8_number at hf
  refine lv_aload_n Z.x Z.b dX8_number_0 rfl (lv_at hl 0 rfl) ?_
  refine lv_bipush (v := 48) Z.x Z.b dX8_number_1 (by decide) ?_
  refine lv_iload_n Z.x Z.b dX8_number_3 rfl (lv_at hl 2 rfl) ?_
  refine lv_iadd Z.x Z.b dX8_number_4 ?_
  refine lv_iload_n Z.x Z.b dX8_number_5 rfl (lv_at hl 3 rfl) ?_
  refine lv_bipush (v := 9) Z.x Z.b dX8_number_6 (by decide) ?_
  refine lv_icmp_ge (tgt := 18) Z.x Z.b dX8_number_8 (by decide) (fun c => ?_) (fun c => ?_)
  · have hf := zit hf c
    refine lv_bipush (v := 57) Z.x Z.b dX8_number_18 (by decide) ?_
    exact t_X8_number_20 Z hr hf E (lv_sub hl [0, 1, 3] rfl)
  · have hf := zif_ hf c
    refine lv_bipush (v := 48) Z.x Z.b dX8_number_11 (by decide) ?_
    refine lv_iload_n Z.x Z.b dX8_number_13 rfl (lv_at hl 3 rfl) ?_
    refine lv_iadd Z.x Z.b dX8_number_14 ?_
    refine lv_goto (tgt := 20) Z.x Z.b dX8_number_15 (by decide) ?_
    exact t_X8_number_20 Z hr hf E (lv_sub hl [0, 1, 3] rfl)
set_option maxHeartbeats 4000000 in
set_option maxRecDepth 20000 in
theorem c_X8_number (l : Launch) (G : zG) (h : zHp) (h' : zHp) (a0 : Nat) (a1 : Int32) (a2 : Int32) (a3 : Int32) (r : Int32) (hf : f_X8_number a0 a1 a2 a3 h = some (r, h')) : zM0 l yX8_number cX8_number 5 (some .boolean) rm_X8_number G [.ref a0, .int a1, .int a2, .int a3] h (zQi G r h') := by
  refine Met.ofW (cc := cX8_number) (maxL := 5) (ret := (some .boolean)) (by decide) rfl ?_
  intro p e s m args below meth c s₁ B hml hv
  obtain ⟨rfl, hW⟩ := hv
  obtain ⟨Z, E, hr⟩ := zEnter (own := RX8) B hml rfl hW
  have hl := lv_entry ([.ref a0, .int a1, .int a2, .int a3]) (n := 5) (Nat.le_of_ble_eq_true rfl)
  rw [lg_entry_eq]
  generalize (lg_sl ([.ref a0, .int a1, .int a2, .int a3]) ++ List.replicate (5 - (lg_sl ([.ref a0, .int a1, .int a2, .int a3])).length) Slot.unset).toArray = ls at hl ⊢
  have hl : lv_has ls 5 [(0, .ref a0), (1, .int a1), (2, .int a2), (3, .int a3)] := hl
  exact t_X8_number (out := (r, h')) Z hr hf E hl
/-! FerryCrewsModel.sign(I)Z -/
theorem dX8_sign_0 : decode cX8_sign 0 = .ok (.aload_n 0, 1) := by decide +kernel
theorem dX8_sign_1 : decode cX8_sign 1 = .ok (.iload_n 1, 1) := by decide +kernel
theorem dX8_sign_2 : decode cX8_sign 2 = .ok (.iload_n 1, 1) := by decide +kernel
theorem dX8_sign_3 : decode cX8_sign 3 = .ok (.invokevirtual 185, 3) := by decide +kernel
theorem dX8_sign_6 : decode cX8_sign 6 = .ok (.istore_n 2, 1) := by decide +kernel
theorem dX8_sign_7 : decode cX8_sign 7 = .ok (.aload_n 0, 1) := by decide +kernel
theorem dX8_sign_8 : decode cX8_sign 8 = .ok (.dup, 1) := by decide +kernel
theorem dX8_sign_9 : decode cX8_sign 9 = .ok (.getfield 145, 3) := by decide +kernel
theorem dX8_sign_12 : decode cX8_sign 12 = .ok (.iload_n 2, 1) := by decide +kernel
theorem dX8_sign_13 : decode cX8_sign 13 = .ok (.ifCond .eq 7, 3) := by decide +kernel
theorem dX8_sign_16 : decode cX8_sign 16 = .ok (.iconst 1, 1) := by decide +kernel
theorem dX8_sign_17 : decode cX8_sign 17 = .ok (.goto 4, 3) := by decide +kernel
theorem dX8_sign_20 : decode cX8_sign 20 = .ok (.iconst 0, 1) := by decide +kernel
theorem dX8_sign_21 : decode cX8_sign 21 = .ok (.iadd, 1) := by decide +kernel
theorem dX8_sign_22 : decode cX8_sign 22 = .ok (.putfield 145, 3) := by decide +kernel
theorem dX8_sign_25 : decode cX8_sign 25 = .ok (.iload_n 2, 1) := by decide +kernel
theorem dX8_sign_26 : decode cX8_sign 26 = .ok (.ireturn, 1) := by decide +kernel
def rm_X8_sign : Room := { frames := 2, cells := 0, slots := 0, locals := 44 }
set_option maxHeartbeats 4000000 in
set_option maxRecDepth 20000 in
theorem t_X8_sign_21 {p : Program} {l : Launch} {e : Env} {s : State} {m : MethodId} {args : Array Value} {below : List Frame} {meth : Method} {c : Code} {G : zG} (Z : zF p s m args c meth cX8_sign 3 RX8 G) (hr : meth.sig.returnType = (some .boolean)) {out : Int32 × zHp} {a2 : Int32} {s0 : Int32} {s1 : Int32} {s2 : Nat} {h : zHp} {H : Heap} {locs : List Loc} {ls : Array Slot} (hf : f_X8_sign_21 a2 s0 s1 s2 h = some out) (E : zE G s h H locs) (hl : lv_has ls 3 [(2, .int a2)]) : W p l e rm_X8_sign s m args below meth c H locs 0 0 (MQ below (zQi G out.1 out.2) args s 0 0 (zA G)) (F0 m 21 ls [.int s0, .int s1, .ref s2]) := by
  unfold f_X8_sign_21 at hf
  refine lv_iadd Z.x Z.b dX8_sign_21 ?_
  refine z_put Z E p_X8_145 rfl rfl dX8_sign_22 hf (fun h1 H locs hf E => ?_)
  refine lv_iload_n Z.x Z.b dX8_sign_25 rfl (lv_at hl 0 rfl) ?_
  exact z_zret Z E hr dX8_sign_26 hf
set_option maxHeartbeats 4000000 in
set_option maxRecDepth 20000 in
theorem t_X8_sign {p : Program} {l : Launch} {e : Env} {s : State} {m : MethodId} {args : Array Value} {below : List Frame} {meth : Method} {c : Code} {G : zG} (Z : zF p s m args c meth cX8_sign 3 RX8 G) (hr : meth.sig.returnType = (some .boolean)) {out : Int32 × zHp} {a0 : Nat} {a1 : Int32} {h : zHp} {H : Heap} {locs : List Loc} {ls : Array Slot} (hf : f_X8_sign a0 a1 h = some out) (E : zE G s h H locs) (hl : lv_has ls 3 [(0, .ref a0), (1, .int a1)]) : W p l e rm_X8_sign s m args below meth c H locs 0 0 (MQ below (zQi G out.1 out.2) args s 0 0 (zA G)) (F0 m 0 ls []) := by
  unfold f_X8_sign at hf
  refine lv_aload_n Z.x Z.b dX8_sign_0 rfl (lv_at hl 0 rfl) ?_
  refine lv_iload_n Z.x Z.b dX8_sign_1 rfl (lv_at hl 1 rfl) ?_
  refine lv_iload_n Z.x Z.b dX8_sign_2 rfl (lv_at hl 1 rfl) ?_
  refine z_Vi (As := [.int a1, .int a1]) Z E hl.1 k_X8_185 v_X8_isNext hf (fun r h' e => c_X8_isNext l G h h' a0 a1 a1 r e) rfl rfl (Nat.le_of_ble_eq_true rfl) (zRm_of rfl (Nat.zero_le _) (Nat.zero_le _)) dX8_sign_3 (fun v1 h2 H locs hf E => ?_)
  refine lv_istore_n (lv' := [(2, .int v1), (0, .ref a0), (1, .int a1)]) Z.x Z.b dX8_sign_6 rfl hl (by decide) rfl (fun ls hl => ?_)
  refine lv_aload_n Z.x Z.b dX8_sign_7 rfl (lv_at hl 1 rfl) ?_
  refine lv_dup Z.x Z.b dX8_sign_8 rfl ?_
  refine z_getI Z E q_X8_145 dX8_sign_9 hf (fun v3 hf => ?_)
  refine lv_iload_n Z.x Z.b dX8_sign_12 rfl (lv_at hl 0 rfl) ?_
  refine lv_if_eq (tgt := 20) Z.x Z.b dX8_sign_13 (by decide) (fun c => ?_) (fun c => ?_)
  · have hf := zit hf c
    refine lv_iconst (v := 0) Z.x Z.b dX8_sign_20 (by decide) ?_
    exact t_X8_sign_21 Z hr hf E (lv_sub hl [0] rfl)
  · have hf := zif_ hf c
    refine lv_iconst (v := 1) Z.x Z.b dX8_sign_16 (by decide) ?_
    refine lv_goto (tgt := 21) Z.x Z.b dX8_sign_17 (by decide) ?_
    exact t_X8_sign_21 Z hr hf E (lv_sub hl [0] rfl)
set_option maxHeartbeats 4000000 in
set_option maxRecDepth 20000 in
theorem c_X8_sign (l : Launch) (G : zG) (h : zHp) (h' : zHp) (a0 : Nat) (a1 : Int32) (r : Int32) (hf : f_X8_sign a0 a1 h = some (r, h')) : zM0 l yX8_sign cX8_sign 3 (some .boolean) rm_X8_sign G [.ref a0, .int a1] h (zQi G r h') := by
  refine Met.ofW (cc := cX8_sign) (maxL := 3) (ret := (some .boolean)) (by decide) rfl ?_
  intro p e s m args below meth c s₁ B hml hv
  obtain ⟨rfl, hW⟩ := hv
  obtain ⟨Z, E, hr⟩ := zEnter (own := RX8) B hml rfl hW
  have hl := lv_entry ([.ref a0, .int a1]) (n := 3) (Nat.le_of_ble_eq_true rfl)
  rw [lg_entry_eq]
  generalize (lg_sl ([.ref a0, .int a1]) ++ List.replicate (3 - (lg_sl ([.ref a0, .int a1])).length) Slot.unset).toArray = ls at hl ⊢
  have hl : lv_has ls 3 [(0, .ref a0), (1, .int a1)] := hl
  exact t_X8_sign (out := (r, h')) Z hr hf E hl
/-! FerryCrewsModel.readSailing()Z -/
theorem dX8_readSailing_0 : decode cX8_readSailing 0 = .ok (.aload_n 0, 1) := by decide +kernel
theorem dX8_readSailing_1 : decode cX8_readSailing 1 = .ok (.iconst 0, 1) := by decide +kernel
theorem dX8_readSailing_2 : decode cX8_readSailing 2 = .ok (.iconst 0, 1) := by decide +kernel
theorem dX8_readSailing_3 : decode cX8_readSailing 3 = .ok (.iconst 5, 1) := by decide +kernel
theorem dX8_readSailing_4 : decode cX8_readSailing 4 = .ok (.invokevirtual 188, 3) := by decide +kernel
theorem dX8_readSailing_7 : decode cX8_readSailing 7 = .ok (.ifCond .eq 53, 3) := by decide +kernel
theorem dX8_readSailing_10 : decode cX8_readSailing 10 = .ok (.aload_n 0, 1) := by decide +kernel
theorem dX8_readSailing_11 : decode cX8_readSailing 11 = .ok (.bipush 58, 2) := by decide +kernel
theorem dX8_readSailing_13 : decode cX8_readSailing 13 = .ok (.invokevirtual 191, 3) := by decide +kernel
theorem dX8_readSailing_16 : decode cX8_readSailing 16 = .ok (.ifCond .eq 44, 3) := by decide +kernel
theorem dX8_readSailing_19 : decode cX8_readSailing 19 = .ok (.aload_n 0, 1) := by decide +kernel
theorem dX8_readSailing_20 : decode cX8_readSailing 20 = .ok (.iconst 1, 1) := by decide +kernel
theorem dX8_readSailing_21 : decode cX8_readSailing 21 = .ok (.iconst 0, 1) := by decide +kernel
theorem dX8_readSailing_22 : decode cX8_readSailing 22 = .ok (.sipush 900, 3) := by decide +kernel
theorem dX8_readSailing_25 : decode cX8_readSailing 25 = .ok (.invokevirtual 188, 3) := by decide +kernel
theorem dX8_readSailing_28 : decode cX8_readSailing 28 = .ok (.ifCond .eq 32, 3) := by decide +kernel
theorem dX8_readSailing_31 : decode cX8_readSailing 31 = .ok (.aload_n 0, 1) := by decide +kernel
theorem dX8_readSailing_32 : decode cX8_readSailing 32 = .ok (.bipush 43, 2) := by decide +kernel
theorem dX8_readSailing_34 : decode cX8_readSailing 34 = .ok (.invokevirtual 191, 3) := by decide +kernel
theorem dX8_readSailing_37 : decode cX8_readSailing 37 = .ok (.ifCond .eq 23, 3) := by decide +kernel
theorem dX8_readSailing_40 : decode cX8_readSailing 40 = .ok (.aload_n 0, 1) := by decide +kernel
theorem dX8_readSailing_41 : decode cX8_readSailing 41 = .ok (.iconst 2, 1) := by decide +kernel
theorem dX8_readSailing_42 : decode cX8_readSailing 42 = .ok (.iconst 1, 1) := by decide +kernel
theorem dX8_readSailing_43 : decode cX8_readSailing 43 = .ok (.bipush 12, 2) := by decide +kernel
theorem dX8_readSailing_45 : decode cX8_readSailing 45 = .ok (.invokevirtual 188, 3) := by decide +kernel
theorem dX8_readSailing_48 : decode cX8_readSailing 48 = .ok (.ifCond .eq 12, 3) := by decide +kernel
theorem dX8_readSailing_51 : decode cX8_readSailing 51 = .ok (.aload_n 0, 1) := by decide +kernel
theorem dX8_readSailing_52 : decode cX8_readSailing 52 = .ok (.bipush 61, 2) := by decide +kernel
theorem dX8_readSailing_54 : decode cX8_readSailing 54 = .ok (.invokevirtual 191, 3) := by decide +kernel
theorem dX8_readSailing_57 : decode cX8_readSailing 57 = .ok (.ifCond .ne 5, 3) := by decide +kernel
theorem dX8_readSailing_60 : decode cX8_readSailing 60 = .ok (.iconst 0, 1) := by decide +kernel
theorem dX8_readSailing_61 : decode cX8_readSailing 61 = .ok (.ireturn, 1) := by decide +kernel
theorem dX8_readSailing_62 : decode cX8_readSailing 62 = .ok (.iconst 0, 1) := by decide +kernel
theorem dX8_readSailing_63 : decode cX8_readSailing 63 = .ok (.istore_n 1, 1) := by decide +kernel
theorem dX8_readSailing_64 : decode cX8_readSailing 64 = .ok (.iconst 0, 1) := by decide +kernel
theorem dX8_readSailing_65 : decode cX8_readSailing 65 = .ok (.istore_n 2, 1) := by decide +kernel
theorem dX8_readSailing_66 : decode cX8_readSailing 66 = .ok (.iload_n 2, 1) := by decide +kernel
theorem dX8_readSailing_67 : decode cX8_readSailing 67 = .ok (.iconst 4, 1) := by decide +kernel
theorem dX8_readSailing_68 : decode cX8_readSailing 68 = .ok (.if_icmp .ge 50, 3) := by decide +kernel
theorem dX8_readSailing_71 : decode cX8_readSailing 71 = .ok (.aload_n 0, 1) := by decide +kernel
theorem dX8_readSailing_72 : decode cX8_readSailing 72 = .ok (.bipush 48, 2) := by decide +kernel
theorem dX8_readSailing_74 : decode cX8_readSailing 74 = .ok (.bipush 51, 2) := by decide +kernel
theorem dX8_readSailing_76 : decode cX8_readSailing 76 = .ok (.invokevirtual 185, 3) := by decide +kernel
theorem dX8_readSailing_79 : decode cX8_readSailing 79 = .ok (.ifCond .ne 5, 3) := by decide +kernel
theorem dX8_readSailing_82 : decode cX8_readSailing 82 = .ok (.iconst 0, 1) := by decide +kernel
theorem dX8_readSailing_83 : decode cX8_readSailing 83 = .ok (.ireturn, 1) := by decide +kernel
theorem dX8_readSailing_84 : decode cX8_readSailing 84 = .ok (.bipush 10, 2) := by decide +kernel
theorem dX8_readSailing_86 : decode cX8_readSailing 86 = .ok (.iload_n 1, 1) := by decide +kernel
theorem dX8_readSailing_87 : decode cX8_readSailing 87 = .ok (.imul, 1) := by decide +kernel
theorem dX8_readSailing_88 : decode cX8_readSailing 88 = .ok (.aload_n 0, 1) := by decide +kernel
theorem dX8_readSailing_89 : decode cX8_readSailing 89 = .ok (.getfield 22, 3) := by decide +kernel
theorem dX8_readSailing_92 : decode cX8_readSailing 92 = .ok (.aload_n 0, 1) := by decide +kernel
theorem dX8_readSailing_93 : decode cX8_readSailing 93 = .ok (.getfield 145, 3) := by decide +kernel
theorem dX8_readSailing_96 : decode cX8_readSailing 96 = .ok (.iaload, 1) := by decide +kernel
theorem dX8_readSailing_97 : decode cX8_readSailing 97 = .ok (.iadd, 1) := by decide +kernel
theorem dX8_readSailing_98 : decode cX8_readSailing 98 = .ok (.bipush 48, 2) := by decide +kernel
theorem dX8_readSailing_100 : decode cX8_readSailing 100 = .ok (.isub, 1) := by decide +kernel
theorem dX8_readSailing_101 : decode cX8_readSailing 101 = .ok (.istore_n 1, 1) := by decide +kernel
theorem dX8_readSailing_102 : decode cX8_readSailing 102 = .ok (.aload_n 0, 1) := by decide +kernel
theorem dX8_readSailing_103 : decode cX8_readSailing 103 = .ok (.dup, 1) := by decide +kernel
theorem dX8_readSailing_104 : decode cX8_readSailing 104 = .ok (.getfield 145, 3) := by decide +kernel
theorem dX8_readSailing_107 : decode cX8_readSailing 107 = .ok (.iconst 1, 1) := by decide +kernel
theorem dX8_readSailing_108 : decode cX8_readSailing 108 = .ok (.iadd, 1) := by decide +kernel
theorem dX8_readSailing_109 : decode cX8_readSailing 109 = .ok (.putfield 145, 3) := by decide +kernel
theorem dX8_readSailing_112 : decode cX8_readSailing 112 = .ok (.iinc 2 1, 3) := by decide +kernel
theorem dX8_readSailing_115 : decode cX8_readSailing 115 = .ok (.goto (-49), 3) := by decide +kernel
theorem dX8_readSailing_118 : decode cX8_readSailing 118 = .ok (.aload_n 0, 1) := by decide +kernel
theorem dX8_readSailing_119 : decode cX8_readSailing 119 = .ok (.getfield 25, 3) := by decide +kernel
theorem dX8_readSailing_122 : decode cX8_readSailing 122 = .ok (.iconst 3, 1) := by decide +kernel
theorem dX8_readSailing_123 : decode cX8_readSailing 123 = .ok (.iload_n 1, 1) := by decide +kernel
theorem dX8_readSailing_124 : decode cX8_readSailing 124 = .ok (.iastore, 1) := by decide +kernel
theorem dX8_readSailing_125 : decode cX8_readSailing 125 = .ok (.iconst 1, 1) := by decide +kernel
theorem dX8_readSailing_126 : decode cX8_readSailing 126 = .ok (.ireturn, 1) := by decide +kernel
set_option maxRecDepth 20000 in
theorem wc_X8_number : Cond.code yX8_number cX8_number 5 (some .boolean) ∈ zB := List.mem_filter.mpr ⟨List.mem_of_getElem? (i := 892) (by decide +kernel), by decide +kernel⟩
set_option maxRecDepth 20000 in
theorem wm_X8_188 : Cond.methodLink RX8 188 yX8_number ∈ zB := List.mem_filter.mpr ⟨List.mem_of_getElem? (i := 889) (by decide +kernel), by decide +kernel⟩
theorem k_X8_188 : zCal RX8 188 yX8_number cX8_number 5 (some .boolean) 3 := ⟨wm_X8_188, wi_X8, wc_X8_number, by decide +kernel, by decide +kernel, by decide +kernel⟩
set_option maxRecDepth 20000 in
theorem wn_X8_number : Cond.instanceMethod yX8_number ∈ zB := List.mem_filter.mpr ⟨List.mem_of_getElem? (i := 891) (by decide +kernel), by decide +kernel⟩
set_option maxRecDepth 20000 in
theorem ws_X8_number : Cond.selects RX8 yX8_number yX8_number ∈ zB := List.mem_filter.mpr ⟨List.mem_of_getElem? (i := 21) (by decide +kernel), by decide +kernel⟩
theorem v_X8_number : zVir yX8_number 8 := ⟨wn_X8_number, ws_X8_number, TX8, 12, rfl⟩
set_option maxRecDepth 20000 in
theorem wc_X8_sign : Cond.code yX8_sign cX8_sign 3 (some .boolean) ∈ zB := List.mem_filter.mpr ⟨List.mem_of_getElem? (i := 900) (by decide +kernel), by decide +kernel⟩
set_option maxRecDepth 20000 in
theorem wm_X8_191 : Cond.methodLink RX8 191 yX8_sign ∈ zB := List.mem_filter.mpr ⟨List.mem_of_getElem? (i := 897) (by decide +kernel), by decide +kernel⟩
theorem k_X8_191 : zCal RX8 191 yX8_sign cX8_sign 3 (some .boolean) 1 := ⟨wm_X8_191, wi_X8, wc_X8_sign, by decide +kernel, by decide +kernel, by decide +kernel⟩
set_option maxRecDepth 20000 in
theorem wn_X8_sign : Cond.instanceMethod yX8_sign ∈ zB := List.mem_filter.mpr ⟨List.mem_of_getElem? (i := 899) (by decide +kernel), by decide +kernel⟩
set_option maxRecDepth 20000 in
theorem ws_X8_sign : Cond.selects RX8 yX8_sign yX8_sign ∈ zB := List.mem_filter.mpr ⟨List.mem_of_getElem? (i := 23) (by decide +kernel), by decide +kernel⟩
theorem v_X8_sign : zVir yX8_sign 8 := ⟨wn_X8_sign, ws_X8_sign, TX8, 12, rfl⟩
def rm_X8_readSailing : Room := { frames := 3, cells := 0, slots := 0, locals := 68 }
set_option maxHeartbeats 4000000 in
set_option maxRecDepth 20000 in
theorem t_X8_readSailing_66_body {p : Program} {l : Launch} {e : Env} {s : State} {m : MethodId} {args : Array Value} {below : List Frame} {meth : Method} {c : Code} {G : zG} (Z : zF p s m args c meth cX8_readSailing 3 RX8 G) (hr : meth.sig.returnType = (some .boolean)) {out : Int32 × zHp} {r66 : Nat → Int32 → Int32 → zHp → Option (Int32 × zHp)} (k66 : ∀ {a0 : Nat} {a1 : Int32} {a2 : Int32} {h : zHp} {H : Heap} {locs : List Loc} {ls : Array Slot}, r66 a0 a1 a2 h = some out → zE G s h H locs → lv_has ls 3 [(0, .ref a0), (1, .int a1), (2, .int a2)] → W p l e rm_X8_readSailing s m args below meth c H locs 0 0 (MQ below (zQi G out.1 out.2) args s 0 0 (zA G)) (F0 m 66 ls [])) {a0 : Nat} {a1 : Int32} {a2 : Int32} {h : zHp} {H : Heap} {locs : List Loc} {ls : Array Slot} (hf : f_X8_readSailing_66_body r66 a0 a1 a2 h = some out) (E : zE G s h H locs) (hl : lv_has ls 3 [(0, .ref a0), (1, .int a1), (2, .int a2)]) : W p l e rm_X8_readSailing s m args below meth c H locs 0 0 (MQ below (zQi G out.1 out.2) args s 0 0 (zA G)) (F0 m 66 ls []) := by
  unfold f_X8_readSailing_66_body at hf
  refine lv_iload_n Z.x Z.b dX8_readSailing_66 rfl (lv_at hl 2 rfl) ?_
  refine lv_iconst (v := 4) Z.x Z.b dX8_readSailing_67 (by decide) ?_
  refine lv_icmp_ge (tgt := 118) Z.x Z.b dX8_readSailing_68 (by decide) (fun c => ?_) (fun c => ?_)
  · have hf := zit hf c
    refine lv_aload_n Z.x Z.b dX8_readSailing_118 rfl (lv_at hl 0 rfl) ?_
    refine z_getR Z E q_X8_25 dX8_readSailing_119 hf (fun v1 hf => ?_)
    refine lv_iconst (v := 3) Z.x Z.b dX8_readSailing_122 (by decide) ?_
    refine lv_iload_n Z.x Z.b dX8_readSailing_123 rfl (lv_at hl 1 rfl) ?_
    refine z_iast Z E dX8_readSailing_124 hf (fun h2 H locs hf E => ?_)
    refine lv_iconst (v := 1) Z.x Z.b dX8_readSailing_125 (by decide) ?_
    exact z_zret Z E hr dX8_readSailing_126 hf
  · have hf := zif_ hf c
    refine lv_aload_n Z.x Z.b dX8_readSailing_71 rfl (lv_at hl 0 rfl) ?_
    refine lv_bipush (v := 48) Z.x Z.b dX8_readSailing_72 (by decide) ?_
    refine lv_bipush (v := 51) Z.x Z.b dX8_readSailing_74 (by decide) ?_
    refine z_Vi (As := [.int 48, .int 51]) Z E hl.1 k_X8_185 v_X8_isNext hf (fun r h' e => c_X8_isNext l G h h' a0 48 51 r e) rfl rfl (Nat.le_of_ble_eq_true rfl) (zRm_of rfl (Nat.zero_le _) (Nat.zero_le _)) dX8_readSailing_76 (fun v3 h4 H locs hf E => ?_)
    refine lv_if_ne (tgt := 84) Z.x Z.b dX8_readSailing_79 (by decide) (fun c => ?_) (fun c => ?_)
    · have hf := zif_ hf c
      refine lv_bipush (v := 10) Z.x Z.b dX8_readSailing_84 (by decide) ?_
      refine lv_iload_n Z.x Z.b dX8_readSailing_86 rfl (lv_at hl 1 rfl) ?_
      refine lv_imul Z.x Z.b dX8_readSailing_87 ?_
      refine lv_aload_n Z.x Z.b dX8_readSailing_88 rfl (lv_at hl 0 rfl) ?_
      refine z_getR Z E q_X8_22 dX8_readSailing_89 hf (fun v5 hf => ?_)
      refine lv_aload_n Z.x Z.b dX8_readSailing_92 rfl (lv_at hl 0 rfl) ?_
      refine z_getI Z E q_X8_145 dX8_readSailing_93 hf (fun v6 hf => ?_)
      refine z_iald Z E dX8_readSailing_96 hf (fun v7 hf => ?_)
      refine lv_iadd Z.x Z.b dX8_readSailing_97 ?_
      refine lv_bipush (v := 48) Z.x Z.b dX8_readSailing_98 (by decide) ?_
      refine lv_isub Z.x Z.b dX8_readSailing_100 ?_
      refine lv_istore_n (lv' := [(1, .int (((10 * a1) + v7) - 48)), (0, .ref a0), (2, .int a2)]) Z.x Z.b dX8_readSailing_101 rfl hl (by decide) rfl (fun ls hl => ?_)
      refine lv_aload_n Z.x Z.b dX8_readSailing_102 rfl (lv_at hl 1 rfl) ?_
      refine lv_dup Z.x Z.b dX8_readSailing_103 rfl ?_
      refine z_getI Z E q_X8_145 dX8_readSailing_104 hf (fun v8 hf => ?_)
      refine lv_iconst (v := 1) Z.x Z.b dX8_readSailing_107 (by decide) ?_
      refine lv_iadd Z.x Z.b dX8_readSailing_108 ?_
      refine z_put Z E p_X8_145 rfl rfl dX8_readSailing_109 hf (fun h9 H locs hf E => ?_)
      refine lv_iinc (v := (a2 + 1)) (lv' := [(2, .int (a2 + 1)), (1, .int (((10 * a1) + v7) - 48)), (0, .ref a0)]) Z.x Z.b dX8_readSailing_112 hl (k := 2) rfl rfl (by decide) rfl (fun ls hl => ?_)
      refine lv_goto (tgt := 66) Z.x Z.b dX8_readSailing_115 (by decide) ?_
      exact k66 hf E (lv_sub hl [2, 1, 0] rfl)
    · have hf := zit hf c
      refine lv_iconst (v := 0) Z.x Z.b dX8_readSailing_82 (by decide) ?_
      exact z_zret Z E hr dX8_readSailing_83 hf
theorem t_X8_readSailing_66 {p : Program} {l : Launch} {e : Env} {s : State} {m : MethodId} {args : Array Value} {below : List Frame} {meth : Method} {c : Code} {G : zG} (Z : zF p s m args c meth cX8_readSailing 3 RX8 G) (hr : meth.sig.returnType = (some .boolean)) {out : Int32 × zHp} : ∀ (n : Nat), ∀ {a0 : Nat} {a1 : Int32} {a2 : Int32} {h : zHp} {H : Heap} {locs : List Loc} {ls : Array Slot}, f_X8_readSailing_66 n a0 a1 a2 h = some out → zE G s h H locs → lv_has ls 3 [(0, .ref a0), (1, .int a1), (2, .int a2)] → W p l e rm_X8_readSailing s m args below meth c H locs 0 0 (MQ below (zQi G out.1 out.2) args s 0 0 (zA G)) (F0 m 66 ls [])
  | 0 => fun hf => by cases hf
  | n + 1 => fun hf E hl => t_X8_readSailing_66_body Z hr (r66 := f_X8_readSailing_66 n) (t_X8_readSailing_66 Z hr n) hf E hl
set_option maxHeartbeats 4000000 in
set_option maxRecDepth 20000 in
theorem t_X8_readSailing {p : Program} {l : Launch} {e : Env} {s : State} {m : MethodId} {args : Array Value} {below : List Frame} {meth : Method} {c : Code} {G : zG} (Z : zF p s m args c meth cX8_readSailing 3 RX8 G) (hr : meth.sig.returnType = (some .boolean)) {out : Int32 × zHp} {a0 : Nat} {h : zHp} {H : Heap} {locs : List Loc} {ls : Array Slot} (hf : f_X8_readSailing a0 h = some out) (E : zE G s h H locs) (hl : lv_has ls 3 [(0, .ref a0)]) : W p l e rm_X8_readSailing s m args below meth c H locs 0 0 (MQ below (zQi G out.1 out.2) args s 0 0 (zA G)) (F0 m 0 ls []) := by
  unfold f_X8_readSailing at hf
  refine lv_aload_n Z.x Z.b dX8_readSailing_0 rfl (lv_at hl 0 rfl) ?_
  refine lv_iconst (v := 0) Z.x Z.b dX8_readSailing_1 (by decide) ?_
  refine lv_iconst (v := 0) Z.x Z.b dX8_readSailing_2 (by decide) ?_
  refine lv_iconst (v := 5) Z.x Z.b dX8_readSailing_3 (by decide) ?_
  refine z_Vi (As := [.int 0, .int 0, .int 5]) Z E hl.1 k_X8_188 v_X8_number hf (fun r h' e => c_X8_number l G h h' a0 0 0 5 r e) rfl rfl (Nat.le_of_ble_eq_true rfl) (zRm_of rfl (Nat.zero_le _) (Nat.zero_le _)) dX8_readSailing_4 (fun v1 h2 H locs hf E => ?_)
  refine lv_if_eq (tgt := 60) Z.x Z.b dX8_readSailing_7 (by decide) (fun c => ?_) (fun c => ?_)
  · have hf := zit hf c
    refine lv_iconst (v := 0) Z.x Z.b dX8_readSailing_60 (by decide) ?_
    exact z_zret Z E hr dX8_readSailing_61 hf
  · have hf := zif_ hf c
    refine lv_aload_n Z.x Z.b dX8_readSailing_10 rfl (lv_at hl 0 rfl) ?_
    refine lv_bipush (v := 58) Z.x Z.b dX8_readSailing_11 (by decide) ?_
    refine z_Vi (As := [.int 58]) Z E hl.1 k_X8_191 v_X8_sign hf (fun r h' e => c_X8_sign l G h2 h' a0 58 r e) rfl rfl (Nat.le_of_ble_eq_true rfl) (zRm_of rfl (Nat.zero_le _) (Nat.zero_le _)) dX8_readSailing_13 (fun v3 h4 H locs hf E => ?_)
    refine lv_if_eq (tgt := 60) Z.x Z.b dX8_readSailing_16 (by decide) (fun c => ?_) (fun c => ?_)
    · have hf := zit hf c
      refine lv_iconst (v := 0) Z.x Z.b dX8_readSailing_60 (by decide) ?_
      exact z_zret Z E hr dX8_readSailing_61 hf
    · have hf := zif_ hf c
      refine lv_aload_n Z.x Z.b dX8_readSailing_19 rfl (lv_at hl 0 rfl) ?_
      refine lv_iconst (v := 1) Z.x Z.b dX8_readSailing_20 (by decide) ?_
      refine lv_iconst (v := 0) Z.x Z.b dX8_readSailing_21 (by decide) ?_
      refine lv_sipush (v := 900) Z.x Z.b dX8_readSailing_22 (by decide) ?_
      refine z_Vi (As := [.int 1, .int 0, .int 900]) Z E hl.1 k_X8_188 v_X8_number hf (fun r h' e => c_X8_number l G h4 h' a0 1 0 900 r e) rfl rfl (Nat.le_of_ble_eq_true rfl) (zRm_of rfl (Nat.zero_le _) (Nat.zero_le _)) dX8_readSailing_25 (fun v5 h6 H locs hf E => ?_)
      refine lv_if_eq (tgt := 60) Z.x Z.b dX8_readSailing_28 (by decide) (fun c => ?_) (fun c => ?_)
      · have hf := zit hf c
        refine lv_iconst (v := 0) Z.x Z.b dX8_readSailing_60 (by decide) ?_
        exact z_zret Z E hr dX8_readSailing_61 hf
      · have hf := zif_ hf c
        refine lv_aload_n Z.x Z.b dX8_readSailing_31 rfl (lv_at hl 0 rfl) ?_
        refine lv_bipush (v := 43) Z.x Z.b dX8_readSailing_32 (by decide) ?_
        refine z_Vi (As := [.int 43]) Z E hl.1 k_X8_191 v_X8_sign hf (fun r h' e => c_X8_sign l G h6 h' a0 43 r e) rfl rfl (Nat.le_of_ble_eq_true rfl) (zRm_of rfl (Nat.zero_le _) (Nat.zero_le _)) dX8_readSailing_34 (fun v7 h8 H locs hf E => ?_)
        refine lv_if_eq (tgt := 60) Z.x Z.b dX8_readSailing_37 (by decide) (fun c => ?_) (fun c => ?_)
        · have hf := zit hf c
          refine lv_iconst (v := 0) Z.x Z.b dX8_readSailing_60 (by decide) ?_
          exact z_zret Z E hr dX8_readSailing_61 hf
        · have hf := zif_ hf c
          refine lv_aload_n Z.x Z.b dX8_readSailing_40 rfl (lv_at hl 0 rfl) ?_
          refine lv_iconst (v := 2) Z.x Z.b dX8_readSailing_41 (by decide) ?_
          refine lv_iconst (v := 1) Z.x Z.b dX8_readSailing_42 (by decide) ?_
          refine lv_bipush (v := 12) Z.x Z.b dX8_readSailing_43 (by decide) ?_
          refine z_Vi (As := [.int 2, .int 1, .int 12]) Z E hl.1 k_X8_188 v_X8_number hf (fun r h' e => c_X8_number l G h8 h' a0 2 1 12 r e) rfl rfl (Nat.le_of_ble_eq_true rfl) (zRm_of rfl (Nat.zero_le _) (Nat.zero_le _)) dX8_readSailing_45 (fun v9 h10 H locs hf E => ?_)
          refine lv_if_eq (tgt := 60) Z.x Z.b dX8_readSailing_48 (by decide) (fun c => ?_) (fun c => ?_)
          · have hf := zit hf c
            refine lv_iconst (v := 0) Z.x Z.b dX8_readSailing_60 (by decide) ?_
            exact z_zret Z E hr dX8_readSailing_61 hf
          · have hf := zif_ hf c
            refine lv_aload_n Z.x Z.b dX8_readSailing_51 rfl (lv_at hl 0 rfl) ?_
            refine lv_bipush (v := 61) Z.x Z.b dX8_readSailing_52 (by decide) ?_
            refine z_Vi (As := [.int 61]) Z E hl.1 k_X8_191 v_X8_sign hf (fun r h' e => c_X8_sign l G h10 h' a0 61 r e) rfl rfl (Nat.le_of_ble_eq_true rfl) (zRm_of rfl (Nat.zero_le _) (Nat.zero_le _)) dX8_readSailing_54 (fun v11 h12 H locs hf E => ?_)
            refine lv_if_ne (tgt := 62) Z.x Z.b dX8_readSailing_57 (by decide) (fun c => ?_) (fun c => ?_)
            · have hf := zif_ hf c
              refine lv_iconst (v := 0) Z.x Z.b dX8_readSailing_62 (by decide) ?_
              refine lv_istore_n (lv' := [(1, .int 0), (0, .ref a0)]) Z.x Z.b dX8_readSailing_63 rfl hl (by decide) rfl (fun ls hl => ?_)
              refine lv_iconst (v := 0) Z.x Z.b dX8_readSailing_64 (by decide) ?_
              refine lv_istore_n (lv' := [(2, .int 0), (1, .int 0), (0, .ref a0)]) Z.x Z.b dX8_readSailing_65 rfl hl (by decide) rfl (fun ls hl => ?_)
              exact t_X8_readSailing_66 Z hr zN hf E (lv_sub hl [2, 1, 0] rfl)
            · have hf := zit hf c
              refine lv_iconst (v := 0) Z.x Z.b dX8_readSailing_60 (by decide) ?_
              exact z_zret Z E hr dX8_readSailing_61 hf
set_option maxHeartbeats 4000000 in
set_option maxRecDepth 20000 in
theorem c_X8_readSailing (l : Launch) (G : zG) (h : zHp) (h' : zHp) (a0 : Nat) (r : Int32) (hf : f_X8_readSailing a0 h = some (r, h')) : zM0 l yX8_readSailing cX8_readSailing 3 (some .boolean) rm_X8_readSailing G [.ref a0] h (zQi G r h') := by
  refine Met.ofW (cc := cX8_readSailing) (maxL := 3) (ret := (some .boolean)) (by decide) rfl ?_
  intro p e s m args below meth c s₁ B hml hv
  obtain ⟨rfl, hW⟩ := hv
  obtain ⟨Z, E, hr⟩ := zEnter (own := RX8) B hml rfl hW
  have hl := lv_entry ([.ref a0]) (n := 3) (Nat.le_of_ble_eq_true rfl)
  rw [lg_entry_eq]
  generalize (lg_sl ([.ref a0]) ++ List.replicate (3 - (lg_sl ([.ref a0])).length) Slot.unset).toArray = ls at hl ⊢
  have hl : lv_has ls 3 [(0, .ref a0)] := hl
  exact t_X8_readSailing (out := (r, h')) Z hr hf E hl
/-! FerryCrewsModel.readAll()I -/
theorem dX8_readAll_0 : decode cX8_readAll 0 = .ok (.aload_n 0, 1) := by decide +kernel
theorem dX8_readAll_1 : decode cX8_readAll 1 = .ok (.iconst 0, 1) := by decide +kernel
theorem dX8_readAll_2 : decode cX8_readAll 2 = .ok (.putfield 145, 3) := by decide +kernel
theorem dX8_readAll_5 : decode cX8_readAll 5 = .ok (.iconst 0, 1) := by decide +kernel
theorem dX8_readAll_6 : decode cX8_readAll 6 = .ok (.istore_n 1, 1) := by decide +kernel
theorem dX8_readAll_7 : decode cX8_readAll 7 = .ok (.iconst 1, 1) := by decide +kernel
theorem dX8_readAll_8 : decode cX8_readAll 8 = .ok (.istore_n 2, 1) := by decide +kernel
theorem dX8_readAll_9 : decode cX8_readAll 9 = .ok (.iload_n 2, 1) := by decide +kernel
theorem dX8_readAll_10 : decode cX8_readAll 10 = .ok (.ifCond .eq 31, 3) := by decide +kernel
theorem dX8_readAll_13 : decode cX8_readAll 13 = .ok (.aload_n 0, 1) := by decide +kernel
theorem dX8_readAll_14 : decode cX8_readAll 14 = .ok (.invokevirtual 148, 3) := by decide +kernel
theorem dX8_readAll_17 : decode cX8_readAll 17 = .ok (.ifCond .ne 11, 3) := by decide +kernel
theorem dX8_readAll_20 : decode cX8_readAll 20 = .ok (.bipush (-100), 2) := by decide +kernel
theorem dX8_readAll_22 : decode cX8_readAll 22 = .ok (.aload_n 0, 1) := by decide +kernel
theorem dX8_readAll_23 : decode cX8_readAll 23 = .ok (.getfield 145, 3) := by decide +kernel
theorem dX8_readAll_26 : decode cX8_readAll 26 = .ok (.isub, 1) := by decide +kernel
theorem dX8_readAll_27 : decode cX8_readAll 27 = .ok (.ireturn, 1) := by decide +kernel
theorem dX8_readAll_28 : decode cX8_readAll 28 = .ok (.iinc 1 1, 3) := by decide +kernel
theorem dX8_readAll_31 : decode cX8_readAll 31 = .ok (.aload_n 0, 1) := by decide +kernel
theorem dX8_readAll_32 : decode cX8_readAll 32 = .ok (.bipush 59, 2) := by decide +kernel
theorem dX8_readAll_34 : decode cX8_readAll 34 = .ok (.invokevirtual 191, 3) := by decide +kernel
theorem dX8_readAll_37 : decode cX8_readAll 37 = .ok (.istore_n 2, 1) := by decide +kernel
theorem dX8_readAll_38 : decode cX8_readAll 38 = .ok (.goto (-29), 3) := by decide +kernel
theorem dX8_readAll_41 : decode cX8_readAll 41 = .ok (.aload_n 0, 1) := by decide +kernel
theorem dX8_readAll_42 : decode cX8_readAll 42 = .ok (.getfield 145, 3) := by decide +kernel
theorem dX8_readAll_45 : decode cX8_readAll 45 = .ok (.aload_n 0, 1) := by decide +kernel
theorem dX8_readAll_46 : decode cX8_readAll 46 = .ok (.getfield 182, 3) := by decide +kernel
theorem dX8_readAll_49 : decode cX8_readAll 49 = .ok (.if_icmp .ge 13, 3) := by decide +kernel
theorem dX8_readAll_52 : decode cX8_readAll 52 = .ok (.bipush (-100), 2) := by decide +kernel
theorem dX8_readAll_54 : decode cX8_readAll 54 = .ok (.aload_n 0, 1) := by decide +kernel
theorem dX8_readAll_55 : decode cX8_readAll 55 = .ok (.getfield 145, 3) := by decide +kernel
theorem dX8_readAll_58 : decode cX8_readAll 58 = .ok (.isub, 1) := by decide +kernel
theorem dX8_readAll_59 : decode cX8_readAll 59 = .ok (.goto 4, 3) := by decide +kernel
theorem dX8_readAll_62 : decode cX8_readAll 62 = .ok (.iload_n 1, 1) := by decide +kernel
theorem dX8_readAll_63 : decode cX8_readAll 63 = .ok (.ireturn, 1) := by decide +kernel
set_option maxRecDepth 20000 in
theorem wc_X8_readSailing : Cond.code yX8_readSailing cX8_readSailing 3 (some .boolean) ∈ zB := List.mem_filter.mpr ⟨List.mem_of_getElem? (i := 888) (by decide +kernel), by decide +kernel⟩
set_option maxRecDepth 20000 in
theorem wm_X8_148 : Cond.methodLink RX8 148 yX8_readSailing ∈ zB := List.mem_filter.mpr ⟨List.mem_of_getElem? (i := 885) (by decide +kernel), by decide +kernel⟩
theorem k_X8_148 : zCal RX8 148 yX8_readSailing cX8_readSailing 3 (some .boolean) 0 := ⟨wm_X8_148, wi_X8, wc_X8_readSailing, by decide +kernel, by decide +kernel, by decide +kernel⟩
set_option maxRecDepth 20000 in
theorem wn_X8_readSailing : Cond.instanceMethod yX8_readSailing ∈ zB := List.mem_filter.mpr ⟨List.mem_of_getElem? (i := 887) (by decide +kernel), by decide +kernel⟩
set_option maxRecDepth 20000 in
theorem ws_X8_readSailing : Cond.selects RX8 yX8_readSailing yX8_readSailing ∈ zB := List.mem_filter.mpr ⟨List.mem_of_getElem? (i := 20) (by decide +kernel), by decide +kernel⟩
theorem v_X8_readSailing : zVir yX8_readSailing 8 := ⟨wn_X8_readSailing, ws_X8_readSailing, TX8, 12, rfl⟩
def rm_X8_readAll : Room := { frames := 4, cells := 0, slots := 0, locals := 90 }
set_option maxHeartbeats 4000000 in
set_option maxRecDepth 20000 in
theorem t_X8_readAll_9_body {p : Program} {l : Launch} {e : Env} {s : State} {m : MethodId} {args : Array Value} {below : List Frame} {meth : Method} {c : Code} {G : zG} (Z : zF p s m args c meth cX8_readAll 3 RX8 G) (hr : meth.sig.returnType = (some .int)) {out : Int32 × zHp} {r9 : Nat → Int32 → Int32 → zHp → Option (Int32 × zHp)} (k9 : ∀ {a0 : Nat} {a1 : Int32} {a2 : Int32} {h : zHp} {H : Heap} {locs : List Loc} {ls : Array Slot}, r9 a0 a1 a2 h = some out → zE G s h H locs → lv_has ls 3 [(0, .ref a0), (1, .int a1), (2, .int a2)] → W p l e rm_X8_readAll s m args below meth c H locs 0 0 (MQ below (zQi G out.1 out.2) args s 0 0 (zA G)) (F0 m 9 ls [])) {a0 : Nat} {a1 : Int32} {a2 : Int32} {h : zHp} {H : Heap} {locs : List Loc} {ls : Array Slot} (hf : f_X8_readAll_9_body r9 a0 a1 a2 h = some out) (E : zE G s h H locs) (hl : lv_has ls 3 [(0, .ref a0), (1, .int a1), (2, .int a2)]) : W p l e rm_X8_readAll s m args below meth c H locs 0 0 (MQ below (zQi G out.1 out.2) args s 0 0 (zA G)) (F0 m 9 ls []) := by
  unfold f_X8_readAll_9_body at hf
  refine lv_iload_n Z.x Z.b dX8_readAll_9 rfl (lv_at hl 2 rfl) ?_
  refine lv_if_eq (tgt := 41) Z.x Z.b dX8_readAll_10 (by decide) (fun c => ?_) (fun c => ?_)
  · have hf := zit hf c
    refine lv_aload_n Z.x Z.b dX8_readAll_41 rfl (lv_at hl 0 rfl) ?_
    refine z_getI Z E q_X8_145 dX8_readAll_42 hf (fun v1 hf => ?_)
    refine lv_aload_n Z.x Z.b dX8_readAll_45 rfl (lv_at hl 0 rfl) ?_
    refine z_getI Z E q_X8_182 dX8_readAll_46 hf (fun v2 hf => ?_)
    refine lv_icmp_ge (tgt := 62) Z.x Z.b dX8_readAll_49 (by decide) (fun c => ?_) (fun c => ?_)
    · have hf := zit hf c
      refine lv_iload_n Z.x Z.b dX8_readAll_62 rfl (lv_at hl 1 rfl) ?_
      exact z_iret Z E hr dX8_readAll_63 hf
    · have hf := zif_ hf c
      refine lv_bipush (v := (-100)) Z.x Z.b dX8_readAll_52 (by decide) ?_
      refine lv_aload_n Z.x Z.b dX8_readAll_54 rfl (lv_at hl 0 rfl) ?_
      refine z_getI Z E q_X8_145 dX8_readAll_55 hf (fun v3 hf => ?_)
      refine lv_isub Z.x Z.b dX8_readAll_58 ?_
      refine lv_goto (tgt := 63) Z.x Z.b dX8_readAll_59 (by decide) ?_
      exact z_iret Z E hr dX8_readAll_63 hf
  · have hf := zif_ hf c
    refine lv_aload_n Z.x Z.b dX8_readAll_13 rfl (lv_at hl 0 rfl) ?_
    refine z_Vi (As := []) Z E hl.1 k_X8_148 v_X8_readSailing hf (fun r h' e => c_X8_readSailing l G h h' a0 r e) rfl rfl (Nat.le_of_ble_eq_true rfl) (zRm_of rfl (Nat.zero_le _) (Nat.zero_le _)) dX8_readAll_14 (fun v4 h5 H locs hf E => ?_)
    refine lv_if_ne (tgt := 28) Z.x Z.b dX8_readAll_17 (by decide) (fun c => ?_) (fun c => ?_)
    · have hf := zif_ hf c
      refine lv_iinc (v := (a1 + 1)) (lv' := [(1, .int (a1 + 1)), (0, .ref a0), (2, .int a2)]) Z.x Z.b dX8_readAll_28 hl (k := 1) rfl rfl (by decide) rfl (fun ls hl => ?_)
      refine lv_aload_n Z.x Z.b dX8_readAll_31 rfl (lv_at hl 1 rfl) ?_
      refine lv_bipush (v := 59) Z.x Z.b dX8_readAll_32 (by decide) ?_
      refine z_Vi (As := [.int 59]) Z E hl.1 k_X8_191 v_X8_sign hf (fun r h' e => c_X8_sign l G h5 h' a0 59 r e) rfl rfl (Nat.le_of_ble_eq_true rfl) (zRm_of rfl (Nat.zero_le _) (Nat.zero_le _)) dX8_readAll_34 (fun v6 h7 H locs hf E => ?_)
      refine lv_istore_n (lv' := [(2, .int v6), (1, .int (a1 + 1)), (0, .ref a0)]) Z.x Z.b dX8_readAll_37 rfl hl (by decide) rfl (fun ls hl => ?_)
      refine lv_goto (tgt := 9) Z.x Z.b dX8_readAll_38 (by decide) ?_
      exact k9 hf E (lv_sub hl [2, 1, 0] rfl)
    · have hf := zit hf c
      refine lv_bipush (v := (-100)) Z.x Z.b dX8_readAll_20 (by decide) ?_
      refine lv_aload_n Z.x Z.b dX8_readAll_22 rfl (lv_at hl 0 rfl) ?_
      refine z_getI Z E q_X8_145 dX8_readAll_23 hf (fun v8 hf => ?_)
      refine lv_isub Z.x Z.b dX8_readAll_26 ?_
      exact z_iret Z E hr dX8_readAll_27 hf
theorem t_X8_readAll_9 {p : Program} {l : Launch} {e : Env} {s : State} {m : MethodId} {args : Array Value} {below : List Frame} {meth : Method} {c : Code} {G : zG} (Z : zF p s m args c meth cX8_readAll 3 RX8 G) (hr : meth.sig.returnType = (some .int)) {out : Int32 × zHp} : ∀ (n : Nat), ∀ {a0 : Nat} {a1 : Int32} {a2 : Int32} {h : zHp} {H : Heap} {locs : List Loc} {ls : Array Slot}, f_X8_readAll_9 n a0 a1 a2 h = some out → zE G s h H locs → lv_has ls 3 [(0, .ref a0), (1, .int a1), (2, .int a2)] → W p l e rm_X8_readAll s m args below meth c H locs 0 0 (MQ below (zQi G out.1 out.2) args s 0 0 (zA G)) (F0 m 9 ls [])
  | 0 => fun hf => by cases hf
  | n + 1 => fun hf E hl => t_X8_readAll_9_body Z hr (r9 := f_X8_readAll_9 n) (t_X8_readAll_9 Z hr n) hf E hl
set_option maxHeartbeats 4000000 in
set_option maxRecDepth 20000 in
theorem t_X8_readAll {p : Program} {l : Launch} {e : Env} {s : State} {m : MethodId} {args : Array Value} {below : List Frame} {meth : Method} {c : Code} {G : zG} (Z : zF p s m args c meth cX8_readAll 3 RX8 G) (hr : meth.sig.returnType = (some .int)) {out : Int32 × zHp} {a0 : Nat} {h : zHp} {H : Heap} {locs : List Loc} {ls : Array Slot} (hf : f_X8_readAll a0 h = some out) (E : zE G s h H locs) (hl : lv_has ls 3 [(0, .ref a0)]) : W p l e rm_X8_readAll s m args below meth c H locs 0 0 (MQ below (zQi G out.1 out.2) args s 0 0 (zA G)) (F0 m 0 ls []) := by
  unfold f_X8_readAll at hf
  refine lv_aload_n Z.x Z.b dX8_readAll_0 rfl (lv_at hl 0 rfl) ?_
  refine lv_iconst (v := 0) Z.x Z.b dX8_readAll_1 (by decide) ?_
  refine z_put Z E p_X8_145 rfl rfl dX8_readAll_2 hf (fun h1 H locs hf E => ?_)
  refine lv_iconst (v := 0) Z.x Z.b dX8_readAll_5 (by decide) ?_
  refine lv_istore_n (lv' := [(1, .int 0), (0, .ref a0)]) Z.x Z.b dX8_readAll_6 rfl hl (by decide) rfl (fun ls hl => ?_)
  refine lv_iconst (v := 1) Z.x Z.b dX8_readAll_7 (by decide) ?_
  refine lv_istore_n (lv' := [(2, .int 1), (1, .int 0), (0, .ref a0)]) Z.x Z.b dX8_readAll_8 rfl hl (by decide) rfl (fun ls hl => ?_)
  exact t_X8_readAll_9 Z hr zN hf E (lv_sub hl [2, 1, 0] rfl)
set_option maxHeartbeats 4000000 in
set_option maxRecDepth 20000 in
theorem c_X8_readAll (l : Launch) (G : zG) (h : zHp) (h' : zHp) (a0 : Nat) (r : Int32) (hf : f_X8_readAll a0 h = some (r, h')) : zM0 l yX8_readAll cX8_readAll 3 (some .int) rm_X8_readAll G [.ref a0] h (zQi G r h') := by
  refine Met.ofW (cc := cX8_readAll) (maxL := 3) (ret := (some .int)) (by decide) rfl ?_
  intro p e s m args below meth c s₁ B hml hv
  obtain ⟨rfl, hW⟩ := hv
  obtain ⟨Z, E, hr⟩ := zEnter (own := RX8) B hml rfl hW
  have hl := lv_entry ([.ref a0]) (n := 3) (Nat.le_of_ble_eq_true rfl)
  rw [lg_entry_eq]
  generalize (lg_sl ([.ref a0]) ++ List.replicate (3 - (lg_sl ([.ref a0])).length) Slot.unset).toArray = ls at hl ⊢
  have hl : lv_has ls 3 [(0, .ref a0)] := hl
  exact t_X8_readAll (out := (r, h')) Z hr hf E hl
/-! FerryCrewsModel.sailings()I -/
theorem dX8_sailings_0 : decode cX8_sailings 0 = .ok (.aload_n 0, 1) := by decide +kernel
theorem dX8_sailings_1 : decode cX8_sailings 1 = .ok (.invokevirtual 138, 3) := by decide +kernel
theorem dX8_sailings_4 : decode cX8_sailings 4 = .ok (.istore_n 1, 1) := by decide +kernel
theorem dX8_sailings_5 : decode cX8_sailings 5 = .ok (.iload_n 1, 1) := by decide +kernel
theorem dX8_sailings_6 : decode cX8_sailings 6 = .ok (.ifCond .ge 5, 3) := by decide +kernel
theorem dX8_sailings_9 : decode cX8_sailings 9 = .ok (.iload_n 1, 1) := by decide +kernel
theorem dX8_sailings_10 : decode cX8_sailings 10 = .ok (.ireturn, 1) := by decide +kernel
theorem dX8_sailings_11 : decode cX8_sailings 11 = .ok (.aload_n 0, 1) := by decide +kernel
theorem dX8_sailings_12 : decode cX8_sailings 12 = .ok (.invokevirtual 142, 3) := by decide +kernel
theorem dX8_sailings_15 : decode cX8_sailings 15 = .ok (.aload_n 0, 1) := by decide +kernel
theorem dX8_sailings_16 : decode cX8_sailings 16 = .ok (.iconst 0, 1) := by decide +kernel
theorem dX8_sailings_17 : decode cX8_sailings 17 = .ok (.putfield 145, 3) := by decide +kernel
theorem dX8_sailings_20 : decode cX8_sailings 20 = .ok (.iconst 0, 1) := by decide +kernel
theorem dX8_sailings_21 : decode cX8_sailings 21 = .ok (.istore_n 2, 1) := by decide +kernel
theorem dX8_sailings_22 : decode cX8_sailings 22 = .ok (.iload_n 2, 1) := by decide +kernel
theorem dX8_sailings_23 : decode cX8_sailings 23 = .ok (.iload_n 1, 1) := by decide +kernel
theorem dX8_sailings_24 : decode cX8_sailings 24 = .ok (.if_icmp .ge 92, 3) := by decide +kernel
theorem dX8_sailings_27 : decode cX8_sailings 27 = .ok (.aload_n 0, 1) := by decide +kernel
theorem dX8_sailings_28 : decode cX8_sailings 28 = .ok (.invokevirtual 148, 3) := by decide +kernel
theorem dX8_sailings_31 : decode cX8_sailings 31 = .ok (.pop, 1) := by decide +kernel
theorem dX8_sailings_32 : decode cX8_sailings 32 = .ok (.aload_n 0, 1) := by decide +kernel
theorem dX8_sailings_33 : decode cX8_sailings 33 = .ok (.aload_n 0, 1) := by decide +kernel
theorem dX8_sailings_34 : decode cX8_sailings 34 = .ok (.getfield 25, 3) := by decide +kernel
theorem dX8_sailings_37 : decode cX8_sailings 37 = .ok (.iconst 0, 1) := by decide +kernel
theorem dX8_sailings_38 : decode cX8_sailings 38 = .ok (.iaload, 1) := by decide +kernel
theorem dX8_sailings_39 : decode cX8_sailings 39 = .ok (.aload_n 0, 1) := by decide +kernel
theorem dX8_sailings_40 : decode cX8_sailings 40 = .ok (.getfield 25, 3) := by decide +kernel
theorem dX8_sailings_43 : decode cX8_sailings 43 = .ok (.iconst 1, 1) := by decide +kernel
theorem dX8_sailings_44 : decode cX8_sailings 44 = .ok (.iaload, 1) := by decide +kernel
theorem dX8_sailings_45 : decode cX8_sailings 45 = .ok (.aload_n 0, 1) := by decide +kernel
theorem dX8_sailings_46 : decode cX8_sailings 46 = .ok (.getfield 25, 3) := by decide +kernel
theorem dX8_sailings_49 : decode cX8_sailings 49 = .ok (.iconst 2, 1) := by decide +kernel
theorem dX8_sailings_50 : decode cX8_sailings 50 = .ok (.iaload, 1) := by decide +kernel
theorem dX8_sailings_51 : decode cX8_sailings 51 = .ok (.aload_n 0, 1) := by decide +kernel
theorem dX8_sailings_52 : decode cX8_sailings 52 = .ok (.getfield 25, 3) := by decide +kernel
theorem dX8_sailings_55 : decode cX8_sailings 55 = .ok (.iconst 3, 1) := by decide +kernel
theorem dX8_sailings_56 : decode cX8_sailings 56 = .ok (.iaload, 1) := by decide +kernel
theorem dX8_sailings_57 : decode cX8_sailings 57 = .ok (.invokevirtual 128, 3) := by decide +kernel
theorem dX8_sailings_60 : decode cX8_sailings 60 = .ok (.istore_n 3, 1) := by decide +kernel
theorem dX8_sailings_61 : decode cX8_sailings 61 = .ok (.iload_n 3, 1) := by decide +kernel
theorem dX8_sailings_62 : decode cX8_sailings 62 = .ok (.ifCond .ge 9, 3) := by decide +kernel
theorem dX8_sailings_65 : decode cX8_sailings 65 = .ok (.aload_n 0, 1) := by decide +kernel
theorem dX8_sailings_66 : decode cX8_sailings 66 = .ok (.invokevirtual 151, 3) := by decide +kernel
theorem dX8_sailings_69 : decode cX8_sailings 69 = .ok (.iload_n 3, 1) := by decide +kernel
theorem dX8_sailings_70 : decode cX8_sailings 70 = .ok (.ireturn, 1) := by decide +kernel
theorem dX8_sailings_71 : decode cX8_sailings 71 = .ok (.aload_n 0, 1) := by decide +kernel
theorem dX8_sailings_72 : decode cX8_sailings 72 = .ok (.aload_n 0, 1) := by decide +kernel
theorem dX8_sailings_73 : decode cX8_sailings 73 = .ok (.getfield 25, 3) := by decide +kernel
theorem dX8_sailings_76 : decode cX8_sailings 76 = .ok (.iconst 0, 1) := by decide +kernel
theorem dX8_sailings_77 : decode cX8_sailings 77 = .ok (.iaload, 1) := by decide +kernel
theorem dX8_sailings_78 : decode cX8_sailings 78 = .ok (.aload_n 0, 1) := by decide +kernel
theorem dX8_sailings_79 : decode cX8_sailings 79 = .ok (.getfield 25, 3) := by decide +kernel
theorem dX8_sailings_82 : decode cX8_sailings 82 = .ok (.iconst 1, 1) := by decide +kernel
theorem dX8_sailings_83 : decode cX8_sailings 83 = .ok (.iaload, 1) := by decide +kernel
theorem dX8_sailings_84 : decode cX8_sailings 84 = .ok (.aload_n 0, 1) := by decide +kernel
theorem dX8_sailings_85 : decode cX8_sailings 85 = .ok (.getfield 25, 3) := by decide +kernel
theorem dX8_sailings_88 : decode cX8_sailings 88 = .ok (.iconst 2, 1) := by decide +kernel
theorem dX8_sailings_89 : decode cX8_sailings 89 = .ok (.iaload, 1) := by decide +kernel
theorem dX8_sailings_90 : decode cX8_sailings 90 = .ok (.aload_n 0, 1) := by decide +kernel
theorem dX8_sailings_91 : decode cX8_sailings 91 = .ok (.getfield 25, 3) := by decide +kernel
theorem dX8_sailings_94 : decode cX8_sailings 94 = .ok (.iconst 3, 1) := by decide +kernel
theorem dX8_sailings_95 : decode cX8_sailings 95 = .ok (.iaload, 1) := by decide +kernel
theorem dX8_sailings_96 : decode cX8_sailings 96 = .ok (.invokevirtual 135, 3) := by decide +kernel
theorem dX8_sailings_99 : decode cX8_sailings 99 = .ok (.pop, 1) := by decide +kernel
theorem dX8_sailings_100 : decode cX8_sailings 100 = .ok (.aload_n 0, 1) := by decide +kernel
theorem dX8_sailings_101 : decode cX8_sailings 101 = .ok (.dup, 1) := by decide +kernel
theorem dX8_sailings_102 : decode cX8_sailings 102 = .ok (.getfield 145, 3) := by decide +kernel
theorem dX8_sailings_105 : decode cX8_sailings 105 = .ok (.iconst 1, 1) := by decide +kernel
theorem dX8_sailings_106 : decode cX8_sailings 106 = .ok (.iadd, 1) := by decide +kernel
theorem dX8_sailings_107 : decode cX8_sailings 107 = .ok (.putfield 145, 3) := by decide +kernel
theorem dX8_sailings_110 : decode cX8_sailings 110 = .ok (.iinc 2 1, 3) := by decide +kernel
theorem dX8_sailings_113 : decode cX8_sailings 113 = .ok (.goto (-91), 3) := by decide +kernel
theorem dX8_sailings_116 : decode cX8_sailings 116 = .ok (.aload_n 0, 1) := by decide +kernel
theorem dX8_sailings_117 : decode cX8_sailings 117 = .ok (.invokevirtual 151, 3) := by decide +kernel
theorem dX8_sailings_120 : decode cX8_sailings 120 = .ok (.aload_n 0, 1) := by decide +kernel
theorem dX8_sailings_121 : decode cX8_sailings 121 = .ok (.invokevirtual 132, 3) := by decide +kernel
theorem dX8_sailings_124 : decode cX8_sailings 124 = .ok (.aload_n 0, 1) := by decide +kernel
theorem dX8_sailings_125 : decode cX8_sailings 125 = .ok (.iconst 0, 1) := by decide +kernel
theorem dX8_sailings_126 : decode cX8_sailings 126 = .ok (.putfield 145, 3) := by decide +kernel
theorem dX8_sailings_129 : decode cX8_sailings 129 = .ok (.iconst 0, 1) := by decide +kernel
theorem dX8_sailings_130 : decode cX8_sailings 130 = .ok (.istore_n 2, 1) := by decide +kernel
theorem dX8_sailings_131 : decode cX8_sailings 131 = .ok (.iload_n 2, 1) := by decide +kernel
theorem dX8_sailings_132 : decode cX8_sailings 132 = .ok (.iload_n 1, 1) := by decide +kernel
theorem dX8_sailings_133 : decode cX8_sailings 133 = .ok (.if_icmp .ge 53, 3) := by decide +kernel
theorem dX8_sailings_136 : decode cX8_sailings 136 = .ok (.aload_n 0, 1) := by decide +kernel
theorem dX8_sailings_137 : decode cX8_sailings 137 = .ok (.invokevirtual 148, 3) := by decide +kernel
theorem dX8_sailings_140 : decode cX8_sailings 140 = .ok (.pop, 1) := by decide +kernel
theorem dX8_sailings_141 : decode cX8_sailings 141 = .ok (.aload_n 0, 1) := by decide +kernel
theorem dX8_sailings_142 : decode cX8_sailings 142 = .ok (.aload_n 0, 1) := by decide +kernel
theorem dX8_sailings_143 : decode cX8_sailings 143 = .ok (.getfield 25, 3) := by decide +kernel
theorem dX8_sailings_146 : decode cX8_sailings 146 = .ok (.iconst 0, 1) := by decide +kernel
theorem dX8_sailings_147 : decode cX8_sailings 147 = .ok (.iaload, 1) := by decide +kernel
theorem dX8_sailings_148 : decode cX8_sailings 148 = .ok (.aload_n 0, 1) := by decide +kernel
theorem dX8_sailings_149 : decode cX8_sailings 149 = .ok (.getfield 25, 3) := by decide +kernel
theorem dX8_sailings_152 : decode cX8_sailings 152 = .ok (.iconst 1, 1) := by decide +kernel
theorem dX8_sailings_153 : decode cX8_sailings 153 = .ok (.iaload, 1) := by decide +kernel
theorem dX8_sailings_154 : decode cX8_sailings 154 = .ok (.aload_n 0, 1) := by decide +kernel
theorem dX8_sailings_155 : decode cX8_sailings 155 = .ok (.getfield 25, 3) := by decide +kernel
theorem dX8_sailings_158 : decode cX8_sailings 158 = .ok (.iconst 2, 1) := by decide +kernel
theorem dX8_sailings_159 : decode cX8_sailings 159 = .ok (.iaload, 1) := by decide +kernel
theorem dX8_sailings_160 : decode cX8_sailings 160 = .ok (.aload_n 0, 1) := by decide +kernel
theorem dX8_sailings_161 : decode cX8_sailings 161 = .ok (.getfield 25, 3) := by decide +kernel
theorem dX8_sailings_164 : decode cX8_sailings 164 = .ok (.iconst 3, 1) := by decide +kernel
theorem dX8_sailings_165 : decode cX8_sailings 165 = .ok (.iaload, 1) := by decide +kernel
theorem dX8_sailings_166 : decode cX8_sailings 166 = .ok (.invokevirtual 135, 3) := by decide +kernel
theorem dX8_sailings_169 : decode cX8_sailings 169 = .ok (.pop, 1) := by decide +kernel
theorem dX8_sailings_170 : decode cX8_sailings 170 = .ok (.aload_n 0, 1) := by decide +kernel
theorem dX8_sailings_171 : decode cX8_sailings 171 = .ok (.dup, 1) := by decide +kernel
theorem dX8_sailings_172 : decode cX8_sailings 172 = .ok (.getfield 145, 3) := by decide +kernel
theorem dX8_sailings_175 : decode cX8_sailings 175 = .ok (.iconst 1, 1) := by decide +kernel
theorem dX8_sailings_176 : decode cX8_sailings 176 = .ok (.iadd, 1) := by decide +kernel
theorem dX8_sailings_177 : decode cX8_sailings 177 = .ok (.putfield 145, 3) := by decide +kernel
theorem dX8_sailings_180 : decode cX8_sailings 180 = .ok (.iinc 2 1, 3) := by decide +kernel
theorem dX8_sailings_183 : decode cX8_sailings 183 = .ok (.goto (-52), 3) := by decide +kernel
theorem dX8_sailings_186 : decode cX8_sailings 186 = .ok (.iload_n 1, 1) := by decide +kernel
theorem dX8_sailings_187 : decode cX8_sailings 187 = .ok (.ireturn, 1) := by decide +kernel
set_option maxRecDepth 20000 in
theorem wc_X8_readAll : Cond.code yX8_readAll cX8_readAll 3 (some .int) ∈ zB := List.mem_filter.mpr ⟨List.mem_of_getElem? (i := 884) (by decide +kernel), by decide +kernel⟩
set_option maxRecDepth 20000 in
theorem wm_X8_138 : Cond.methodLink RX8 138 yX8_readAll ∈ zB := List.mem_filter.mpr ⟨List.mem_of_getElem? (i := 881) (by decide +kernel), by decide +kernel⟩
theorem k_X8_138 : zCal RX8 138 yX8_readAll cX8_readAll 3 (some .int) 0 := ⟨wm_X8_138, wi_X8, wc_X8_readAll, by decide +kernel, by decide +kernel, by decide +kernel⟩
set_option maxRecDepth 20000 in
theorem wn_X8_readAll : Cond.instanceMethod yX8_readAll ∈ zB := List.mem_filter.mpr ⟨List.mem_of_getElem? (i := 883) (by decide +kernel), by decide +kernel⟩
set_option maxRecDepth 20000 in
theorem ws_X8_readAll : Cond.selects RX8 yX8_readAll yX8_readAll ∈ zB := List.mem_filter.mpr ⟨List.mem_of_getElem? (i := 19) (by decide +kernel), by decide +kernel⟩
theorem v_X8_readAll : zVir yX8_readAll 8 := ⟨wn_X8_readAll, ws_X8_readAll, TX8, 12, rfl⟩
set_option maxRecDepth 20000 in
theorem wc_X8_lay : Cond.code yX8_lay cX8_lay 2 none ∈ zB := List.mem_filter.mpr ⟨List.mem_of_getElem? (i := 904) (by decide +kernel), by decide +kernel⟩
set_option maxRecDepth 20000 in
theorem wm_X8_142 : Cond.methodLink RX8 142 yX8_lay ∈ zB := List.mem_filter.mpr ⟨List.mem_of_getElem? (i := 901) (by decide +kernel), by decide +kernel⟩
theorem k_X8_142 : zCal RX8 142 yX8_lay cX8_lay 2 none 0 := ⟨wm_X8_142, wi_X8, wc_X8_lay, by decide +kernel, by decide +kernel, by decide +kernel⟩
set_option maxRecDepth 20000 in
theorem wn_X8_lay : Cond.instanceMethod yX8_lay ∈ zB := List.mem_filter.mpr ⟨List.mem_of_getElem? (i := 903) (by decide +kernel), by decide +kernel⟩
set_option maxRecDepth 20000 in
theorem ws_X8_lay : Cond.selects RX8 yX8_lay yX8_lay ∈ zB := List.mem_filter.mpr ⟨List.mem_of_getElem? (i := 24) (by decide +kernel), by decide +kernel⟩
theorem v_X8_lay : zVir yX8_lay 8 := ⟨wn_X8_lay, ws_X8_lay, TX8, 12, rfl⟩
set_option maxRecDepth 20000 in
theorem wc_X8_takeBack : Cond.code yX8_takeBack cX8_takeBack 2 none ∈ zB := List.mem_filter.mpr ⟨List.mem_of_getElem? (i := 908) (by decide +kernel), by decide +kernel⟩
set_option maxRecDepth 20000 in
theorem wm_X8_151 : Cond.methodLink RX8 151 yX8_takeBack ∈ zB := List.mem_filter.mpr ⟨List.mem_of_getElem? (i := 905) (by decide +kernel), by decide +kernel⟩
theorem k_X8_151 : zCal RX8 151 yX8_takeBack cX8_takeBack 2 none 0 := ⟨wm_X8_151, wi_X8, wc_X8_takeBack, by decide +kernel, by decide +kernel, by decide +kernel⟩
set_option maxRecDepth 20000 in
theorem wn_X8_takeBack : Cond.instanceMethod yX8_takeBack ∈ zB := List.mem_filter.mpr ⟨List.mem_of_getElem? (i := 907) (by decide +kernel), by decide +kernel⟩
set_option maxRecDepth 20000 in
theorem ws_X8_takeBack : Cond.selects RX8 yX8_takeBack yX8_takeBack ∈ zB := List.mem_filter.mpr ⟨List.mem_of_getElem? (i := 25) (by decide +kernel), by decide +kernel⟩
theorem v_X8_takeBack : zVir yX8_takeBack 8 := ⟨wn_X8_takeBack, ws_X8_takeBack, TX8, 12, rfl⟩
def rm_X8_sailings : Room := { frames := 5, cells := 0, slots := 0, locals := 112 }
set_option maxHeartbeats 4000000 in
set_option maxRecDepth 20000 in
theorem t_X8_sailings_131_body {p : Program} {l : Launch} {e : Env} {s : State} {m : MethodId} {args : Array Value} {below : List Frame} {meth : Method} {c : Code} {G : zG} (Z : zF p s m args c meth cX8_sailings 4 RX8 G) (hr : meth.sig.returnType = (some .int)) {out : Int32 × zHp} {r131 : Nat → Int32 → Int32 → zHp → Option (Int32 × zHp)} (k131 : ∀ {a0 : Nat} {a1 : Int32} {a2 : Int32} {h : zHp} {H : Heap} {locs : List Loc} {ls : Array Slot}, r131 a0 a1 a2 h = some out → zE G s h H locs → lv_has ls 4 [(0, .ref a0), (1, .int a1), (2, .int a2)] → W p l e rm_X8_sailings s m args below meth c H locs 0 0 (MQ below (zQi G out.1 out.2) args s 0 0 (zA G)) (F0 m 131 ls [])) {a0 : Nat} {a1 : Int32} {a2 : Int32} {h : zHp} {H : Heap} {locs : List Loc} {ls : Array Slot} (hf : f_X8_sailings_131_body r131 a0 a1 a2 h = some out) (E : zE G s h H locs) (hl : lv_has ls 4 [(0, .ref a0), (1, .int a1), (2, .int a2)]) : W p l e rm_X8_sailings s m args below meth c H locs 0 0 (MQ below (zQi G out.1 out.2) args s 0 0 (zA G)) (F0 m 131 ls []) := by
  unfold f_X8_sailings_131_body at hf
  refine lv_iload_n Z.x Z.b dX8_sailings_131 rfl (lv_at hl 2 rfl) ?_
  refine lv_iload_n Z.x Z.b dX8_sailings_132 rfl (lv_at hl 1 rfl) ?_
  refine lv_icmp_ge (tgt := 186) Z.x Z.b dX8_sailings_133 (by decide) (fun c => ?_) (fun c => ?_)
  · have hf := zit hf c
    refine lv_iload_n Z.x Z.b dX8_sailings_186 rfl (lv_at hl 1 rfl) ?_
    exact z_iret Z E hr dX8_sailings_187 hf
  · have hf := zif_ hf c
    refine lv_aload_n Z.x Z.b dX8_sailings_136 rfl (lv_at hl 0 rfl) ?_
    refine z_Vi (As := []) Z E hl.1 k_X8_148 v_X8_readSailing hf (fun r h' e => c_X8_readSailing l G h h' a0 r e) rfl rfl (Nat.le_of_ble_eq_true rfl) (zRm_of rfl (Nat.zero_le _) (Nat.zero_le _)) dX8_sailings_137 (fun v1 h2 H locs hf E => ?_)
    refine lv_pop Z.x Z.b dX8_sailings_140 rfl ?_
    refine lv_aload_n Z.x Z.b dX8_sailings_141 rfl (lv_at hl 0 rfl) ?_
    refine lv_aload_n Z.x Z.b dX8_sailings_142 rfl (lv_at hl 0 rfl) ?_
    refine z_getR Z E q_X8_25 dX8_sailings_143 hf (fun v3 hf => ?_)
    refine lv_iconst (v := 0) Z.x Z.b dX8_sailings_146 (by decide) ?_
    refine z_iald Z E dX8_sailings_147 hf (fun v4 hf => ?_)
    refine lv_aload_n Z.x Z.b dX8_sailings_148 rfl (lv_at hl 0 rfl) ?_
    refine z_getR Z E q_X8_25 dX8_sailings_149 hf (fun v5 hf => ?_)
    refine lv_iconst (v := 1) Z.x Z.b dX8_sailings_152 (by decide) ?_
    refine z_iald Z E dX8_sailings_153 hf (fun v6 hf => ?_)
    refine lv_aload_n Z.x Z.b dX8_sailings_154 rfl (lv_at hl 0 rfl) ?_
    refine z_getR Z E q_X8_25 dX8_sailings_155 hf (fun v7 hf => ?_)
    refine lv_iconst (v := 2) Z.x Z.b dX8_sailings_158 (by decide) ?_
    refine z_iald Z E dX8_sailings_159 hf (fun v8 hf => ?_)
    refine lv_aload_n Z.x Z.b dX8_sailings_160 rfl (lv_at hl 0 rfl) ?_
    refine z_getR Z E q_X8_25 dX8_sailings_161 hf (fun v9 hf => ?_)
    refine lv_iconst (v := 3) Z.x Z.b dX8_sailings_164 (by decide) ?_
    refine z_iald Z E dX8_sailings_165 hf (fun v10 hf => ?_)
    refine z_Vi (As := [.int v4, .int v6, .int v8, .int v10]) Z E hl.1 k_X8_135 v_X8_addSailing hf (fun r h' e => c_X8_addSailing l G h2 h' a0 v4 v6 v8 v10 r e) rfl rfl (Nat.le_of_ble_eq_true rfl) (zRm_of rfl (Nat.zero_le _) (Nat.zero_le _)) dX8_sailings_166 (fun v11 h12 H locs hf E => ?_)
    refine lv_pop Z.x Z.b dX8_sailings_169 rfl ?_
    refine lv_aload_n Z.x Z.b dX8_sailings_170 rfl (lv_at hl 0 rfl) ?_
    refine lv_dup Z.x Z.b dX8_sailings_171 rfl ?_
    refine z_getI Z E q_X8_145 dX8_sailings_172 hf (fun v13 hf => ?_)
    refine lv_iconst (v := 1) Z.x Z.b dX8_sailings_175 (by decide) ?_
    refine lv_iadd Z.x Z.b dX8_sailings_176 ?_
    refine z_put Z E p_X8_145 rfl rfl dX8_sailings_177 hf (fun h14 H locs hf E => ?_)
    refine lv_iinc (v := (a2 + 1)) (lv' := [(2, .int (a2 + 1)), (0, .ref a0), (1, .int a1)]) Z.x Z.b dX8_sailings_180 hl (k := 2) rfl rfl (by decide) rfl (fun ls hl => ?_)
    refine lv_goto (tgt := 131) Z.x Z.b dX8_sailings_183 (by decide) ?_
    exact k131 hf E (lv_sub hl [1, 2, 0] rfl)
theorem t_X8_sailings_131 {p : Program} {l : Launch} {e : Env} {s : State} {m : MethodId} {args : Array Value} {below : List Frame} {meth : Method} {c : Code} {G : zG} (Z : zF p s m args c meth cX8_sailings 4 RX8 G) (hr : meth.sig.returnType = (some .int)) {out : Int32 × zHp} : ∀ (n : Nat), ∀ {a0 : Nat} {a1 : Int32} {a2 : Int32} {h : zHp} {H : Heap} {locs : List Loc} {ls : Array Slot}, f_X8_sailings_131 n a0 a1 a2 h = some out → zE G s h H locs → lv_has ls 4 [(0, .ref a0), (1, .int a1), (2, .int a2)] → W p l e rm_X8_sailings s m args below meth c H locs 0 0 (MQ below (zQi G out.1 out.2) args s 0 0 (zA G)) (F0 m 131 ls [])
  | 0 => fun hf => by cases hf
  | n + 1 => fun hf E hl => t_X8_sailings_131_body Z hr (r131 := f_X8_sailings_131 n) (t_X8_sailings_131 Z hr n) hf E hl
set_option maxHeartbeats 4000000 in
set_option maxRecDepth 20000 in
theorem t_X8_sailings_22_body {p : Program} {l : Launch} {e : Env} {s : State} {m : MethodId} {args : Array Value} {below : List Frame} {meth : Method} {c : Code} {G : zG} (Z : zF p s m args c meth cX8_sailings 4 RX8 G) (hr : meth.sig.returnType = (some .int)) {out : Int32 × zHp} {r22 : Nat → Int32 → Int32 → zHp → Option (Int32 × zHp)} (k22 : ∀ {a0 : Nat} {a1 : Int32} {a2 : Int32} {h : zHp} {H : Heap} {locs : List Loc} {ls : Array Slot}, r22 a0 a1 a2 h = some out → zE G s h H locs → lv_has ls 4 [(0, .ref a0), (1, .int a1), (2, .int a2)] → W p l e rm_X8_sailings s m args below meth c H locs 0 0 (MQ below (zQi G out.1 out.2) args s 0 0 (zA G)) (F0 m 22 ls [])) {a0 : Nat} {a1 : Int32} {a2 : Int32} {h : zHp} {H : Heap} {locs : List Loc} {ls : Array Slot} (hf : f_X8_sailings_22_body r22 a0 a1 a2 h = some out) (E : zE G s h H locs) (hl : lv_has ls 4 [(0, .ref a0), (1, .int a1), (2, .int a2)]) : W p l e rm_X8_sailings s m args below meth c H locs 0 0 (MQ below (zQi G out.1 out.2) args s 0 0 (zA G)) (F0 m 22 ls []) := by
  unfold f_X8_sailings_22_body at hf
  refine lv_iload_n Z.x Z.b dX8_sailings_22 rfl (lv_at hl 2 rfl) ?_
  refine lv_iload_n Z.x Z.b dX8_sailings_23 rfl (lv_at hl 1 rfl) ?_
  refine lv_icmp_ge (tgt := 116) Z.x Z.b dX8_sailings_24 (by decide) (fun c => ?_) (fun c => ?_)
  · have hf := zit hf c
    refine lv_aload_n Z.x Z.b dX8_sailings_116 rfl (lv_at hl 0 rfl) ?_
    refine z_Vv (As := []) Z E hl.1 k_X8_151 v_X8_takeBack hf (fun h' e => c_X8_takeBack l G h h' a0 e) rfl rfl (Nat.le_of_ble_eq_true rfl) (zRm_of rfl (Nat.zero_le _) (Nat.zero_le _)) dX8_sailings_117 (fun h1 H locs hf E => ?_)
    refine lv_aload_n Z.x Z.b dX8_sailings_120 rfl (lv_at hl 0 rfl) ?_
    refine z_Vv (As := []) Z E hl.1 k_X8_132 v_X8_record hf (fun h' e => c_X8_record l G h1 h' a0 e) rfl rfl (Nat.le_of_ble_eq_true rfl) (zRm_of rfl (Nat.zero_le _) (Nat.zero_le _)) dX8_sailings_121 (fun h2 H locs hf E => ?_)
    refine lv_aload_n Z.x Z.b dX8_sailings_124 rfl (lv_at hl 0 rfl) ?_
    refine lv_iconst (v := 0) Z.x Z.b dX8_sailings_125 (by decide) ?_
    refine z_put Z E p_X8_145 rfl rfl dX8_sailings_126 hf (fun h3 H locs hf E => ?_)
    refine lv_iconst (v := 0) Z.x Z.b dX8_sailings_129 (by decide) ?_
    refine lv_istore_n (lv' := [(2, .int 0), (0, .ref a0), (1, .int a1)]) Z.x Z.b dX8_sailings_130 rfl hl (by decide) rfl (fun ls hl => ?_)
    exact t_X8_sailings_131 Z hr zN hf E (lv_sub hl [1, 2, 0] rfl)
  · have hf := zif_ hf c
    refine lv_aload_n Z.x Z.b dX8_sailings_27 rfl (lv_at hl 0 rfl) ?_
    refine z_Vi (As := []) Z E hl.1 k_X8_148 v_X8_readSailing hf (fun r h' e => c_X8_readSailing l G h h' a0 r e) rfl rfl (Nat.le_of_ble_eq_true rfl) (zRm_of rfl (Nat.zero_le _) (Nat.zero_le _)) dX8_sailings_28 (fun v4 h5 H locs hf E => ?_)
    refine lv_pop Z.x Z.b dX8_sailings_31 rfl ?_
    refine lv_aload_n Z.x Z.b dX8_sailings_32 rfl (lv_at hl 0 rfl) ?_
    refine lv_aload_n Z.x Z.b dX8_sailings_33 rfl (lv_at hl 0 rfl) ?_
    refine z_getR Z E q_X8_25 dX8_sailings_34 hf (fun v6 hf => ?_)
    refine lv_iconst (v := 0) Z.x Z.b dX8_sailings_37 (by decide) ?_
    refine z_iald Z E dX8_sailings_38 hf (fun v7 hf => ?_)
    refine lv_aload_n Z.x Z.b dX8_sailings_39 rfl (lv_at hl 0 rfl) ?_
    refine z_getR Z E q_X8_25 dX8_sailings_40 hf (fun v8 hf => ?_)
    refine lv_iconst (v := 1) Z.x Z.b dX8_sailings_43 (by decide) ?_
    refine z_iald Z E dX8_sailings_44 hf (fun v9 hf => ?_)
    refine lv_aload_n Z.x Z.b dX8_sailings_45 rfl (lv_at hl 0 rfl) ?_
    refine z_getR Z E q_X8_25 dX8_sailings_46 hf (fun v10 hf => ?_)
    refine lv_iconst (v := 2) Z.x Z.b dX8_sailings_49 (by decide) ?_
    refine z_iald Z E dX8_sailings_50 hf (fun v11 hf => ?_)
    refine lv_aload_n Z.x Z.b dX8_sailings_51 rfl (lv_at hl 0 rfl) ?_
    refine z_getR Z E q_X8_25 dX8_sailings_52 hf (fun v12 hf => ?_)
    refine lv_iconst (v := 3) Z.x Z.b dX8_sailings_55 (by decide) ?_
    refine z_iald Z E dX8_sailings_56 hf (fun v13 hf => ?_)
    refine z_Vi (As := [.int v7, .int v9, .int v11, .int v13]) Z E hl.1 k_X8_128 v_X8_hinders hf (fun r h' e => c_X8_hinders l G h5 h' a0 v7 v9 v11 v13 r e) rfl rfl (Nat.le_of_ble_eq_true rfl) (zRm_of rfl (Nat.zero_le _) (Nat.zero_le _)) dX8_sailings_57 (fun v14 h15 H locs hf E => ?_)
    refine lv_istore_n (lv' := [(3, .int v14), (0, .ref a0), (1, .int a1), (2, .int a2)]) Z.x Z.b dX8_sailings_60 rfl hl (by decide) rfl (fun ls hl => ?_)
    refine lv_iload_n Z.x Z.b dX8_sailings_61 rfl (lv_at hl 0 rfl) ?_
    refine lv_if_ge (tgt := 71) Z.x Z.b dX8_sailings_62 (by decide) (fun c => ?_) (fun c => ?_)
    · have hf := zit hf c
      refine lv_aload_n Z.x Z.b dX8_sailings_71 rfl (lv_at hl 1 rfl) ?_
      refine lv_aload_n Z.x Z.b dX8_sailings_72 rfl (lv_at hl 1 rfl) ?_
      refine z_getR Z E q_X8_25 dX8_sailings_73 hf (fun v16 hf => ?_)
      refine lv_iconst (v := 0) Z.x Z.b dX8_sailings_76 (by decide) ?_
      refine z_iald Z E dX8_sailings_77 hf (fun v17 hf => ?_)
      refine lv_aload_n Z.x Z.b dX8_sailings_78 rfl (lv_at hl 1 rfl) ?_
      refine z_getR Z E q_X8_25 dX8_sailings_79 hf (fun v18 hf => ?_)
      refine lv_iconst (v := 1) Z.x Z.b dX8_sailings_82 (by decide) ?_
      refine z_iald Z E dX8_sailings_83 hf (fun v19 hf => ?_)
      refine lv_aload_n Z.x Z.b dX8_sailings_84 rfl (lv_at hl 1 rfl) ?_
      refine z_getR Z E q_X8_25 dX8_sailings_85 hf (fun v20 hf => ?_)
      refine lv_iconst (v := 2) Z.x Z.b dX8_sailings_88 (by decide) ?_
      refine z_iald Z E dX8_sailings_89 hf (fun v21 hf => ?_)
      refine lv_aload_n Z.x Z.b dX8_sailings_90 rfl (lv_at hl 1 rfl) ?_
      refine z_getR Z E q_X8_25 dX8_sailings_91 hf (fun v22 hf => ?_)
      refine lv_iconst (v := 3) Z.x Z.b dX8_sailings_94 (by decide) ?_
      refine z_iald Z E dX8_sailings_95 hf (fun v23 hf => ?_)
      refine z_Vi (As := [.int v17, .int v19, .int v21, .int v23]) Z E hl.1 k_X8_135 v_X8_addSailing hf (fun r h' e => c_X8_addSailing l G h15 h' a0 v17 v19 v21 v23 r e) rfl rfl (Nat.le_of_ble_eq_true rfl) (zRm_of rfl (Nat.zero_le _) (Nat.zero_le _)) dX8_sailings_96 (fun v24 h25 H locs hf E => ?_)
      refine lv_pop Z.x Z.b dX8_sailings_99 rfl ?_
      refine lv_aload_n Z.x Z.b dX8_sailings_100 rfl (lv_at hl 1 rfl) ?_
      refine lv_dup Z.x Z.b dX8_sailings_101 rfl ?_
      refine z_getI Z E q_X8_145 dX8_sailings_102 hf (fun v26 hf => ?_)
      refine lv_iconst (v := 1) Z.x Z.b dX8_sailings_105 (by decide) ?_
      refine lv_iadd Z.x Z.b dX8_sailings_106 ?_
      refine z_put Z E p_X8_145 rfl rfl dX8_sailings_107 hf (fun h27 H locs hf E => ?_)
      refine lv_iinc (v := (a2 + 1)) (lv' := [(2, .int (a2 + 1)), (3, .int v14), (0, .ref a0), (1, .int a1)]) Z.x Z.b dX8_sailings_110 hl (k := 3) rfl rfl (by decide) rfl (fun ls hl => ?_)
      refine lv_goto (tgt := 22) Z.x Z.b dX8_sailings_113 (by decide) ?_
      exact k22 hf E (lv_sub hl [2, 3, 0] rfl)
    · have hf := zif_ hf c
      refine lv_aload_n Z.x Z.b dX8_sailings_65 rfl (lv_at hl 1 rfl) ?_
      refine z_Vv (As := []) Z E hl.1 k_X8_151 v_X8_takeBack hf (fun h' e => c_X8_takeBack l G h15 h' a0 e) rfl rfl (Nat.le_of_ble_eq_true rfl) (zRm_of rfl (Nat.zero_le _) (Nat.zero_le _)) dX8_sailings_66 (fun h28 H locs hf E => ?_)
      refine lv_iload_n Z.x Z.b dX8_sailings_69 rfl (lv_at hl 0 rfl) ?_
      exact z_iret Z E hr dX8_sailings_70 hf
theorem t_X8_sailings_22 {p : Program} {l : Launch} {e : Env} {s : State} {m : MethodId} {args : Array Value} {below : List Frame} {meth : Method} {c : Code} {G : zG} (Z : zF p s m args c meth cX8_sailings 4 RX8 G) (hr : meth.sig.returnType = (some .int)) {out : Int32 × zHp} : ∀ (n : Nat), ∀ {a0 : Nat} {a1 : Int32} {a2 : Int32} {h : zHp} {H : Heap} {locs : List Loc} {ls : Array Slot}, f_X8_sailings_22 n a0 a1 a2 h = some out → zE G s h H locs → lv_has ls 4 [(0, .ref a0), (1, .int a1), (2, .int a2)] → W p l e rm_X8_sailings s m args below meth c H locs 0 0 (MQ below (zQi G out.1 out.2) args s 0 0 (zA G)) (F0 m 22 ls [])
  | 0 => fun hf => by cases hf
  | n + 1 => fun hf E hl => t_X8_sailings_22_body Z hr (r22 := f_X8_sailings_22 n) (t_X8_sailings_22 Z hr n) hf E hl
set_option maxHeartbeats 4000000 in
set_option maxRecDepth 20000 in
theorem t_X8_sailings {p : Program} {l : Launch} {e : Env} {s : State} {m : MethodId} {args : Array Value} {below : List Frame} {meth : Method} {c : Code} {G : zG} (Z : zF p s m args c meth cX8_sailings 4 RX8 G) (hr : meth.sig.returnType = (some .int)) {out : Int32 × zHp} {a0 : Nat} {h : zHp} {H : Heap} {locs : List Loc} {ls : Array Slot} (hf : f_X8_sailings a0 h = some out) (E : zE G s h H locs) (hl : lv_has ls 4 [(0, .ref a0)]) : W p l e rm_X8_sailings s m args below meth c H locs 0 0 (MQ below (zQi G out.1 out.2) args s 0 0 (zA G)) (F0 m 0 ls []) := by
  unfold f_X8_sailings at hf
  refine lv_aload_n Z.x Z.b dX8_sailings_0 rfl (lv_at hl 0 rfl) ?_
  refine z_Vi (As := []) Z E hl.1 k_X8_138 v_X8_readAll hf (fun r h' e => c_X8_readAll l G h h' a0 r e) rfl rfl (Nat.le_of_ble_eq_true rfl) (zRm_of rfl (Nat.zero_le _) (Nat.zero_le _)) dX8_sailings_1 (fun v1 h2 H locs hf E => ?_)
  refine lv_istore_n (lv' := [(1, .int v1), (0, .ref a0)]) Z.x Z.b dX8_sailings_4 rfl hl (by decide) rfl (fun ls hl => ?_)
  refine lv_iload_n Z.x Z.b dX8_sailings_5 rfl (lv_at hl 0 rfl) ?_
  refine lv_if_ge (tgt := 11) Z.x Z.b dX8_sailings_6 (by decide) (fun c => ?_) (fun c => ?_)
  · have hf := zit hf c
    refine lv_aload_n Z.x Z.b dX8_sailings_11 rfl (lv_at hl 1 rfl) ?_
    refine z_Vv (As := []) Z E hl.1 k_X8_142 v_X8_lay hf (fun h' e => c_X8_lay l G h2 h' a0 e) rfl rfl (Nat.le_of_ble_eq_true rfl) (zRm_of rfl (Nat.zero_le _) (Nat.zero_le _)) dX8_sailings_12 (fun h3 H locs hf E => ?_)
    refine lv_aload_n Z.x Z.b dX8_sailings_15 rfl (lv_at hl 1 rfl) ?_
    refine lv_iconst (v := 0) Z.x Z.b dX8_sailings_16 (by decide) ?_
    refine z_put Z E p_X8_145 rfl rfl dX8_sailings_17 hf (fun h4 H locs hf E => ?_)
    refine lv_iconst (v := 0) Z.x Z.b dX8_sailings_20 (by decide) ?_
    refine lv_istore_n (lv' := [(2, .int 0), (1, .int v1), (0, .ref a0)]) Z.x Z.b dX8_sailings_21 rfl hl (by decide) rfl (fun ls hl => ?_)
    exact t_X8_sailings_22 Z hr zN hf E (lv_sub hl [2, 1, 0] rfl)
  · have hf := zif_ hf c
    refine lv_iload_n Z.x Z.b dX8_sailings_9 rfl (lv_at hl 0 rfl) ?_
    exact z_iret Z E hr dX8_sailings_10 hf
set_option maxHeartbeats 4000000 in
set_option maxRecDepth 20000 in
theorem c_X8_sailings (l : Launch) (G : zG) (h : zHp) (h' : zHp) (a0 : Nat) (r : Int32) (hf : f_X8_sailings a0 h = some (r, h')) : zM0 l yX8_sailings cX8_sailings 4 (some .int) rm_X8_sailings G [.ref a0] h (zQi G r h') := by
  refine Met.ofW (cc := cX8_sailings) (maxL := 4) (ret := (some .int)) (by decide) rfl ?_
  intro p e s m args below meth c s₁ B hml hv
  obtain ⟨rfl, hW⟩ := hv
  obtain ⟨Z, E, hr⟩ := zEnter (own := RX8) B hml rfl hW
  have hl := lv_entry ([.ref a0]) (n := 4) (Nat.le_of_ble_eq_true rfl)
  rw [lg_entry_eq]
  generalize (lg_sl ([.ref a0]) ++ List.replicate (4 - (lg_sl ([.ref a0])).length) Slot.unset).toArray = ls at hl ⊢
  have hl : lv_has ls 4 [(0, .ref a0)] := hl
  exact t_X8_sailings (out := (r, h')) Z hr hf E hl
/-! FerryCrewsModel.cancel(I)I -/
theorem dX8_cancel_0 : decode cX8_cancel 0 = .ok (.aload_n 0, 1) := by decide +kernel
theorem dX8_cancel_1 : decode cX8_cancel 1 = .ok (.iload_n 1, 1) := by decide +kernel
theorem dX8_cancel_2 : decode cX8_cancel 2 = .ok (.invokevirtual 154, 3) := by decide +kernel
theorem dX8_cancel_5 : decode cX8_cancel 5 = .ok (.ifCond .ne 5, 3) := by decide +kernel
theorem dX8_cancel_8 : decode cX8_cancel 8 = .ok (.iconst (-1), 1) := by decide +kernel
theorem dX8_cancel_9 : decode cX8_cancel 9 = .ok (.ireturn, 1) := by decide +kernel
theorem dX8_cancel_10 : decode cX8_cancel 10 = .ok (.aload_n 0, 1) := by decide +kernel
theorem dX8_cancel_11 : decode cX8_cancel 11 = .ok (.iload_n 1, 1) := by decide +kernel
theorem dX8_cancel_12 : decode cX8_cancel 12 = .ok (.iconst 0, 1) := by decide +kernel
theorem dX8_cancel_13 : decode cX8_cancel 13 = .ok (.invokevirtual 62, 3) := by decide +kernel
theorem dX8_cancel_16 : decode cX8_cancel 16 = .ok (.ifCond .ne 6, 3) := by decide +kernel
theorem dX8_cancel_19 : decode cX8_cancel 19 = .ok (.bipush (-4), 2) := by decide +kernel
theorem dX8_cancel_21 : decode cX8_cancel 21 = .ok (.ireturn, 1) := by decide +kernel
theorem dX8_cancel_22 : decode cX8_cancel 22 = .ok (.aload_n 0, 1) := by decide +kernel
theorem dX8_cancel_23 : decode cX8_cancel 23 = .ok (.iload_n 1, 1) := by decide +kernel
theorem dX8_cancel_24 : decode cX8_cancel 24 = .ok (.invokevirtual 56, 3) := by decide +kernel
theorem dX8_cancel_27 : decode cX8_cancel 27 = .ok (.istore_n 2, 1) := by decide +kernel
theorem dX8_cancel_28 : decode cX8_cancel 28 = .ok (.aload_n 0, 1) := by decide +kernel
theorem dX8_cancel_29 : decode cX8_cancel 29 = .ok (.invokevirtual 132, 3) := by decide +kernel
theorem dX8_cancel_32 : decode cX8_cancel 32 = .ok (.aload_n 0, 1) := by decide +kernel
theorem dX8_cancel_33 : decode cX8_cancel 33 = .ok (.iload_n 1, 1) := by decide +kernel
theorem dX8_cancel_34 : decode cX8_cancel 34 = .ok (.invokevirtual 119, 3) := by decide +kernel
theorem dX8_cancel_37 : decode cX8_cancel 37 = .ok (.iload_n 2, 1) := by decide +kernel
theorem dX8_cancel_38 : decode cX8_cancel 38 = .ok (.ireturn, 1) := by decide +kernel
set_option maxRecDepth 20000 in
theorem wc_X8_isSailing : Cond.code yX8_isSailing cX8_isSailing 2 (some .boolean) ∈ zB := List.mem_filter.mpr ⟨List.mem_of_getElem? (i := 916) (by decide +kernel), by decide +kernel⟩
set_option maxRecDepth 20000 in
theorem wm_X8_154 : Cond.methodLink RX8 154 yX8_isSailing ∈ zB := List.mem_filter.mpr ⟨List.mem_of_getElem? (i := 913) (by decide +kernel), by decide +kernel⟩
theorem k_X8_154 : zCal RX8 154 yX8_isSailing cX8_isSailing 2 (some .boolean) 1 := ⟨wm_X8_154, wi_X8, wc_X8_isSailing, by decide +kernel, by decide +kernel, by decide +kernel⟩
set_option maxRecDepth 20000 in
theorem wn_X8_isSailing : Cond.instanceMethod yX8_isSailing ∈ zB := List.mem_filter.mpr ⟨List.mem_of_getElem? (i := 915) (by decide +kernel), by decide +kernel⟩
set_option maxRecDepth 20000 in
theorem ws_X8_isSailing : Cond.selects RX8 yX8_isSailing yX8_isSailing ∈ zB := List.mem_filter.mpr ⟨List.mem_of_getElem? (i := 26) (by decide +kernel), by decide +kernel⟩
theorem v_X8_isSailing : zVir yX8_isSailing 8 := ⟨wn_X8_isSailing, ws_X8_isSailing, TX8, 12, rfl⟩
def rm_X8_cancel : Room := { frames := 3, cells := 0, slots := 0, locals := 67 }
set_option maxHeartbeats 4000000 in
set_option maxRecDepth 20000 in
theorem t_X8_cancel {p : Program} {l : Launch} {e : Env} {s : State} {m : MethodId} {args : Array Value} {below : List Frame} {meth : Method} {c : Code} {G : zG} (Z : zF p s m args c meth cX8_cancel 3 RX8 G) (hr : meth.sig.returnType = (some .int)) {out : Int32 × zHp} {a0 : Nat} {a1 : Int32} {h : zHp} {H : Heap} {locs : List Loc} {ls : Array Slot} (hf : f_X8_cancel a0 a1 h = some out) (E : zE G s h H locs) (hl : lv_has ls 3 [(0, .ref a0), (1, .int a1)]) : W p l e rm_X8_cancel s m args below meth c H locs 0 0 (MQ below (zQi G out.1 out.2) args s 0 0 (zA G)) (F0 m 0 ls []) := by
  unfold f_X8_cancel at hf
  refine lv_aload_n Z.x Z.b dX8_cancel_0 rfl (lv_at hl 0 rfl) ?_
  refine lv_iload_n Z.x Z.b dX8_cancel_1 rfl (lv_at hl 1 rfl) ?_
  refine z_Vi (As := [.int a1]) Z E hl.1 k_X8_154 v_X8_isSailing hf (fun r h' e => c_X8_isSailing l G h h' a0 a1 r e) rfl rfl (Nat.le_of_ble_eq_true rfl) (zRm_of rfl (Nat.zero_le _) (Nat.zero_le _)) dX8_cancel_2 (fun v1 h2 H locs hf E => ?_)
  refine lv_if_ne (tgt := 10) Z.x Z.b dX8_cancel_5 (by decide) (fun c => ?_) (fun c => ?_)
  · have hf := zif_ hf c
    refine lv_aload_n Z.x Z.b dX8_cancel_10 rfl (lv_at hl 0 rfl) ?_
    refine lv_iload_n Z.x Z.b dX8_cancel_11 rfl (lv_at hl 1 rfl) ?_
    refine lv_iconst (v := 0) Z.x Z.b dX8_cancel_12 (by decide) ?_
    refine z_Vi (As := [.int a1, .int 0]) Z E hl.1 k_X8_62 v_X8_is hf (fun r h' e => c_X8_is l G h2 h' a0 a1 0 r e) rfl rfl (Nat.le_of_ble_eq_true rfl) (zRm_of rfl (Nat.zero_le _) (Nat.zero_le _)) dX8_cancel_13 (fun v3 h4 H locs hf E => ?_)
    refine lv_if_ne (tgt := 22) Z.x Z.b dX8_cancel_16 (by decide) (fun c => ?_) (fun c => ?_)
    · have hf := zif_ hf c
      refine lv_aload_n Z.x Z.b dX8_cancel_22 rfl (lv_at hl 0 rfl) ?_
      refine lv_iload_n Z.x Z.b dX8_cancel_23 rfl (lv_at hl 1 rfl) ?_
      refine z_Vi (As := [.int a1]) Z E hl.1 k_X8_56 v_X8_takenOf hf (fun r h' e => c_X8_takenOf l G h4 h' a0 a1 r e) rfl rfl (Nat.le_of_ble_eq_true rfl) (zRm_of rfl (Nat.zero_le _) (Nat.zero_le _)) dX8_cancel_24 (fun v5 h6 H locs hf E => ?_)
      refine lv_istore_n (lv' := [(2, .int v5), (0, .ref a0), (1, .int a1)]) Z.x Z.b dX8_cancel_27 rfl hl (by decide) rfl (fun ls hl => ?_)
      refine lv_aload_n Z.x Z.b dX8_cancel_28 rfl (lv_at hl 1 rfl) ?_
      refine z_Vv (As := []) Z E hl.1 k_X8_132 v_X8_record hf (fun h' e => c_X8_record l G h6 h' a0 e) rfl rfl (Nat.le_of_ble_eq_true rfl) (zRm_of rfl (Nat.zero_le _) (Nat.zero_le _)) dX8_cancel_29 (fun h7 H locs hf E => ?_)
      refine lv_aload_n Z.x Z.b dX8_cancel_32 rfl (lv_at hl 1 rfl) ?_
      refine lv_iload_n Z.x Z.b dX8_cancel_33 rfl (lv_at hl 2 rfl) ?_
      refine z_Vv (As := [.int a1]) Z E hl.1 k_X8_119 v_X8_cancelNow hf (fun h' e => c_X8_cancelNow l G h7 h' a0 a1 e) rfl rfl (Nat.le_of_ble_eq_true rfl) (zRm_of rfl (Nat.zero_le _) (Nat.zero_le _)) dX8_cancel_34 (fun h8 H locs hf E => ?_)
      refine lv_iload_n Z.x Z.b dX8_cancel_37 rfl (lv_at hl 0 rfl) ?_
      exact z_iret Z E hr dX8_cancel_38 hf
    · have hf := zit hf c
      refine lv_bipush (v := (-4)) Z.x Z.b dX8_cancel_19 (by decide) ?_
      exact z_iret Z E hr dX8_cancel_21 hf
  · have hf := zit hf c
    refine lv_iconst (v := (-1)) Z.x Z.b dX8_cancel_8 (by decide) ?_
    exact z_iret Z E hr dX8_cancel_9 hf
set_option maxHeartbeats 4000000 in
set_option maxRecDepth 20000 in
theorem c_X8_cancel (l : Launch) (G : zG) (h : zHp) (h' : zHp) (a0 : Nat) (a1 : Int32) (r : Int32) (hf : f_X8_cancel a0 a1 h = some (r, h')) : zM0 l yX8_cancel cX8_cancel 3 (some .int) rm_X8_cancel G [.ref a0, .int a1] h (zQi G r h') := by
  refine Met.ofW (cc := cX8_cancel) (maxL := 3) (ret := (some .int)) (by decide) rfl ?_
  intro p e s m args below meth c s₁ B hml hv
  obtain ⟨rfl, hW⟩ := hv
  obtain ⟨Z, E, hr⟩ := zEnter (own := RX8) B hml rfl hW
  have hl := lv_entry ([.ref a0, .int a1]) (n := 3) (Nat.le_of_ble_eq_true rfl)
  rw [lg_entry_eq]
  generalize (lg_sl ([.ref a0, .int a1]) ++ List.replicate (3 - (lg_sl ([.ref a0, .int a1])).length) Slot.unset).toArray = ls at hl ⊢
  have hl : lv_has ls 3 [(0, .ref a0), (1, .int a1)] := hl
  exact t_X8_cancel (out := (r, h')) Z hr hf E hl
/-! FerryCrewsModel.member(II)I -/
theorem dX8_member_0 : decode cX8_member 0 = .ok (.iload_n 1, 1) := by decide +kernel
theorem dX8_member_1 : decode cX8_member 1 = .ok (.invokestatic 157, 3) := by decide +kernel
theorem dX8_member_4 : decode cX8_member 4 = .ok (.ifCond .ne 5, 3) := by decide +kernel
theorem dX8_member_7 : decode cX8_member 7 = .ok (.iconst (-1), 1) := by decide +kernel
theorem dX8_member_8 : decode cX8_member 8 = .ok (.ireturn, 1) := by decide +kernel
theorem dX8_member_9 : decode cX8_member 9 = .ok (.iload_n 2, 1) := by decide +kernel
theorem dX8_member_10 : decode cX8_member 10 = .ok (.iconst 0, 1) := by decide +kernel
theorem dX8_member_11 : decode cX8_member 11 = .ok (.sipush 9999, 3) := by decide +kernel
theorem dX8_member_14 : decode cX8_member 14 = .ok (.invokestatic 42, 3) := by decide +kernel
theorem dX8_member_17 : decode cX8_member 17 = .ok (.ifCond .ne 6, 3) := by decide +kernel
theorem dX8_member_20 : decode cX8_member 20 = .ok (.bipush (-2), 2) := by decide +kernel
theorem dX8_member_22 : decode cX8_member 22 = .ok (.ireturn, 1) := by decide +kernel
theorem dX8_member_23 : decode cX8_member 23 = .ok (.aload_n 0, 1) := by decide +kernel
theorem dX8_member_24 : decode cX8_member 24 = .ok (.getfield 7, 3) := by decide +kernel
theorem dX8_member_27 : decode cX8_member 27 = .ok (.iconst 2, 1) := by decide +kernel
theorem dX8_member_28 : decode cX8_member 28 = .ok (.iaload, 1) := by decide +kernel
theorem dX8_member_29 : decode cX8_member 29 = .ok (.bipush 12, 2) := by decide +kernel
theorem dX8_member_31 : decode cX8_member 31 = .ok (.if_icmp .ne 6, 3) := by decide +kernel
theorem dX8_member_34 : decode cX8_member 34 = .ok (.bipush (-3), 2) := by decide +kernel
theorem dX8_member_36 : decode cX8_member 36 = .ok (.ireturn, 1) := by decide +kernel
theorem dX8_member_37 : decode cX8_member 37 = .ok (.aload_n 0, 1) := by decide +kernel
theorem dX8_member_38 : decode cX8_member 38 = .ok (.invokevirtual 132, 3) := by decide +kernel
theorem dX8_member_41 : decode cX8_member 41 = .ok (.aload_n 0, 1) := by decide +kernel
theorem dX8_member_42 : decode cX8_member 42 = .ok (.getfield 7, 3) := by decide +kernel
theorem dX8_member_45 : decode cX8_member 45 = .ok (.iconst 2, 1) := by decide +kernel
theorem dX8_member_46 : decode cX8_member 46 = .ok (.iaload, 1) := by decide +kernel
theorem dX8_member_47 : decode cX8_member 47 = .ok (.istore_n 3, 1) := by decide +kernel
theorem dX8_member_48 : decode cX8_member 48 = .ok (.aload_n 0, 1) := by decide +kernel
theorem dX8_member_49 : decode cX8_member 49 = .ok (.getfield 7, 3) := by decide +kernel
theorem dX8_member_52 : decode cX8_member 52 = .ok (.iconst 2, 1) := by decide +kernel
theorem dX8_member_53 : decode cX8_member 53 = .ok (.dup2, 1) := by decide +kernel
theorem dX8_member_54 : decode cX8_member 54 = .ok (.iaload, 1) := by decide +kernel
theorem dX8_member_55 : decode cX8_member 55 = .ok (.iconst 1, 1) := by decide +kernel
theorem dX8_member_56 : decode cX8_member 56 = .ok (.iadd, 1) := by decide +kernel
theorem dX8_member_57 : decode cX8_member 57 = .ok (.iastore, 1) := by decide +kernel
theorem dX8_member_58 : decode cX8_member 58 = .ok (.aload_n 0, 1) := by decide +kernel
theorem dX8_member_59 : decode cX8_member 59 = .ok (.iload_n 3, 1) := by decide +kernel
theorem dX8_member_60 : decode cX8_member 60 = .ok (.iload_n 1, 1) := by decide +kernel
theorem dX8_member_61 : decode cX8_member 61 = .ok (.iload_n 2, 1) := by decide +kernel
theorem dX8_member_62 : decode cX8_member 62 = .ok (.invokevirtual 104, 3) := by decide +kernel
theorem dX8_member_65 : decode cX8_member 65 = .ok (.aload_n 0, 1) := by decide +kernel
theorem dX8_member_66 : decode cX8_member 66 = .ok (.getfield 7, 3) := by decide +kernel
theorem dX8_member_69 : decode cX8_member 69 = .ok (.sipush 1045, 3) := by decide +kernel
theorem dX8_member_72 : decode cX8_member 72 = .ok (.bipush 12, 2) := by decide +kernel
theorem dX8_member_74 : decode cX8_member 74 = .ok (.iload_n 1, 1) := by decide +kernel
theorem dX8_member_75 : decode cX8_member 75 = .ok (.imul, 1) := by decide +kernel
theorem dX8_member_76 : decode cX8_member 76 = .ok (.iadd, 1) := by decide +kernel
theorem dX8_member_77 : decode cX8_member 77 = .ok (.aload_n 0, 1) := by decide +kernel
theorem dX8_member_78 : decode cX8_member 78 = .ok (.getfield 7, 3) := by decide +kernel
theorem dX8_member_81 : decode cX8_member 81 = .ok (.sipush 1041, 3) := by decide +kernel
theorem dX8_member_84 : decode cX8_member 84 = .ok (.iload_n 1, 1) := by decide +kernel
theorem dX8_member_85 : decode cX8_member 85 = .ok (.iadd, 1) := by decide +kernel
theorem dX8_member_86 : decode cX8_member 86 = .ok (.iaload, 1) := by decide +kernel
theorem dX8_member_87 : decode cX8_member 87 = .ok (.iadd, 1) := by decide +kernel
theorem dX8_member_88 : decode cX8_member 88 = .ok (.iload_n 3, 1) := by decide +kernel
theorem dX8_member_89 : decode cX8_member 89 = .ok (.iastore, 1) := by decide +kernel
theorem dX8_member_90 : decode cX8_member 90 = .ok (.aload_n 0, 1) := by decide +kernel
theorem dX8_member_91 : decode cX8_member 91 = .ok (.getfield 7, 3) := by decide +kernel
theorem dX8_member_94 : decode cX8_member 94 = .ok (.sipush 1041, 3) := by decide +kernel
theorem dX8_member_97 : decode cX8_member 97 = .ok (.iload_n 1, 1) := by decide +kernel
theorem dX8_member_98 : decode cX8_member 98 = .ok (.iadd, 1) := by decide +kernel
theorem dX8_member_99 : decode cX8_member 99 = .ok (.dup2, 1) := by decide +kernel
theorem dX8_member_100 : decode cX8_member 100 = .ok (.iaload, 1) := by decide +kernel
theorem dX8_member_101 : decode cX8_member 101 = .ok (.iconst 1, 1) := by decide +kernel
theorem dX8_member_102 : decode cX8_member 102 = .ok (.iadd, 1) := by decide +kernel
theorem dX8_member_103 : decode cX8_member 103 = .ok (.iastore, 1) := by decide +kernel
theorem dX8_member_104 : decode cX8_member 104 = .ok (.iload_n 3, 1) := by decide +kernel
theorem dX8_member_105 : decode cX8_member 105 = .ok (.ireturn, 1) := by decide +kernel
set_option maxRecDepth 20000 in
theorem wc_X8_isRole : Cond.code yX8_isRole cX8_isRole 1 (some .boolean) ∈ zB := List.mem_filter.mpr ⟨List.mem_of_getElem? (i := 947) (by decide +kernel), by decide +kernel⟩
set_option maxRecDepth 20000 in
theorem wm_X8_157 : Cond.methodLink RX8 157 yX8_isRole ∈ zB := List.mem_filter.mpr ⟨List.mem_of_getElem? (i := 945) (by decide +kernel), by decide +kernel⟩
theorem k_X8_157 : zCal RX8 157 yX8_isRole cX8_isRole 1 (some .boolean) 1 := ⟨wm_X8_157, wi_X8, wc_X8_isRole, by decide +kernel, by decide +kernel, by decide +kernel⟩
set_option maxRecDepth 20000 in
theorem wt_X8_isRole : Cond.static yX8_isRole ∈ zB := List.mem_filter.mpr ⟨List.mem_of_getElem? (i := 946) (by decide +kernel), by decide +kernel⟩
def rm_X8_member : Room := { frames := 2, cells := 0, slots := 0, locals := 42 }
set_option maxHeartbeats 4000000 in
set_option maxRecDepth 20000 in
theorem t_X8_member {p : Program} {l : Launch} {e : Env} {s : State} {m : MethodId} {args : Array Value} {below : List Frame} {meth : Method} {c : Code} {G : zG} (Z : zF p s m args c meth cX8_member 4 RX8 G) (hr : meth.sig.returnType = (some .int)) {out : Int32 × zHp} {a0 : Nat} {a1 : Int32} {a2 : Int32} {h : zHp} {H : Heap} {locs : List Loc} {ls : Array Slot} (hf : f_X8_member a0 a1 a2 h = some out) (E : zE G s h H locs) (hl : lv_has ls 4 [(0, .ref a0), (1, .int a1), (2, .int a2)]) : W p l e rm_X8_member s m args below meth c H locs 0 0 (MQ below (zQi G out.1 out.2) args s 0 0 (zA G)) (F0 m 0 ls []) := by
  unfold f_X8_member at hf
  refine lv_iload_n Z.x Z.b dX8_member_0 rfl (lv_at hl 1 rfl) ?_
  refine z_Si (As := [.int a1]) Z E hl.1 k_X8_157 wt_X8_isRole hf (fun r h' e => c_X8_isRole l G h h' a1 r e) rfl rfl (Nat.le_of_ble_eq_true rfl) (zRm_of rfl (Nat.zero_le _) (Nat.zero_le _)) dX8_member_1 (fun v1 h2 H locs hf E => ?_)
  refine lv_if_ne (tgt := 9) Z.x Z.b dX8_member_4 (by decide) (fun c => ?_) (fun c => ?_)
  · have hf := zif_ hf c
    refine lv_iload_n Z.x Z.b dX8_member_9 rfl (lv_at hl 2 rfl) ?_
    refine lv_iconst (v := 0) Z.x Z.b dX8_member_10 (by decide) ?_
    refine lv_sipush (v := 9999) Z.x Z.b dX8_member_11 (by decide) ?_
    refine z_Si (As := [.int a2, .int 0, .int 9999]) Z E hl.1 k_X8_42 wt_X8_in hf (fun r h' e => c_X8_in l G h2 h' a2 0 9999 r e) rfl rfl (Nat.le_of_ble_eq_true rfl) (zRm_of rfl (Nat.zero_le _) (Nat.zero_le _)) dX8_member_14 (fun v3 h4 H locs hf E => ?_)
    refine lv_if_ne (tgt := 23) Z.x Z.b dX8_member_17 (by decide) (fun c => ?_) (fun c => ?_)
    · have hf := zif_ hf c
      refine lv_aload_n Z.x Z.b dX8_member_23 rfl (lv_at hl 0 rfl) ?_
      refine z_getR Z E q_X8_7 dX8_member_24 hf (fun v5 hf => ?_)
      refine lv_iconst (v := 2) Z.x Z.b dX8_member_27 (by decide) ?_
      refine z_iald Z E dX8_member_28 hf (fun v6 hf => ?_)
      refine lv_bipush (v := 12) Z.x Z.b dX8_member_29 (by decide) ?_
      refine lv_icmp_ne (tgt := 37) Z.x Z.b dX8_member_31 (by decide) (fun c => ?_) (fun c => ?_)
      · have hf := zif_ hf c
        refine lv_aload_n Z.x Z.b dX8_member_37 rfl (lv_at hl 0 rfl) ?_
        refine z_Vv (As := []) Z E hl.1 k_X8_132 v_X8_record hf (fun h' e => c_X8_record l G h4 h' a0 e) rfl rfl (Nat.le_of_ble_eq_true rfl) (zRm_of rfl (Nat.zero_le _) (Nat.zero_le _)) dX8_member_38 (fun h7 H locs hf E => ?_)
        refine lv_aload_n Z.x Z.b dX8_member_41 rfl (lv_at hl 0 rfl) ?_
        refine z_getR Z E q_X8_7 dX8_member_42 hf (fun v8 hf => ?_)
        refine lv_iconst (v := 2) Z.x Z.b dX8_member_45 (by decide) ?_
        refine z_iald Z E dX8_member_46 hf (fun v9 hf => ?_)
        refine lv_istore_n (lv' := [(3, .int v9), (0, .ref a0), (1, .int a1), (2, .int a2)]) Z.x Z.b dX8_member_47 rfl hl (by decide) rfl (fun ls hl => ?_)
        refine lv_aload_n Z.x Z.b dX8_member_48 rfl (lv_at hl 1 rfl) ?_
        refine z_getR Z E q_X8_7 dX8_member_49 hf (fun v10 hf => ?_)
        refine lv_iconst (v := 2) Z.x Z.b dX8_member_52 (by decide) ?_
        refine lv_dup2_11 Z.x Z.b dX8_member_53 rfl rfl ?_
        refine z_iald Z E dX8_member_54 hf (fun v11 hf => ?_)
        refine lv_iconst (v := 1) Z.x Z.b dX8_member_55 (by decide) ?_
        refine lv_iadd Z.x Z.b dX8_member_56 ?_
        refine z_iast Z E dX8_member_57 hf (fun h12 H locs hf E => ?_)
        refine lv_aload_n Z.x Z.b dX8_member_58 rfl (lv_at hl 1 rfl) ?_
        refine lv_iload_n Z.x Z.b dX8_member_59 rfl (lv_at hl 0 rfl) ?_
        refine lv_iload_n Z.x Z.b dX8_member_60 rfl (lv_at hl 2 rfl) ?_
        refine lv_iload_n Z.x Z.b dX8_member_61 rfl (lv_at hl 3 rfl) ?_
        refine z_Vv (As := [.int v9, .int a1, .int a2]) Z E hl.1 k_X8_104 v_X8_note hf (fun h' e => c_X8_note l G h12 h' a0 v9 a1 a2 e) rfl rfl (Nat.le_of_ble_eq_true rfl) (zRm_of rfl (Nat.zero_le _) (Nat.zero_le _)) dX8_member_62 (fun h13 H locs hf E => ?_)
        refine lv_aload_n Z.x Z.b dX8_member_65 rfl (lv_at hl 1 rfl) ?_
        refine z_getR Z E q_X8_7 dX8_member_66 hf (fun v14 hf => ?_)
        refine lv_sipush (v := 1045) Z.x Z.b dX8_member_69 (by decide) ?_
        refine lv_bipush (v := 12) Z.x Z.b dX8_member_72 (by decide) ?_
        refine lv_iload_n Z.x Z.b dX8_member_74 rfl (lv_at hl 2 rfl) ?_
        refine lv_imul Z.x Z.b dX8_member_75 ?_
        refine lv_iadd Z.x Z.b dX8_member_76 ?_
        refine lv_aload_n Z.x Z.b dX8_member_77 rfl (lv_at hl 1 rfl) ?_
        refine z_getR Z E q_X8_7 dX8_member_78 hf (fun v15 hf => ?_)
        refine lv_sipush (v := 1041) Z.x Z.b dX8_member_81 (by decide) ?_
        refine lv_iload_n Z.x Z.b dX8_member_84 rfl (lv_at hl 2 rfl) ?_
        refine lv_iadd Z.x Z.b dX8_member_85 ?_
        refine z_iald Z E dX8_member_86 hf (fun v16 hf => ?_)
        refine lv_iadd Z.x Z.b dX8_member_87 ?_
        refine lv_iload_n Z.x Z.b dX8_member_88 rfl (lv_at hl 0 rfl) ?_
        refine z_iast Z E dX8_member_89 hf (fun h17 H locs hf E => ?_)
        refine lv_aload_n Z.x Z.b dX8_member_90 rfl (lv_at hl 1 rfl) ?_
        refine z_getR Z E q_X8_7 dX8_member_91 hf (fun v18 hf => ?_)
        refine lv_sipush (v := 1041) Z.x Z.b dX8_member_94 (by decide) ?_
        refine lv_iload_n Z.x Z.b dX8_member_97 rfl (lv_at hl 2 rfl) ?_
        refine lv_iadd Z.x Z.b dX8_member_98 ?_
        refine lv_dup2_11 Z.x Z.b dX8_member_99 rfl rfl ?_
        refine z_iald Z E dX8_member_100 hf (fun v19 hf => ?_)
        refine lv_iconst (v := 1) Z.x Z.b dX8_member_101 (by decide) ?_
        refine lv_iadd Z.x Z.b dX8_member_102 ?_
        refine z_iast Z E dX8_member_103 hf (fun h20 H locs hf E => ?_)
        refine lv_iload_n Z.x Z.b dX8_member_104 rfl (lv_at hl 0 rfl) ?_
        exact z_iret Z E hr dX8_member_105 hf
      · have hf := zit hf c
        refine lv_bipush (v := (-3)) Z.x Z.b dX8_member_34 (by decide) ?_
        exact z_iret Z E hr dX8_member_36 hf
    · have hf := zit hf c
      refine lv_bipush (v := (-2)) Z.x Z.b dX8_member_20 (by decide) ?_
      exact z_iret Z E hr dX8_member_22 hf
  · have hf := zit hf c
    refine lv_iconst (v := (-1)) Z.x Z.b dX8_member_7 (by decide) ?_
    exact z_iret Z E hr dX8_member_8 hf
set_option maxHeartbeats 4000000 in
set_option maxRecDepth 20000 in
theorem c_X8_member (l : Launch) (G : zG) (h : zHp) (h' : zHp) (a0 : Nat) (a1 : Int32) (a2 : Int32) (r : Int32) (hf : f_X8_member a0 a1 a2 h = some (r, h')) : zM0 l yX8_member cX8_member 4 (some .int) rm_X8_member G [.ref a0, .int a1, .int a2] h (zQi G r h') := by
  refine Met.ofW (cc := cX8_member) (maxL := 4) (ret := (some .int)) (by decide) rfl ?_
  intro p e s m args below meth c s₁ B hml hv
  obtain ⟨rfl, hW⟩ := hv
  obtain ⟨Z, E, hr⟩ := zEnter (own := RX8) B hml rfl hW
  have hl := lv_entry ([.ref a0, .int a1, .int a2]) (n := 4) (Nat.le_of_ble_eq_true rfl)
  rw [lg_entry_eq]
  generalize (lg_sl ([.ref a0, .int a1, .int a2]) ++ List.replicate (4 - (lg_sl ([.ref a0, .int a1, .int a2])).length) Slot.unset).toArray = ls at hl ⊢
  have hl : lv_has ls 4 [(0, .ref a0), (1, .int a1), (2, .int a2)] := hl
  exact t_X8_member (out := (r, h')) Z hr hf E hl
/-! FerryCrewsModel.certify(III)I -/
theorem dX8_certify_0 : decode cX8_certify 0 = .ok (.aload_n 0, 1) := by decide +kernel
theorem dX8_certify_1 : decode cX8_certify 1 = .ok (.iload_n 1, 1) := by decide +kernel
theorem dX8_certify_2 : decode cX8_certify 2 = .ok (.invokevirtual 160, 3) := by decide +kernel
theorem dX8_certify_5 : decode cX8_certify 5 = .ok (.ifCond .eq 10, 3) := by decide +kernel
theorem dX8_certify_8 : decode cX8_certify 8 = .ok (.iload_n 2, 1) := by decide +kernel
theorem dX8_certify_9 : decode cX8_certify 9 = .ok (.invokestatic 157, 3) := by decide +kernel
theorem dX8_certify_12 : decode cX8_certify 12 = .ok (.ifCond .ne 5, 3) := by decide +kernel
theorem dX8_certify_15 : decode cX8_certify 15 = .ok (.iconst (-1), 1) := by decide +kernel
theorem dX8_certify_16 : decode cX8_certify 16 = .ok (.ireturn, 1) := by decide +kernel
theorem dX8_certify_17 : decode cX8_certify 17 = .ok (.iload_n 3, 1) := by decide +kernel
theorem dX8_certify_18 : decode cX8_certify 18 = .ok (.iconst 0, 1) := by decide +kernel
theorem dX8_certify_19 : decode cX8_certify 19 = .ok (.sipush 9999, 3) := by decide +kernel
theorem dX8_certify_22 : decode cX8_certify 22 = .ok (.invokestatic 42, 3) := by decide +kernel
theorem dX8_certify_25 : decode cX8_certify 25 = .ok (.ifCond .ne 6, 3) := by decide +kernel
theorem dX8_certify_28 : decode cX8_certify 28 = .ok (.bipush (-2), 2) := by decide +kernel
theorem dX8_certify_30 : decode cX8_certify 30 = .ok (.ireturn, 1) := by decide +kernel
theorem dX8_certify_31 : decode cX8_certify 31 = .ok (.iconst 0, 1) := by decide +kernel
theorem dX8_certify_32 : decode cX8_certify 32 = .ok (.istore 4, 2) := by decide +kernel
theorem dX8_certify_34 : decode cX8_certify 34 = .ok (.iload 4, 2) := by decide +kernel
theorem dX8_certify_36 : decode cX8_certify 36 = .ok (.aload_n 0, 1) := by decide +kernel
theorem dX8_certify_37 : decode cX8_certify 37 = .ok (.getfield 7, 3) := by decide +kernel
theorem dX8_certify_40 : decode cX8_certify 40 = .ok (.iconst 1, 1) := by decide +kernel
theorem dX8_certify_41 : decode cX8_certify 41 = .ok (.iaload, 1) := by decide +kernel
theorem dX8_certify_42 : decode cX8_certify 42 = .ok (.if_icmp .ge 45, 3) := by decide +kernel
theorem dX8_certify_45 : decode cX8_certify 45 = .ok (.aload_n 0, 1) := by decide +kernel
theorem dX8_certify_46 : decode cX8_certify 46 = .ok (.iload 4, 2) := by decide +kernel
theorem dX8_certify_48 : decode cX8_certify 48 = .ok (.iconst 0, 1) := by decide +kernel
theorem dX8_certify_49 : decode cX8_certify 49 = .ok (.invokevirtual 62, 3) := by decide +kernel
theorem dX8_certify_52 : decode cX8_certify 52 = .ok (.ifCond .eq 29, 3) := by decide +kernel
theorem dX8_certify_55 : decode cX8_certify 55 = .ok (.aload_n 0, 1) := by decide +kernel
theorem dX8_certify_56 : decode cX8_certify 56 = .ok (.iload 4, 2) := by decide +kernel
theorem dX8_certify_58 : decode cX8_certify 58 = .ok (.iload_n 1, 1) := by decide +kernel
theorem dX8_certify_59 : decode cX8_certify 59 = .ok (.invokevirtual 46, 3) := by decide +kernel
theorem dX8_certify_62 : decode cX8_certify 62 = .ok (.iload_n 2, 1) := by decide +kernel
theorem dX8_certify_63 : decode cX8_certify 63 = .ok (.iconst 1, 1) := by decide +kernel
theorem dX8_certify_64 : decode cX8_certify 64 = .ok (.iadd, 1) := by decide +kernel
theorem dX8_certify_65 : decode cX8_certify 65 = .ok (.if_icmp .ne 16, 3) := by decide +kernel
theorem dX8_certify_68 : decode cX8_certify 68 = .ok (.aload_n 0, 1) := by decide +kernel
theorem dX8_certify_69 : decode cX8_certify 69 = .ok (.iload 4, 2) := by decide +kernel
theorem dX8_certify_71 : decode cX8_certify 71 = .ok (.invokevirtual 69, 3) := by decide +kernel
theorem dX8_certify_74 : decode cX8_certify 74 = .ok (.iload_n 3, 1) := by decide +kernel
theorem dX8_certify_75 : decode cX8_certify 75 = .ok (.if_icmp .le 6, 3) := by decide +kernel
theorem dX8_certify_78 : decode cX8_certify 78 = .ok (.bipush (-4), 2) := by decide +kernel
theorem dX8_certify_80 : decode cX8_certify 80 = .ok (.ireturn, 1) := by decide +kernel
theorem dX8_certify_81 : decode cX8_certify 81 = .ok (.iinc 4 1, 3) := by decide +kernel
theorem dX8_certify_84 : decode cX8_certify 84 = .ok (.goto (-50), 3) := by decide +kernel
theorem dX8_certify_87 : decode cX8_certify 87 = .ok (.aload_n 0, 1) := by decide +kernel
theorem dX8_certify_88 : decode cX8_certify 88 = .ok (.iload_n 1, 1) := by decide +kernel
theorem dX8_certify_89 : decode cX8_certify 89 = .ok (.iload_n 2, 1) := by decide +kernel
theorem dX8_certify_90 : decode cX8_certify 90 = .ok (.invokevirtual 59, 3) := by decide +kernel
theorem dX8_certify_93 : decode cX8_certify 93 = .ok (.istore 4, 2) := by decide +kernel
theorem dX8_certify_95 : decode cX8_certify 95 = .ok (.aload_n 0, 1) := by decide +kernel
theorem dX8_certify_96 : decode cX8_certify 96 = .ok (.invokevirtual 132, 3) := by decide +kernel
theorem dX8_certify_99 : decode cX8_certify 99 = .ok (.aload_n 0, 1) := by decide +kernel
theorem dX8_certify_100 : decode cX8_certify 100 = .ok (.iload_n 1, 1) := by decide +kernel
theorem dX8_certify_101 : decode cX8_certify 101 = .ok (.iload_n 2, 1) := by decide +kernel
theorem dX8_certify_102 : decode cX8_certify 102 = .ok (.iload_n 3, 1) := by decide +kernel
theorem dX8_certify_103 : decode cX8_certify 103 = .ok (.invokevirtual 104, 3) := by decide +kernel
theorem dX8_certify_106 : decode cX8_certify 106 = .ok (.iload 4, 2) := by decide +kernel
theorem dX8_certify_108 : decode cX8_certify 108 = .ok (.ireturn, 1) := by decide +kernel
set_option maxRecDepth 20000 in
theorem wc_X8_isMember : Cond.code yX8_isMember cX8_isMember 2 (some .boolean) ∈ zB := List.mem_filter.mpr ⟨List.mem_of_getElem? (i := 959) (by decide +kernel), by decide +kernel⟩
set_option maxRecDepth 20000 in
theorem wm_X8_160 : Cond.methodLink RX8 160 yX8_isMember ∈ zB := List.mem_filter.mpr ⟨List.mem_of_getElem? (i := 956) (by decide +kernel), by decide +kernel⟩
theorem k_X8_160 : zCal RX8 160 yX8_isMember cX8_isMember 2 (some .boolean) 1 := ⟨wm_X8_160, wi_X8, wc_X8_isMember, by decide +kernel, by decide +kernel, by decide +kernel⟩
set_option maxRecDepth 20000 in
theorem wn_X8_isMember : Cond.instanceMethod yX8_isMember ∈ zB := List.mem_filter.mpr ⟨List.mem_of_getElem? (i := 958) (by decide +kernel), by decide +kernel⟩
set_option maxRecDepth 20000 in
theorem ws_X8_isMember : Cond.selects RX8 yX8_isMember yX8_isMember ∈ zB := List.mem_filter.mpr ⟨List.mem_of_getElem? (i := 34) (by decide +kernel), by decide +kernel⟩
theorem v_X8_isMember : zVir yX8_isMember 8 := ⟨wn_X8_isMember, ws_X8_isMember, TX8, 12, rfl⟩
def rm_X8_certify : Room := { frames := 2, cells := 0, slots := 0, locals := 44 }
set_option maxHeartbeats 4000000 in
set_option maxRecDepth 20000 in
theorem t_X8_certify_81 {p : Program} {l : Launch} {e : Env} {s : State} {m : MethodId} {args : Array Value} {below : List Frame} {meth : Method} {c : Code} {G : zG} (Z : zF p s m args c meth cX8_certify 5 RX8 G) (hr : meth.sig.returnType = (some .int)) {out : Int32 × zHp} {r34 : Nat → Int32 → Int32 → Int32 → Int32 → zHp → Option (Int32 × zHp)} (k34 : ∀ {a0 : Nat} {a1 : Int32} {a2 : Int32} {a3 : Int32} {a4 : Int32} {h : zHp} {H : Heap} {locs : List Loc} {ls : Array Slot}, r34 a0 a1 a2 a3 a4 h = some out → zE G s h H locs → lv_has ls 5 [(0, .ref a0), (1, .int a1), (2, .int a2), (3, .int a3), (4, .int a4)] → W p l e rm_X8_certify s m args below meth c H locs 0 0 (MQ below (zQi G out.1 out.2) args s 0 0 (zA G)) (F0 m 34 ls [])) {a0 : Nat} {a1 : Int32} {a2 : Int32} {a3 : Int32} {a4 : Int32} {h : zHp} {H : Heap} {locs : List Loc} {ls : Array Slot} (hf : f_X8_certify_81 r34 a0 a1 a2 a3 a4 h = some out) (E : zE G s h H locs) (hl : lv_has ls 5 [(0, .ref a0), (1, .int a1), (2, .int a2), (3, .int a3), (4, .int a4)]) : W p l e rm_X8_certify s m args below meth c H locs 0 0 (MQ below (zQi G out.1 out.2) args s 0 0 (zA G)) (F0 m 81 ls []) := by
  unfold f_X8_certify_81 at hf
  refine lv_iinc (v := (a4 + 1)) (lv' := [(4, .int (a4 + 1)), (0, .ref a0), (1, .int a1), (2, .int a2), (3, .int a3)]) Z.x Z.b dX8_certify_81 hl (k := 4) rfl rfl (by decide) rfl (fun ls hl => ?_)
  refine lv_goto (tgt := 34) Z.x Z.b dX8_certify_84 (by decide) ?_
  exact k34 hf E (lv_sub hl [1, 2, 3, 4, 0] rfl)
set_option maxHeartbeats 4000000 in
set_option maxRecDepth 20000 in
theorem t_X8_certify_34_body {p : Program} {l : Launch} {e : Env} {s : State} {m : MethodId} {args : Array Value} {below : List Frame} {meth : Method} {c : Code} {G : zG} (Z : zF p s m args c meth cX8_certify 5 RX8 G) (hr : meth.sig.returnType = (some .int)) {out : Int32 × zHp} {r34 : Nat → Int32 → Int32 → Int32 → Int32 → zHp → Option (Int32 × zHp)} (k34 : ∀ {a0 : Nat} {a1 : Int32} {a2 : Int32} {a3 : Int32} {a4 : Int32} {h : zHp} {H : Heap} {locs : List Loc} {ls : Array Slot}, r34 a0 a1 a2 a3 a4 h = some out → zE G s h H locs → lv_has ls 5 [(0, .ref a0), (1, .int a1), (2, .int a2), (3, .int a3), (4, .int a4)] → W p l e rm_X8_certify s m args below meth c H locs 0 0 (MQ below (zQi G out.1 out.2) args s 0 0 (zA G)) (F0 m 34 ls [])) {a0 : Nat} {a1 : Int32} {a2 : Int32} {a3 : Int32} {a4 : Int32} {h : zHp} {H : Heap} {locs : List Loc} {ls : Array Slot} (hf : f_X8_certify_34_body r34 a0 a1 a2 a3 a4 h = some out) (E : zE G s h H locs) (hl : lv_has ls 5 [(0, .ref a0), (1, .int a1), (2, .int a2), (3, .int a3), (4, .int a4)]) : W p l e rm_X8_certify s m args below meth c H locs 0 0 (MQ below (zQi G out.1 out.2) args s 0 0 (zA G)) (F0 m 34 ls []) := by
  unfold f_X8_certify_34_body at hf
  refine lv_iload Z.x Z.b dX8_certify_34 (lv_at hl 4 rfl) ?_
  refine lv_aload_n Z.x Z.b dX8_certify_36 rfl (lv_at hl 0 rfl) ?_
  refine z_getR Z E q_X8_7 dX8_certify_37 hf (fun v1 hf => ?_)
  refine lv_iconst (v := 1) Z.x Z.b dX8_certify_40 (by decide) ?_
  refine z_iald Z E dX8_certify_41 hf (fun v2 hf => ?_)
  refine lv_icmp_ge (tgt := 87) Z.x Z.b dX8_certify_42 (by decide) (fun c => ?_) (fun c => ?_)
  · have hf := zit hf c
    refine lv_aload_n Z.x Z.b dX8_certify_87 rfl (lv_at hl 0 rfl) ?_
    refine lv_iload_n Z.x Z.b dX8_certify_88 rfl (lv_at hl 1 rfl) ?_
    refine lv_iload_n Z.x Z.b dX8_certify_89 rfl (lv_at hl 2 rfl) ?_
    refine z_Vi (As := [.int a1, .int a2]) Z E hl.1 k_X8_59 v_X8_has hf (fun r h' e => c_X8_has l G h h' a0 a1 a2 r e) rfl rfl (Nat.le_of_ble_eq_true rfl) (zRm_of rfl (Nat.zero_le _) (Nat.zero_le _)) dX8_certify_90 (fun v3 h4 H locs hf E => ?_)
    refine lv_istore (lv' := [(4, .int v3), (0, .ref a0), (1, .int a1), (2, .int a2), (3, .int a3)]) Z.x Z.b dX8_certify_93 hl (by decide) rfl (fun ls hl => ?_)
    refine lv_aload_n Z.x Z.b dX8_certify_95 rfl (lv_at hl 1 rfl) ?_
    refine z_Vv (As := []) Z E hl.1 k_X8_132 v_X8_record hf (fun h' e => c_X8_record l G h4 h' a0 e) rfl rfl (Nat.le_of_ble_eq_true rfl) (zRm_of rfl (Nat.zero_le _) (Nat.zero_le _)) dX8_certify_96 (fun h5 H locs hf E => ?_)
    refine lv_aload_n Z.x Z.b dX8_certify_99 rfl (lv_at hl 1 rfl) ?_
    refine lv_iload_n Z.x Z.b dX8_certify_100 rfl (lv_at hl 2 rfl) ?_
    refine lv_iload_n Z.x Z.b dX8_certify_101 rfl (lv_at hl 3 rfl) ?_
    refine lv_iload_n Z.x Z.b dX8_certify_102 rfl (lv_at hl 4 rfl) ?_
    refine z_Vv (As := [.int a1, .int a2, .int a3]) Z E hl.1 k_X8_104 v_X8_note hf (fun h' e => c_X8_note l G h5 h' a0 a1 a2 a3 e) rfl rfl (Nat.le_of_ble_eq_true rfl) (zRm_of rfl (Nat.zero_le _) (Nat.zero_le _)) dX8_certify_103 (fun h6 H locs hf E => ?_)
    refine lv_iload Z.x Z.b dX8_certify_106 (lv_at hl 0 rfl) ?_
    exact z_iret Z E hr dX8_certify_108 hf
  · have hf := zif_ hf c
    refine lv_aload_n Z.x Z.b dX8_certify_45 rfl (lv_at hl 0 rfl) ?_
    refine lv_iload Z.x Z.b dX8_certify_46 (lv_at hl 4 rfl) ?_
    refine lv_iconst (v := 0) Z.x Z.b dX8_certify_48 (by decide) ?_
    refine z_Vi (As := [.int a4, .int 0]) Z E hl.1 k_X8_62 v_X8_is hf (fun r h' e => c_X8_is l G h h' a0 a4 0 r e) rfl rfl (Nat.le_of_ble_eq_true rfl) (zRm_of rfl (Nat.zero_le _) (Nat.zero_le _)) dX8_certify_49 (fun v7 h8 H locs hf E => ?_)
    refine lv_if_eq (tgt := 81) Z.x Z.b dX8_certify_52 (by decide) (fun c => ?_) (fun c => ?_)
    · have hf := zit hf c
      exact t_X8_certify_81 Z hr k34 hf E (lv_sub hl [0, 1, 2, 3, 4] rfl)
    · have hf := zif_ hf c
      refine lv_aload_n Z.x Z.b dX8_certify_55 rfl (lv_at hl 0 rfl) ?_
      refine lv_iload Z.x Z.b dX8_certify_56 (lv_at hl 4 rfl) ?_
      refine lv_iload_n Z.x Z.b dX8_certify_58 rfl (lv_at hl 1 rfl) ?_
      refine z_Vi (As := [.int a4, .int a1]) Z E hl.1 k_X8_46 v_X8_placeOf hf (fun r h' e => c_X8_placeOf l G h8 h' a0 a4 a1 r e) rfl rfl (Nat.le_of_ble_eq_true rfl) (zRm_of rfl (Nat.zero_le _) (Nat.zero_le _)) dX8_certify_59 (fun v9 h10 H locs hf E => ?_)
      refine lv_iload_n Z.x Z.b dX8_certify_62 rfl (lv_at hl 2 rfl) ?_
      refine lv_iconst (v := 1) Z.x Z.b dX8_certify_63 (by decide) ?_
      refine lv_iadd Z.x Z.b dX8_certify_64 ?_
      refine lv_icmp_ne (tgt := 81) Z.x Z.b dX8_certify_65 (by decide) (fun c => ?_) (fun c => ?_)
      · have hf := zif_ hf c
        exact t_X8_certify_81 Z hr k34 hf E (lv_sub hl [0, 1, 2, 3, 4] rfl)
      · have hf := zit hf c
        refine lv_aload_n Z.x Z.b dX8_certify_68 rfl (lv_at hl 0 rfl) ?_
        refine lv_iload Z.x Z.b dX8_certify_69 (lv_at hl 4 rfl) ?_
        refine z_Vi (As := [.int a4]) Z E hl.1 k_X8_69 v_X8_end hf (fun r h' e => c_X8_end l G h10 h' a0 a4 r e) rfl rfl (Nat.le_of_ble_eq_true rfl) (zRm_of rfl (Nat.zero_le _) (Nat.zero_le _)) dX8_certify_71 (fun v11 h12 H locs hf E => ?_)
        refine lv_iload_n Z.x Z.b dX8_certify_74 rfl (lv_at hl 3 rfl) ?_
        refine lv_icmp_le (tgt := 81) Z.x Z.b dX8_certify_75 (by decide) (fun c => ?_) (fun c => ?_)
        · have hf := zit hf c
          exact t_X8_certify_81 Z hr k34 hf E (lv_sub hl [0, 1, 2, 3, 4] rfl)
        · have hf := zif_ hf c
          refine lv_bipush (v := (-4)) Z.x Z.b dX8_certify_78 (by decide) ?_
          exact z_iret Z E hr dX8_certify_80 hf
theorem t_X8_certify_34 {p : Program} {l : Launch} {e : Env} {s : State} {m : MethodId} {args : Array Value} {below : List Frame} {meth : Method} {c : Code} {G : zG} (Z : zF p s m args c meth cX8_certify 5 RX8 G) (hr : meth.sig.returnType = (some .int)) {out : Int32 × zHp} : ∀ (n : Nat), ∀ {a0 : Nat} {a1 : Int32} {a2 : Int32} {a3 : Int32} {a4 : Int32} {h : zHp} {H : Heap} {locs : List Loc} {ls : Array Slot}, f_X8_certify_34 n a0 a1 a2 a3 a4 h = some out → zE G s h H locs → lv_has ls 5 [(0, .ref a0), (1, .int a1), (2, .int a2), (3, .int a3), (4, .int a4)] → W p l e rm_X8_certify s m args below meth c H locs 0 0 (MQ below (zQi G out.1 out.2) args s 0 0 (zA G)) (F0 m 34 ls [])
  | 0 => fun hf => by cases hf
  | n + 1 => fun hf E hl => t_X8_certify_34_body Z hr (r34 := f_X8_certify_34 n) (t_X8_certify_34 Z hr n) hf E hl
set_option maxHeartbeats 4000000 in
set_option maxRecDepth 20000 in
theorem t_X8_certify {p : Program} {l : Launch} {e : Env} {s : State} {m : MethodId} {args : Array Value} {below : List Frame} {meth : Method} {c : Code} {G : zG} (Z : zF p s m args c meth cX8_certify 5 RX8 G) (hr : meth.sig.returnType = (some .int)) {out : Int32 × zHp} {a0 : Nat} {a1 : Int32} {a2 : Int32} {a3 : Int32} {h : zHp} {H : Heap} {locs : List Loc} {ls : Array Slot} (hf : f_X8_certify a0 a1 a2 a3 h = some out) (E : zE G s h H locs) (hl : lv_has ls 5 [(0, .ref a0), (1, .int a1), (2, .int a2), (3, .int a3)]) : W p l e rm_X8_certify s m args below meth c H locs 0 0 (MQ below (zQi G out.1 out.2) args s 0 0 (zA G)) (F0 m 0 ls []) := by
  unfold f_X8_certify at hf
  refine lv_aload_n Z.x Z.b dX8_certify_0 rfl (lv_at hl 0 rfl) ?_
  refine lv_iload_n Z.x Z.b dX8_certify_1 rfl (lv_at hl 1 rfl) ?_
  refine z_Vi (As := [.int a1]) Z E hl.1 k_X8_160 v_X8_isMember hf (fun r h' e => c_X8_isMember l G h h' a0 a1 r e) rfl rfl (Nat.le_of_ble_eq_true rfl) (zRm_of rfl (Nat.zero_le _) (Nat.zero_le _)) dX8_certify_2 (fun v1 h2 H locs hf E => ?_)
  refine lv_if_eq (tgt := 15) Z.x Z.b dX8_certify_5 (by decide) (fun c => ?_) (fun c => ?_)
  · have hf := zit hf c
    refine lv_iconst (v := (-1)) Z.x Z.b dX8_certify_15 (by decide) ?_
    exact z_iret Z E hr dX8_certify_16 hf
  · have hf := zif_ hf c
    refine lv_iload_n Z.x Z.b dX8_certify_8 rfl (lv_at hl 2 rfl) ?_
    refine z_Si (As := [.int a2]) Z E hl.1 k_X8_157 wt_X8_isRole hf (fun r h' e => c_X8_isRole l G h2 h' a2 r e) rfl rfl (Nat.le_of_ble_eq_true rfl) (zRm_of rfl (Nat.zero_le _) (Nat.zero_le _)) dX8_certify_9 (fun v3 h4 H locs hf E => ?_)
    refine lv_if_ne (tgt := 17) Z.x Z.b dX8_certify_12 (by decide) (fun c => ?_) (fun c => ?_)
    · have hf := zif_ hf c
      refine lv_iload_n Z.x Z.b dX8_certify_17 rfl (lv_at hl 3 rfl) ?_
      refine lv_iconst (v := 0) Z.x Z.b dX8_certify_18 (by decide) ?_
      refine lv_sipush (v := 9999) Z.x Z.b dX8_certify_19 (by decide) ?_
      refine z_Si (As := [.int a3, .int 0, .int 9999]) Z E hl.1 k_X8_42 wt_X8_in hf (fun r h' e => c_X8_in l G h4 h' a3 0 9999 r e) rfl rfl (Nat.le_of_ble_eq_true rfl) (zRm_of rfl (Nat.zero_le _) (Nat.zero_le _)) dX8_certify_22 (fun v5 h6 H locs hf E => ?_)
      refine lv_if_ne (tgt := 31) Z.x Z.b dX8_certify_25 (by decide) (fun c => ?_) (fun c => ?_)
      · have hf := zif_ hf c
        refine lv_iconst (v := 0) Z.x Z.b dX8_certify_31 (by decide) ?_
        refine lv_istore (lv' := [(4, .int 0), (0, .ref a0), (1, .int a1), (2, .int a2), (3, .int a3)]) Z.x Z.b dX8_certify_32 hl (by decide) rfl (fun ls hl => ?_)
        exact t_X8_certify_34 Z hr zN hf E (lv_sub hl [1, 2, 3, 4, 0] rfl)
      · have hf := zit hf c
        refine lv_bipush (v := (-2)) Z.x Z.b dX8_certify_28 (by decide) ?_
        exact z_iret Z E hr dX8_certify_30 hf
    · have hf := zit hf c
      refine lv_iconst (v := (-1)) Z.x Z.b dX8_certify_15 (by decide) ?_
      exact z_iret Z E hr dX8_certify_16 hf
set_option maxHeartbeats 4000000 in
set_option maxRecDepth 20000 in
theorem c_X8_certify (l : Launch) (G : zG) (h : zHp) (h' : zHp) (a0 : Nat) (a1 : Int32) (a2 : Int32) (a3 : Int32) (r : Int32) (hf : f_X8_certify a0 a1 a2 a3 h = some (r, h')) : zM0 l yX8_certify cX8_certify 5 (some .int) rm_X8_certify G [.ref a0, .int a1, .int a2, .int a3] h (zQi G r h') := by
  refine Met.ofW (cc := cX8_certify) (maxL := 5) (ret := (some .int)) (by decide) rfl ?_
  intro p e s m args below meth c s₁ B hml hv
  obtain ⟨rfl, hW⟩ := hv
  obtain ⟨Z, E, hr⟩ := zEnter (own := RX8) B hml rfl hW
  have hl := lv_entry ([.ref a0, .int a1, .int a2, .int a3]) (n := 5) (Nat.le_of_ble_eq_true rfl)
  rw [lg_entry_eq]
  generalize (lg_sl ([.ref a0, .int a1, .int a2, .int a3]) ++ List.replicate (5 - (lg_sl ([.ref a0, .int a1, .int a2, .int a3])).length) Slot.unset).toArray = ls at hl ⊢
  have hl : lv_has ls 5 [(0, .ref a0), (1, .int a1), (2, .int a2), (3, .int a3)] := hl
  exact t_X8_certify (out := (r, h')) Z hr hf E hl
/-! FerryCrewsModel.rungOf(II)I -/
theorem dX8_rungOf_0 : decode cX8_rungOf 0 = .ok (.iconst 0, 1) := by decide +kernel
theorem dX8_rungOf_1 : decode cX8_rungOf 1 = .ok (.istore_n 3, 1) := by decide +kernel
theorem dX8_rungOf_2 : decode cX8_rungOf 2 = .ok (.iload_n 3, 1) := by decide +kernel
theorem dX8_rungOf_3 : decode cX8_rungOf 3 = .ok (.aload_n 0, 1) := by decide +kernel
theorem dX8_rungOf_4 : decode cX8_rungOf 4 = .ok (.getfield 7, 3) := by decide +kernel
theorem dX8_rungOf_7 : decode cX8_rungOf 7 = .ok (.sipush 1041, 3) := by decide +kernel
theorem dX8_rungOf_10 : decode cX8_rungOf 10 = .ok (.iload_n 2, 1) := by decide +kernel
theorem dX8_rungOf_11 : decode cX8_rungOf 11 = .ok (.iadd, 1) := by decide +kernel
theorem dX8_rungOf_12 : decode cX8_rungOf 12 = .ok (.iaload, 1) := by decide +kernel
theorem dX8_rungOf_13 : decode cX8_rungOf 13 = .ok (.if_icmp .ge 30, 3) := by decide +kernel
theorem dX8_rungOf_16 : decode cX8_rungOf 16 = .ok (.aload_n 0, 1) := by decide +kernel
theorem dX8_rungOf_17 : decode cX8_rungOf 17 = .ok (.getfield 7, 3) := by decide +kernel
theorem dX8_rungOf_20 : decode cX8_rungOf 20 = .ok (.sipush 1045, 3) := by decide +kernel
theorem dX8_rungOf_23 : decode cX8_rungOf 23 = .ok (.bipush 12, 2) := by decide +kernel
theorem dX8_rungOf_25 : decode cX8_rungOf 25 = .ok (.iload_n 2, 1) := by decide +kernel
theorem dX8_rungOf_26 : decode cX8_rungOf 26 = .ok (.imul, 1) := by decide +kernel
theorem dX8_rungOf_27 : decode cX8_rungOf 27 = .ok (.iadd, 1) := by decide +kernel
theorem dX8_rungOf_28 : decode cX8_rungOf 28 = .ok (.iload_n 3, 1) := by decide +kernel
theorem dX8_rungOf_29 : decode cX8_rungOf 29 = .ok (.iadd, 1) := by decide +kernel
theorem dX8_rungOf_30 : decode cX8_rungOf 30 = .ok (.iaload, 1) := by decide +kernel
theorem dX8_rungOf_31 : decode cX8_rungOf 31 = .ok (.iload_n 1, 1) := by decide +kernel
theorem dX8_rungOf_32 : decode cX8_rungOf 32 = .ok (.if_icmp .ne 5, 3) := by decide +kernel
theorem dX8_rungOf_35 : decode cX8_rungOf 35 = .ok (.iload_n 3, 1) := by decide +kernel
theorem dX8_rungOf_36 : decode cX8_rungOf 36 = .ok (.ireturn, 1) := by decide +kernel
theorem dX8_rungOf_37 : decode cX8_rungOf 37 = .ok (.iinc 3 1, 3) := by decide +kernel
theorem dX8_rungOf_40 : decode cX8_rungOf 40 = .ok (.goto (-38), 3) := by decide +kernel
theorem dX8_rungOf_43 : decode cX8_rungOf 43 = .ok (.bipush (-5), 2) := by decide +kernel
theorem dX8_rungOf_45 : decode cX8_rungOf 45 = .ok (.ireturn, 1) := by decide +kernel
def rm_X8_rungOf : Room := { frames := 0, cells := 0, slots := 0, locals := 0 }
set_option maxHeartbeats 4000000 in
set_option maxRecDepth 20000 in
theorem t_X8_rungOf_2_body {p : Program} {l : Launch} {e : Env} {s : State} {m : MethodId} {args : Array Value} {below : List Frame} {meth : Method} {c : Code} {G : zG} (Z : zF p s m args c meth cX8_rungOf 4 RX8 G) (hr : meth.sig.returnType = (some .int)) {out : Int32 × zHp} {r2 : Nat → Int32 → Int32 → Int32 → zHp → Option (Int32 × zHp)} (k2 : ∀ {a0 : Nat} {a1 : Int32} {a2 : Int32} {a3 : Int32} {h : zHp} {H : Heap} {locs : List Loc} {ls : Array Slot}, r2 a0 a1 a2 a3 h = some out → zE G s h H locs → lv_has ls 4 [(0, .ref a0), (1, .int a1), (2, .int a2), (3, .int a3)] → W p l e rm_X8_rungOf s m args below meth c H locs 0 0 (MQ below (zQi G out.1 out.2) args s 0 0 (zA G)) (F0 m 2 ls [])) {a0 : Nat} {a1 : Int32} {a2 : Int32} {a3 : Int32} {h : zHp} {H : Heap} {locs : List Loc} {ls : Array Slot} (hf : f_X8_rungOf_2_body r2 a0 a1 a2 a3 h = some out) (E : zE G s h H locs) (hl : lv_has ls 4 [(0, .ref a0), (1, .int a1), (2, .int a2), (3, .int a3)]) : W p l e rm_X8_rungOf s m args below meth c H locs 0 0 (MQ below (zQi G out.1 out.2) args s 0 0 (zA G)) (F0 m 2 ls []) := by
  unfold f_X8_rungOf_2_body at hf
  refine lv_iload_n Z.x Z.b dX8_rungOf_2 rfl (lv_at hl 3 rfl) ?_
  refine lv_aload_n Z.x Z.b dX8_rungOf_3 rfl (lv_at hl 0 rfl) ?_
  refine z_getR Z E q_X8_7 dX8_rungOf_4 hf (fun v1 hf => ?_)
  refine lv_sipush (v := 1041) Z.x Z.b dX8_rungOf_7 (by decide) ?_
  refine lv_iload_n Z.x Z.b dX8_rungOf_10 rfl (lv_at hl 2 rfl) ?_
  refine lv_iadd Z.x Z.b dX8_rungOf_11 ?_
  refine z_iald Z E dX8_rungOf_12 hf (fun v2 hf => ?_)
  refine lv_icmp_ge (tgt := 43) Z.x Z.b dX8_rungOf_13 (by decide) (fun c => ?_) (fun c => ?_)
  · have hf := zit hf c
    refine lv_bipush (v := (-5)) Z.x Z.b dX8_rungOf_43 (by decide) ?_
    exact z_iret Z E hr dX8_rungOf_45 hf
  · have hf := zif_ hf c
    refine lv_aload_n Z.x Z.b dX8_rungOf_16 rfl (lv_at hl 0 rfl) ?_
    refine z_getR Z E q_X8_7 dX8_rungOf_17 hf (fun v3 hf => ?_)
    refine lv_sipush (v := 1045) Z.x Z.b dX8_rungOf_20 (by decide) ?_
    refine lv_bipush (v := 12) Z.x Z.b dX8_rungOf_23 (by decide) ?_
    refine lv_iload_n Z.x Z.b dX8_rungOf_25 rfl (lv_at hl 2 rfl) ?_
    refine lv_imul Z.x Z.b dX8_rungOf_26 ?_
    refine lv_iadd Z.x Z.b dX8_rungOf_27 ?_
    refine lv_iload_n Z.x Z.b dX8_rungOf_28 rfl (lv_at hl 3 rfl) ?_
    refine lv_iadd Z.x Z.b dX8_rungOf_29 ?_
    refine z_iald Z E dX8_rungOf_30 hf (fun v4 hf => ?_)
    refine lv_iload_n Z.x Z.b dX8_rungOf_31 rfl (lv_at hl 1 rfl) ?_
    refine lv_icmp_ne (tgt := 37) Z.x Z.b dX8_rungOf_32 (by decide) (fun c => ?_) (fun c => ?_)
    · have hf := zif_ hf c
      refine lv_iinc (v := (a3 + 1)) (lv' := [(3, .int (a3 + 1)), (0, .ref a0), (1, .int a1), (2, .int a2)]) Z.x Z.b dX8_rungOf_37 hl (k := 3) rfl rfl (by decide) rfl (fun ls hl => ?_)
      refine lv_goto (tgt := 2) Z.x Z.b dX8_rungOf_40 (by decide) ?_
      exact k2 hf E (lv_sub hl [1, 2, 3, 0] rfl)
    · have hf := zit hf c
      refine lv_iload_n Z.x Z.b dX8_rungOf_35 rfl (lv_at hl 3 rfl) ?_
      exact z_iret Z E hr dX8_rungOf_36 hf
theorem t_X8_rungOf_2 {p : Program} {l : Launch} {e : Env} {s : State} {m : MethodId} {args : Array Value} {below : List Frame} {meth : Method} {c : Code} {G : zG} (Z : zF p s m args c meth cX8_rungOf 4 RX8 G) (hr : meth.sig.returnType = (some .int)) {out : Int32 × zHp} : ∀ (n : Nat), ∀ {a0 : Nat} {a1 : Int32} {a2 : Int32} {a3 : Int32} {h : zHp} {H : Heap} {locs : List Loc} {ls : Array Slot}, f_X8_rungOf_2 n a0 a1 a2 a3 h = some out → zE G s h H locs → lv_has ls 4 [(0, .ref a0), (1, .int a1), (2, .int a2), (3, .int a3)] → W p l e rm_X8_rungOf s m args below meth c H locs 0 0 (MQ below (zQi G out.1 out.2) args s 0 0 (zA G)) (F0 m 2 ls [])
  | 0 => fun hf => by cases hf
  | n + 1 => fun hf E hl => t_X8_rungOf_2_body Z hr (r2 := f_X8_rungOf_2 n) (t_X8_rungOf_2 Z hr n) hf E hl
set_option maxHeartbeats 4000000 in
set_option maxRecDepth 20000 in
theorem t_X8_rungOf {p : Program} {l : Launch} {e : Env} {s : State} {m : MethodId} {args : Array Value} {below : List Frame} {meth : Method} {c : Code} {G : zG} (Z : zF p s m args c meth cX8_rungOf 4 RX8 G) (hr : meth.sig.returnType = (some .int)) {out : Int32 × zHp} {a0 : Nat} {a1 : Int32} {a2 : Int32} {h : zHp} {H : Heap} {locs : List Loc} {ls : Array Slot} (hf : f_X8_rungOf a0 a1 a2 h = some out) (E : zE G s h H locs) (hl : lv_has ls 4 [(0, .ref a0), (1, .int a1), (2, .int a2)]) : W p l e rm_X8_rungOf s m args below meth c H locs 0 0 (MQ below (zQi G out.1 out.2) args s 0 0 (zA G)) (F0 m 0 ls []) := by
  unfold f_X8_rungOf at hf
  refine lv_iconst (v := 0) Z.x Z.b dX8_rungOf_0 (by decide) ?_
  refine lv_istore_n (lv' := [(3, .int 0), (0, .ref a0), (1, .int a1), (2, .int a2)]) Z.x Z.b dX8_rungOf_1 rfl hl (by decide) rfl (fun ls hl => ?_)
  exact t_X8_rungOf_2 Z hr zN hf E (lv_sub hl [1, 2, 3, 0] rfl)
set_option maxHeartbeats 4000000 in
set_option maxRecDepth 20000 in
theorem c_X8_rungOf (l : Launch) (G : zG) (h : zHp) (h' : zHp) (a0 : Nat) (a1 : Int32) (a2 : Int32) (r : Int32) (hf : f_X8_rungOf a0 a1 a2 h = some (r, h')) : zM0 l yX8_rungOf cX8_rungOf 4 (some .int) rm_X8_rungOf G [.ref a0, .int a1, .int a2] h (zQi G r h') := by
  refine Met.ofW (cc := cX8_rungOf) (maxL := 4) (ret := (some .int)) (by decide) rfl ?_
  intro p e s m args below meth c s₁ B hml hv
  obtain ⟨rfl, hW⟩ := hv
  obtain ⟨Z, E, hr⟩ := zEnter (own := RX8) B hml rfl hW
  have hl := lv_entry ([.ref a0, .int a1, .int a2]) (n := 4) (Nat.le_of_ble_eq_true rfl)
  rw [lg_entry_eq]
  generalize (lg_sl ([.ref a0, .int a1, .int a2]) ++ List.replicate (4 - (lg_sl ([.ref a0, .int a1, .int a2])).length) Slot.unset).toArray = ls at hl ⊢
  have hl : lv_has ls 4 [(0, .ref a0), (1, .int a1), (2, .int a2)] := hl
  exact t_X8_rungOf (out := (r, h')) Z hr hf E hl
