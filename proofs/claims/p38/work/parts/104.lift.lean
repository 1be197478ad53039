/-! FerryCrewsLaw.tell(LFerryCrews;)[I -/
theorem dL_tell_0 : decode cL_tell 0 = .ok (.bipush 64, 2) := by decide +kernel
theorem dL_tell_2 : decode cL_tell 2 = .ok (.newarray .int, 2) := by decide +kernel
theorem dL_tell_4 : decode cL_tell 4 = .ok (.astore_n 1, 1) := by decide +kernel
theorem dL_tell_5 : decode cL_tell 5 = .ok (.iconst 0, 1) := by decide +kernel
theorem dL_tell_6 : decode cL_tell 6 = .ok (.istore_n 2, 1) := by decide +kernel
theorem dL_tell_7 : decode cL_tell 7 = .ok (.iload_n 2, 1) := by decide +kernel
theorem dL_tell_8 : decode cL_tell 8 = .ok (.bipush 10, 2) := by decide +kernel
theorem dL_tell_10 : decode cL_tell 10 = .ok (.if_icmp .ge 17, 3) := by decide +kernel
theorem dL_tell_13 : decode cL_tell 13 = .ok (.aload_n 1, 1) := by decide +kernel
theorem dL_tell_14 : decode cL_tell 14 = .ok (.iload_n 2, 1) := by decide +kernel
theorem dL_tell_15 : decode cL_tell 15 = .ok (.aload_n 0, 1) := by decide +kernel
theorem dL_tell_16 : decode cL_tell 16 = .ok (.iload_n 2, 1) := by decide +kernel
theorem dL_tell_17 : decode cL_tell 17 = .ok (.invokevirtual 9, 3) := by decide +kernel
theorem dL_tell_20 : decode cL_tell 20 = .ok (.iastore, 1) := by decide +kernel
theorem dL_tell_21 : decode cL_tell 21 = .ok (.iinc 2 1, 3) := by decide +kernel
theorem dL_tell_24 : decode cL_tell 24 = .ok (.goto (-17), 3) := by decide +kernel
theorem dL_tell_27 : decode cL_tell 27 = .ok (.iconst 0, 1) := by decide +kernel
theorem dL_tell_28 : decode cL_tell 28 = .ok (.istore_n 2, 1) := by decide +kernel
theorem dL_tell_29 : decode cL_tell 29 = .ok (.iload_n 2, 1) := by decide +kernel
theorem dL_tell_30 : decode cL_tell 30 = .ok (.iconst 5, 1) := by decide +kernel
theorem dL_tell_31 : decode cL_tell 31 = .ok (.if_icmp .ge 23, 3) := by decide +kernel
theorem dL_tell_34 : decode cL_tell 34 = .ok (.aload_n 1, 1) := by decide +kernel
theorem dL_tell_35 : decode cL_tell 35 = .ok (.bipush 10, 2) := by decide +kernel
theorem dL_tell_37 : decode cL_tell 37 = .ok (.iload_n 2, 1) := by decide +kernel
theorem dL_tell_38 : decode cL_tell 38 = .ok (.iadd, 1) := by decide +kernel
theorem dL_tell_39 : decode cL_tell 39 = .ok (.aload_n 0, 1) := by decide +kernel
theorem dL_tell_40 : decode cL_tell 40 = .ok (.bipush 13, 2) := by decide +kernel
theorem dL_tell_42 : decode cL_tell 42 = .ok (.iload_n 2, 1) := by decide +kernel
theorem dL_tell_43 : decode cL_tell 43 = .ok (.iadd, 1) := by decide +kernel
theorem dL_tell_44 : decode cL_tell 44 = .ok (.invokevirtual 9, 3) := by decide +kernel
theorem dL_tell_47 : decode cL_tell 47 = .ok (.iastore, 1) := by decide +kernel
theorem dL_tell_48 : decode cL_tell 48 = .ok (.iinc 2 1, 3) := by decide +kernel
theorem dL_tell_51 : decode cL_tell 51 = .ok (.goto (-22), 3) := by decide +kernel
theorem dL_tell_54 : decode cL_tell 54 = .ok (.iconst 0, 1) := by decide +kernel
theorem dL_tell_55 : decode cL_tell 55 = .ok (.istore_n 2, 1) := by decide +kernel
theorem dL_tell_56 : decode cL_tell 56 = .ok (.iload_n 2, 1) := by decide +kernel
theorem dL_tell_57 : decode cL_tell 57 = .ok (.bipush 15, 2) := by decide +kernel
theorem dL_tell_59 : decode cL_tell 59 = .ok (.if_icmp .ge 69, 3) := by decide +kernel
theorem dL_tell_62 : decode cL_tell 62 = .ok (.aload_n 1, 1) := by decide +kernel
theorem dL_tell_63 : decode cL_tell 63 = .ok (.bipush 15, 2) := by decide +kernel
theorem dL_tell_65 : decode cL_tell 65 = .ok (.iload_n 2, 1) := by decide +kernel
theorem dL_tell_66 : decode cL_tell 66 = .ok (.iadd, 1) := by decide +kernel
theorem dL_tell_67 : decode cL_tell 67 = .ok (.sipush 10000, 3) := by decide +kernel
theorem dL_tell_70 : decode cL_tell 70 = .ok (.aload_n 0, 1) := by decide +kernel
theorem dL_tell_71 : decode cL_tell 71 = .ok (.iload_n 2, 1) := by decide +kernel
theorem dL_tell_72 : decode cL_tell 72 = .ok (.iconst 0, 1) := by decide +kernel
theorem dL_tell_73 : decode cL_tell 73 = .ok (.invokevirtual 15, 3) := by decide +kernel
theorem dL_tell_76 : decode cL_tell 76 = .ok (.imul, 1) := by decide +kernel
theorem dL_tell_77 : decode cL_tell 77 = .ok (.sipush 1000, 3) := by decide +kernel
theorem dL_tell_80 : decode cL_tell 80 = .ok (.aload_n 0, 1) := by decide +kernel
theorem dL_tell_81 : decode cL_tell 81 = .ok (.iload_n 2, 1) := by decide +kernel
theorem dL_tell_82 : decode cL_tell 82 = .ok (.bipush 6, 2) := by decide +kernel
theorem dL_tell_84 : decode cL_tell 84 = .ok (.invokevirtual 15, 3) := by decide +kernel
theorem dL_tell_87 : decode cL_tell 87 = .ok (.imul, 1) := by decide +kernel
theorem dL_tell_88 : decode cL_tell 88 = .ok (.iadd, 1) := by decide +kernel
theorem dL_tell_89 : decode cL_tell 89 = .ok (.aload_n 0, 1) := by decide +kernel
theorem dL_tell_90 : decode cL_tell 90 = .ok (.iload_n 2, 1) := by decide +kernel
theorem dL_tell_91 : decode cL_tell 91 = .ok (.iconst 3, 1) := by decide +kernel
theorem dL_tell_92 : decode cL_tell 92 = .ok (.invokevirtual 15, 3) := by decide +kernel
theorem dL_tell_95 : decode cL_tell 95 = .ok (.iadd, 1) := by decide +kernel
theorem dL_tell_96 : decode cL_tell 96 = .ok (.iastore, 1) := by decide +kernel
theorem dL_tell_97 : decode cL_tell 97 = .ok (.aload_n 1, 1) := by decide +kernel
theorem dL_tell_98 : decode cL_tell 98 = .ok (.bipush 30, 2) := by decide +kernel
theorem dL_tell_100 : decode cL_tell 100 = .ok (.iload_n 2, 1) := by decide +kernel
theorem dL_tell_101 : decode cL_tell 101 = .ok (.iadd, 1) := by decide +kernel
theorem dL_tell_102 : decode cL_tell 102 = .ok (.sipush 1000, 3) := by decide +kernel
theorem dL_tell_105 : decode cL_tell 105 = .ok (.aload_n 0, 1) := by decide +kernel
theorem dL_tell_106 : decode cL_tell 106 = .ok (.iload_n 2, 1) := by decide +kernel
theorem dL_tell_107 : decode cL_tell 107 = .ok (.iconst 0, 1) := by decide +kernel
theorem dL_tell_108 : decode cL_tell 108 = .ok (.iconst 0, 1) := by decide +kernel
theorem dL_tell_109 : decode cL_tell 109 = .ok (.invokevirtual 19, 3) := by decide +kernel
theorem dL_tell_112 : decode cL_tell 112 = .ok (.imul, 1) := by decide +kernel
theorem dL_tell_113 : decode cL_tell 113 = .ok (.aload_n 0, 1) := by decide +kernel
theorem dL_tell_114 : decode cL_tell 114 = .ok (.iload_n 2, 1) := by decide +kernel
theorem dL_tell_115 : decode cL_tell 115 = .ok (.iconst 1, 1) := by decide +kernel
theorem dL_tell_116 : decode cL_tell 116 = .ok (.iconst 0, 1) := by decide +kernel
theorem dL_tell_117 : decode cL_tell 117 = .ok (.invokevirtual 19, 3) := by decide +kernel
theorem dL_tell_120 : decode cL_tell 120 = .ok (.iadd, 1) := by decide +kernel
theorem dL_tell_121 : decode cL_tell 121 = .ok (.iastore, 1) := by decide +kernel
theorem dL_tell_122 : decode cL_tell 122 = .ok (.iinc 2 1, 3) := by decide +kernel
theorem dL_tell_125 : decode cL_tell 125 = .ok (.goto (-69), 3) := by decide +kernel
theorem dL_tell_128 : decode cL_tell 128 = .ok (.iconst 0, 1) := by decide +kernel
theorem dL_tell_129 : decode cL_tell 129 = .ok (.istore_n 2, 1) := by decide +kernel
theorem dL_tell_130 : decode cL_tell 130 = .ok (.iload_n 2, 1) := by decide +kernel
theorem dL_tell_131 : decode cL_tell 131 = .ok (.bipush 6, 2) := by decide +kernel
theorem dL_tell_133 : decode cL_tell 133 = .ok (.if_icmp .ge 66, 3) := by decide +kernel
theorem dL_tell_136 : decode cL_tell 136 = .ok (.aload_n 1, 1) := by decide +kernel
theorem dL_tell_137 : decode cL_tell 137 = .ok (.bipush 45, 2) := by decide +kernel
theorem dL_tell_139 : decode cL_tell 139 = .ok (.iconst 3, 1) := by decide +kernel
theorem dL_tell_140 : decode cL_tell 140 = .ok (.iload_n 2, 1) := by decide +kernel
theorem dL_tell_141 : decode cL_tell 141 = .ok (.imul, 1) := by decide +kernel
theorem dL_tell_142 : decode cL_tell 142 = .ok (.iadd, 1) := by decide +kernel
theorem dL_tell_143 : decode cL_tell 143 = .ok (.aload_n 0, 1) := by decide +kernel
theorem dL_tell_144 : decode cL_tell 144 = .ok (.iload_n 2, 1) := by decide +kernel
theorem dL_tell_145 : decode cL_tell 145 = .ok (.iconst 4, 1) := by decide +kernel
theorem dL_tell_146 : decode cL_tell 146 = .ok (.invokevirtual 23, 3) := by decide +kernel
theorem dL_tell_149 : decode cL_tell 149 = .ok (.iastore, 1) := by decide +kernel
theorem dL_tell_150 : decode cL_tell 150 = .ok (.aload_n 1, 1) := by decide +kernel
theorem dL_tell_151 : decode cL_tell 151 = .ok (.bipush 46, 2) := by decide +kernel
theorem dL_tell_153 : decode cL_tell 153 = .ok (.iconst 3, 1) := by decide +kernel
theorem dL_tell_154 : decode cL_tell 154 = .ok (.iload_n 2, 1) := by decide +kernel
theorem dL_tell_155 : decode cL_tell 155 = .ok (.imul, 1) := by decide +kernel
theorem dL_tell_156 : decode cL_tell 156 = .ok (.iadd, 1) := by decide +kernel
theorem dL_tell_157 : decode cL_tell 157 = .ok (.bipush 100, 2) := by decide +kernel
theorem dL_tell_159 : decode cL_tell 159 = .ok (.aload_n 0, 1) := by decide +kernel
theorem dL_tell_160 : decode cL_tell 160 = .ok (.iload_n 2, 1) := by decide +kernel
theorem dL_tell_161 : decode cL_tell 161 = .ok (.iconst 5, 1) := by decide +kernel
theorem dL_tell_162 : decode cL_tell 162 = .ok (.invokevirtual 23, 3) := by decide +kernel
theorem dL_tell_165 : decode cL_tell 165 = .ok (.imul, 1) := by decide +kernel
theorem dL_tell_166 : decode cL_tell 166 = .ok (.aload_n 0, 1) := by decide +kernel
theorem dL_tell_167 : decode cL_tell 167 = .ok (.iload_n 2, 1) := by decide +kernel
theorem dL_tell_168 : decode cL_tell 168 = .ok (.bipush 8, 2) := by decide +kernel
theorem dL_tell_170 : decode cL_tell 170 = .ok (.invokevirtual 23, 3) := by decide +kernel
theorem dL_tell_173 : decode cL_tell 173 = .ok (.iadd, 1) := by decide +kernel
theorem dL_tell_174 : decode cL_tell 174 = .ok (.iastore, 1) := by decide +kernel
theorem dL_tell_175 : decode cL_tell 175 = .ok (.aload_n 1, 1) := by decide +kernel
theorem dL_tell_176 : decode cL_tell 176 = .ok (.bipush 47, 2) := by decide +kernel
theorem dL_tell_178 : decode cL_tell 178 = .ok (.iconst 3, 1) := by decide +kernel
theorem dL_tell_179 : decode cL_tell 179 = .ok (.iload_n 2, 1) := by decide +kernel
theorem dL_tell_180 : decode cL_tell 180 = .ok (.imul, 1) := by decide +kernel
theorem dL_tell_181 : decode cL_tell 181 = .ok (.iadd, 1) := by decide +kernel
theorem dL_tell_182 : decode cL_tell 182 = .ok (.aload_n 0, 1) := by decide +kernel
theorem dL_tell_183 : decode cL_tell 183 = .ok (.iload_n 2, 1) := by decide +kernel
theorem dL_tell_184 : decode cL_tell 184 = .ok (.iconst 4, 1) := by decide +kernel
theorem dL_tell_185 : decode cL_tell 185 = .ok (.irem, 1) := by decide +kernel
theorem dL_tell_186 : decode cL_tell 186 = .ok (.iload_n 2, 1) := by decide +kernel
theorem dL_tell_187 : decode cL_tell 187 = .ok (.iconst 4, 1) := by decide +kernel
theorem dL_tell_188 : decode cL_tell 188 = .ok (.idiv, 1) := by decide +kernel
theorem dL_tell_189 : decode cL_tell 189 = .ok (.invokevirtual 26, 3) := by decide +kernel
theorem dL_tell_192 : decode cL_tell 192 = .ok (.iastore, 1) := by decide +kernel
theorem dL_tell_193 : decode cL_tell 193 = .ok (.iinc 2 1, 3) := by decide +kernel
theorem dL_tell_196 : decode cL_tell 196 = .ok (.goto (-66), 3) := by decide +kernel
theorem dL_tell_199 : decode cL_tell 199 = .ok (.aload_n 1, 1) := by decide +kernel
theorem dL_tell_200 : decode cL_tell 200 = .ok (.areturn, 1) := by decide +kernel
set_option maxRecDepth 20000 in
theorem wc_X7_count : Cond.code yX7_count cX7_count 2 (some .int) ∈ zB := List.mem_filter.mpr ⟨List.mem_of_getElem? (i := 334) (by decide +kernel), by decide +kernel⟩
set_option maxRecDepth 20000 in
theorem wm_L_9 : Cond.methodLink RL 9 yX7_count ∈ zB := List.mem_filter.mpr ⟨List.mem_of_getElem? (i := 331) (by decide +kernel), by decide +kernel⟩
theorem k_L_9 : zCal RL 9 yX7_count cX7_count 2 (some .int) 1 := ⟨wm_L_9, wi_X7, wc_X7_count, by decide +kernel, by decide +kernel, by decide +kernel⟩
set_option maxRecDepth 20000 in
theorem wn_X7_count : Cond.instanceMethod yX7_count ∈ zB := List.mem_filter.mpr ⟨List.mem_of_getElem? (i := 332) (by decide +kernel), by decide +kernel⟩
set_option maxRecDepth 20000 in
theorem ws_X7_count : Cond.selects RX7 yX7_count yX7_count ∈ zB := List.mem_filter.mpr ⟨List.mem_of_getElem? (i := 333) (by decide +kernel), by decide +kernel⟩
theorem v_X7_count : zVir yX7_count 7 := ⟨wn_X7_count, ws_X7_count, TX7, 6, rfl⟩
set_option maxRecDepth 20000 in
theorem wc_X7_sailingOf : Cond.code yX7_sailingOf cX7_sailingOf 4 (some .int) ∈ zB := List.mem_filter.mpr ⟨List.mem_of_getElem? (i := 444) (by decide +kernel), by decide +kernel⟩
set_option maxRecDepth 20000 in
theorem wm_L_15 : Cond.methodLink RL 15 yX7_sailingOf ∈ zB := List.mem_filter.mpr ⟨List.mem_of_getElem? (i := 441) (by decide +kernel), by decide +kernel⟩
theorem k_L_15 : zCal RL 15 yX7_sailingOf cX7_sailingOf 4 (some .int) 2 := ⟨wm_L_15, wi_X7, wc_X7_sailingOf, by decide +kernel, by decide +kernel, by decide +kernel⟩
set_option maxRecDepth 20000 in
theorem wn_X7_sailingOf : Cond.instanceMethod yX7_sailingOf ∈ zB := List.mem_filter.mpr ⟨List.mem_of_getElem? (i := 442) (by decide +kernel), by decide +kernel⟩
set_option maxRecDepth 20000 in
theorem ws_X7_sailingOf : Cond.selects RX7 yX7_sailingOf yX7_sailingOf ∈ zB := List.mem_filter.mpr ⟨List.mem_of_getElem? (i := 443) (by decide +kernel), by decide +kernel⟩
theorem v_X7_sailingOf : zVir yX7_sailingOf 7 := ⟨wn_X7_sailingOf, ws_X7_sailingOf, TX7, 6, rfl⟩
set_option maxRecDepth 20000 in
theorem wc_X7_crew : Cond.code yX7_crew cX7_crew 6 (some .int) ∈ zB := List.mem_filter.mpr ⟨List.mem_of_getElem? (i := 450) (by decide +kernel), by decide +kernel⟩
set_option maxRecDepth 20000 in
theorem wm_L_19 : Cond.methodLink RL 19 yX7_crew ∈ zB := List.mem_filter.mpr ⟨List.mem_of_getElem? (i := 447) (by decide +kernel), by decide +kernel⟩
theorem k_L_19 : zCal RL 19 yX7_crew cX7_crew 6 (some .int) 3 := ⟨wm_L_19, wi_X7, wc_X7_crew, by decide +kernel, by decide +kernel, by decide +kernel⟩
set_option maxRecDepth 20000 in
theorem wn_X7_crew : Cond.instanceMethod yX7_crew ∈ zB := List.mem_filter.mpr ⟨List.mem_of_getElem? (i := 448) (by decide +kernel), by decide +kernel⟩
set_option maxRecDepth 20000 in
theorem ws_X7_crew : Cond.selects RX7 yX7_crew yX7_crew ∈ zB := List.mem_filter.mpr ⟨List.mem_of_getElem? (i := 449) (by decide +kernel), by decide +kernel⟩
theorem v_X7_crew : zVir yX7_crew 7 := ⟨wn_X7_crew, ws_X7_crew, TX7, 6, rfl⟩
set_option maxRecDepth 20000 in
theorem wc_X7_memberOf : Cond.code yX7_memberOf cX7_memberOf 4 (some .int) ∈ zB := List.mem_filter.mpr ⟨List.mem_of_getElem? (i := 463) (by decide +kernel), by decide +kernel⟩
set_option maxRecDepth 20000 in
theorem wm_L_23 : Cond.methodLink RL 23 yX7_memberOf ∈ zB := List.mem_filter.mpr ⟨List.mem_of_getElem? (i := 460) (by decide +kernel), by decide +kernel⟩
theorem k_L_23 : zCal RL 23 yX7_memberOf cX7_memberOf 4 (some .int) 2 := ⟨wm_L_23, wi_X7, wc_X7_memberOf, by decide +kernel, by decide +kernel, by decide +kernel⟩
set_option maxRecDepth 20000 in
theorem wn_X7_memberOf : Cond.instanceMethod yX7_memberOf ∈ zB := List.mem_filter.mpr ⟨List.mem_of_getElem? (i := 461) (by decide +kernel), by decide +kernel⟩
set_option maxRecDepth 20000 in
theorem ws_X7_memberOf : Cond.selects RX7 yX7_memberOf yX7_memberOf ∈ zB := List.mem_filter.mpr ⟨List.mem_of_getElem? (i := 462) (by decide +kernel), by decide +kernel⟩
theorem v_X7_memberOf : zVir yX7_memberOf 7 := ⟨wn_X7_memberOf, ws_X7_memberOf, TX7, 6, rfl⟩
set_option maxRecDepth 20000 in
theorem wc_X7_ladder : Cond.code yX7_ladder cX7_ladder 4 (some .int) ∈ zB := List.mem_filter.mpr ⟨List.mem_of_getElem? (i := 272) (by decide +kernel), by decide +kernel⟩
set_option maxRecDepth 20000 in
theorem wm_L_26 : Cond.methodLink RL 26 yX7_ladder ∈ zB := List.mem_filter.mpr ⟨List.mem_of_getElem? (i := 269) (by decide +kernel), by decide +kernel⟩
theorem k_L_26 : zCal RL 26 yX7_ladder cX7_ladder 4 (some .int) 2 := ⟨wm_L_26, wi_X7, wc_X7_ladder, by decide +kernel, by decide +kernel, by decide +kernel⟩
set_option maxRecDepth 20000 in
theorem wn_X7_ladder : Cond.instanceMethod yX7_ladder ∈ zB := List.mem_filter.mpr ⟨List.mem_of_getElem? (i := 270) (by decide +kernel), by decide +kernel⟩
set_option maxRecDepth 20000 in
theorem ws_X7_ladder : Cond.selects RX7 yX7_ladder yX7_ladder ∈ zB := List.mem_filter.mpr ⟨List.mem_of_getElem? (i := 271) (by decide +kernel), by decide +kernel⟩
theorem v_X7_ladder : zVir yX7_ladder 7 := ⟨wn_X7_ladder, ws_X7_ladder, TX7, 6, rfl⟩
def rm_L_tell : Room := { frames := 6, cells := 1, slots := 64, locals := 133 }
set_option maxHeartbeats 4000000 in
set_option maxRecDepth 20000 in
theorem t_L_tell_130_body {p : Program} {l : Launch} {e : Env} {s : State} {m : MethodId} {args : Array Value} {below : List Frame} {meth : Method} {c : Code} {G : zG} (Z : zF p s m args c meth cL_tell 3 RL G) (hr : meth.sig.returnType = (some (.array .int))) {out : Option Nat × zHp} {r130 : Nat → Nat → Int32 → zHp → Option (Option Nat × zHp)} (k130 : ∀ {a0 : Nat} {a1 : Nat} {a2 : Int32} {h : zHp} {H : Heap} {locs : List Loc} {ls : Array Slot} {cells slots : Nat}, r130 a0 a1 a2 h = some out → zE G s h H locs → lv_has ls 3 [(0, .ref a0), (1, .ref a1), (2, .int a2)] → cells + 0 ≤ 1 → slots + 0 ≤ 64 → W p l e rm_L_tell s m args below meth c H locs cells slots (MQ below (zQq G out.1 out.2) args s 1 64 (zA G)) (F0 m 130 ls [])) {a0 : Nat} {a1 : Nat} {a2 : Int32} {h : zHp} {H : Heap} {locs : List Loc} {ls : Array Slot} {cells slots : Nat} (hf : f_L_tell_130_body r130 a0 a1 a2 h = some out) (E : zE G s h H locs) (hl : lv_has ls 3 [(0, .ref a0), (1, .ref a1), (2, .int a2)]) (hc : cells + 0 ≤ 1) (hs : slots + 0 ≤ 64) : W p l e rm_L_tell s m args below meth c H locs cells slots (MQ below (zQq G out.1 out.2) args s 1 64 (zA G)) (F0 m 130 ls []) := by
  unfold f_L_tell_130_body at hf
  refine lv_iload_n Z.x Z.b dL_tell_130 rfl (lv_at hl 2 rfl) ?_
  refine lv_bipush (v := 6) Z.x Z.b dL_tell_131 (by decide) ?_
  refine lv_icmp_ge (tgt := 199) Z.x Z.b dL_tell_133 (by decide) (fun c => ?_) (fun c => ?_)
  · have hf := zit hf c
    refine lv_aload_n Z.x Z.b dL_tell_199 rfl (lv_at hl 1 rfl) ?_
    refine W.widen (k := 1) (n := 64) (by omega) (by omega) ?_
    exact z_aretA (v := (some a1)) Z E hr dL_tell_200 hf
  · have hf := zif_ hf c
    refine lv_aload_n Z.x Z.b dL_tell_136 rfl (lv_at hl 1 rfl) ?_
    refine lv_bipush (v := 45) Z.x Z.b dL_tell_137 (by decide) ?_
    refine lv_iconst (v := 3) Z.x Z.b dL_tell_139 (by decide) ?_
    refine lv_iload_n Z.x Z.b dL_tell_140 rfl (lv_at hl 2 rfl) ?_
    refine lv_imul Z.x Z.b dL_tell_141 ?_
    refine lv_iadd Z.x Z.b dL_tell_142 ?_
    refine lv_aload_n Z.x Z.b dL_tell_143 rfl (lv_at hl 0 rfl) ?_
    refine lv_iload_n Z.x Z.b dL_tell_144 rfl (lv_at hl 2 rfl) ?_
    refine lv_iconst (v := 4) Z.x Z.b dL_tell_145 (by decide) ?_
    refine z_Vi (As := [.int a2, .int 4]) Z E hl.1 k_L_23 v_X7_memberOf hf (fun r h' e => c_X7_memberOf l G h h' a0 a2 4 r e) rfl rfl (Nat.le_of_ble_eq_true rfl) (zRm_of rfl (show _ ≤ 1 by omega) (show _ ≤ 64 by omega)) dL_tell_146 (fun v1 h2 H locs hf E => ?_)
    refine z_iast Z E dL_tell_149 hf (fun h3 H locs hf E => ?_)
    refine lv_aload_n Z.x Z.b dL_tell_150 rfl (lv_at hl 1 rfl) ?_
    refine lv_bipush (v := 46) Z.x Z.b dL_tell_151 (by decide) ?_
    refine lv_iconst (v := 3) Z.x Z.b dL_tell_153 (by decide) ?_
    refine lv_iload_n Z.x Z.b dL_tell_154 rfl (lv_at hl 2 rfl) ?_
    refine lv_imul Z.x Z.b dL_tell_155 ?_
    refine lv_iadd Z.x Z.b dL_tell_156 ?_
    refine lv_bipush (v := 100) Z.x Z.b dL_tell_157 (by decide) ?_
    refine lv_aload_n Z.x Z.b dL_tell_159 rfl (lv_at hl 0 rfl) ?_
    refine lv_iload_n Z.x Z.b dL_tell_160 rfl (lv_at hl 2 rfl) ?_
    refine lv_iconst (v := 5) Z.x Z.b dL_tell_161 (by decide) ?_
    refine z_Vi (As := [.int a2, .int 5]) Z E hl.1 k_L_23 v_X7_memberOf hf (fun r h' e => c_X7_memberOf l G h3 h' a0 a2 5 r e) rfl rfl (Nat.le_of_ble_eq_true rfl) (zRm_of rfl (show _ ≤ 1 by omega) (show _ ≤ 64 by omega)) dL_tell_162 (fun v4 h5 H locs hf E => ?_)
    refine lv_imul Z.x Z.b dL_tell_165 ?_
    refine lv_aload_n Z.x Z.b dL_tell_166 rfl (lv_at hl 0 rfl) ?_
    refine lv_iload_n Z.x Z.b dL_tell_167 rfl (lv_at hl 2 rfl) ?_
    refine lv_bipush (v := 8) Z.x Z.b dL_tell_168 (by decide) ?_
    refine z_Vi (As := [.int a2, .int 8]) Z E hl.1 k_L_23 v_X7_memberOf hf (fun r h' e => c_X7_memberOf l G h5 h' a0 a2 8 r e) rfl rfl (Nat.le_of_ble_eq_true rfl) (zRm_of rfl (show _ ≤ 1 by omega) (show _ ≤ 64 by omega)) dL_tell_170 (fun v6 h7 H locs hf E => ?_)
    refine lv_iadd Z.x Z.b dL_tell_173 ?_
    refine z_iast Z E dL_tell_174 hf (fun h8 H locs hf E => ?_)
    refine lv_aload_n Z.x Z.b dL_tell_175 rfl (lv_at hl 1 rfl) ?_
    refine lv_bipush (v := 47) Z.x Z.b dL_tell_176 (by decide) ?_
    refine lv_iconst (v := 3) Z.x Z.b dL_tell_178 (by decide) ?_
    refine lv_iload_n Z.x Z.b dL_tell_179 rfl (lv_at hl 2 rfl) ?_
    refine lv_imul Z.x Z.b dL_tell_180 ?_
    refine lv_iadd Z.x Z.b dL_tell_181 ?_
    refine lv_aload_n Z.x Z.b dL_tell_182 rfl (lv_at hl 0 rfl) ?_
    refine lv_iload_n Z.x Z.b dL_tell_183 rfl (lv_at hl 2 rfl) ?_
    refine lv_iconst (v := 4) Z.x Z.b dL_tell_184 (by decide) ?_
    refine z_irem Z dL_tell_185 hf (fun v9 hf => ?_)
    refine lv_iload_n Z.x Z.b dL_tell_186 rfl (lv_at hl 2 rfl) ?_
    refine lv_iconst (v := 4) Z.x Z.b dL_tell_187 (by decide) ?_
    refine z_idiv Z dL_tell_188 hf (fun v10 hf => ?_)
    refine z_Vi (As := [.int v9, .int v10]) Z E hl.1 k_L_26 v_X7_ladder hf (fun r h' e => c_X7_ladder l G h8 h' a0 v9 v10 r e) rfl rfl (Nat.le_of_ble_eq_true rfl) (zRm_of rfl (show _ ≤ 1 by omega) (show _ ≤ 64 by omega)) dL_tell_189 (fun v11 h12 H locs hf E => ?_)
    refine z_iast Z E dL_tell_192 hf (fun h13 H locs hf E => ?_)
    refine lv_iinc (v := (a2 + 1)) (lv' := [(2, .int (a2 + 1)), (0, .ref a0), (1, .ref a1)]) Z.x Z.b dL_tell_193 hl (k := 2) rfl rfl (by decide) rfl (fun ls hl => ?_)
    refine lv_goto (tgt := 130) Z.x Z.b dL_tell_196 (by decide) ?_
    exact k130 hf E (lv_sub hl [1, 2, 0] rfl) (by omega) (by omega)
theorem t_L_tell_130 {p : Program} {l : Launch} {e : Env} {s : State} {m : MethodId} {args : Array Value} {below : List Frame} {meth : Method} {c : Code} {G : zG} (Z : zF p s m args c meth cL_tell 3 RL G) (hr : meth.sig.returnType = (some (.array .int))) {out : Option Nat × zHp} : ∀ (n : Nat), ∀ {a0 : Nat} {a1 : Nat} {a2 : Int32} {h : zHp} {H : Heap} {locs : List Loc} {ls : Array Slot} {cells slots : Nat}, f_L_tell_130 n a0 a1 a2 h = some out → zE G s h H locs → lv_has ls 3 [(0, .ref a0), (1, .ref a1), (2, .int a2)] → cells + 0 ≤ 1 → slots + 0 ≤ 64 → W p l e rm_L_tell s m args below meth c H locs cells slots (MQ below (zQq G out.1 out.2) args s 1 64 (zA G)) (F0 m 130 ls [])
  | 0 => fun hf => by cases hf
  | n + 1 => fun hf E hl hc hs => t_L_tell_130_body Z hr (r130 := f_L_tell_130 n) (t_L_tell_130 Z hr n) hf E hl hc hs
set_option maxHeartbeats 4000000 in
set_option maxRecDepth 20000 in
theorem t_L_tell_56_body {p : Program} {l : Launch} {e : Env} {s : State} {m : MethodId} {args : Array Value} {below : List Frame} {meth : Method} {c : Code} {G : zG} (Z : zF p s m args c meth cL_tell 3 RL G) (hr : meth.sig.returnType = (some (.array .int))) {out : Option Nat × zHp} {r56 : Nat → Nat → Int32 → zHp → Option (Option Nat × zHp)} (k56 : ∀ {a0 : Nat} {a1 : Nat} {a2 : Int32} {h : zHp} {H : Heap} {locs : List Loc} {ls : Array Slot} {cells slots : Nat}, r56 a0 a1 a2 h = some out → zE G s h H locs → lv_has ls 3 [(0, .ref a0), (1, .ref a1), (2, .int a2)] → cells + 0 ≤ 1 → slots + 0 ≤ 64 → W p l e rm_L_tell s m args below meth c H locs cells slots (MQ below (zQq G out.1 out.2) args s 1 64 (zA G)) (F0 m 56 ls [])) {a0 : Nat} {a1 : Nat} {a2 : Int32} {h : zHp} {H : Heap} {locs : List Loc} {ls : Array Slot} {cells slots : Nat} (hf : f_L_tell_56_body r56 a0 a1 a2 h = some out) (E : zE G s h H locs) (hl : lv_has ls 3 [(0, .ref a0), (1, .ref a1), (2, .int a2)]) (hc : cells + 0 ≤ 1) (hs : slots + 0 ≤ 64) : W p l e rm_L_tell s m args below meth c H locs cells slots (MQ below (zQq G out.1 out.2) args s 1 64 (zA G)) (F0 m 56 ls []) := by
  unfold f_L_tell_56_body at hf
  refine lv_iload_n Z.x Z.b dL_tell_56 rfl (lv_at hl 2 rfl) ?_
  refine lv_bipush (v := 15) Z.x Z.b dL_tell_57 (by decide) ?_
  refine lv_icmp_ge (tgt := 128) Z.x Z.b dL_tell_59 (by decide) (fun c => ?_) (fun c => ?_)
  · have hf := zit hf c
    refine lv_iconst (v := 0) Z.x Z.b dL_tell_128 (by decide) ?_
    refine lv_istore_n (lv' := [(2, .int 0), (0, .ref a0), (1, .ref a1)]) Z.x Z.b dL_tell_129 rfl hl (by decide) rfl (fun ls hl => ?_)
    exact t_L_tell_130 Z hr zN hf E (lv_sub hl [1, 2, 0] rfl) (by omega) (by omega)
  · have hf := zif_ hf c
    refine lv_aload_n Z.x Z.b dL_tell_62 rfl (lv_at hl 1 rfl) ?_
    refine lv_bipush (v := 15) Z.x Z.b dL_tell_63 (by decide) ?_
    refine lv_iload_n Z.x Z.b dL_tell_65 rfl (lv_at hl 2 rfl) ?_
    refine lv_iadd Z.x Z.b dL_tell_66 ?_
    refine lv_sipush (v := 10000) Z.x Z.b dL_tell_67 (by decide) ?_
    refine lv_aload_n Z.x Z.b dL_tell_70 rfl (lv_at hl 0 rfl) ?_
    refine lv_iload_n Z.x Z.b dL_tell_71 rfl (lv_at hl 2 rfl) ?_
    refine lv_iconst (v := 0) Z.x Z.b dL_tell_72 (by decide) ?_
    refine z_Vi (As := [.int a2, .int 0]) Z E hl.1 k_L_15 v_X7_sailingOf hf (fun r h' e => c_X7_sailingOf l G h h' a0 a2 0 r e) rfl rfl (Nat.le_of_ble_eq_true rfl) (zRm_of rfl (show _ ≤ 1 by omega) (show _ ≤ 64 by omega)) dL_tell_73 (fun v1 h2 H locs hf E => ?_)
    refine lv_imul Z.x Z.b dL_tell_76 ?_
    refine lv_sipush (v := 1000) Z.x Z.b dL_tell_77 (by decide) ?_
    refine lv_aload_n Z.x Z.b dL_tell_80 rfl (lv_at hl 0 rfl) ?_
    refine lv_iload_n Z.x Z.b dL_tell_81 rfl (lv_at hl 2 rfl) ?_
    refine lv_bipush (v := 6) Z.x Z.b dL_tell_82 (by decide) ?_
    refine z_Vi (As := [.int a2, .int 6]) Z E hl.1 k_L_15 v_X7_sailingOf hf (fun r h' e => c_X7_sailingOf l G h2 h' a0 a2 6 r e) rfl rfl (Nat.le_of_ble_eq_true rfl) (zRm_of rfl (show _ ≤ 1 by omega) (show _ ≤ 64 by omega)) dL_tell_84 (fun v3 h4 H locs hf E => ?_)
    refine lv_imul Z.x Z.b dL_tell_87 ?_
    refine lv_iadd Z.x Z.b dL_tell_88 ?_
    refine lv_aload_n Z.x Z.b dL_tell_89 rfl (lv_at hl 0 rfl) ?_
    refine lv_iload_n Z.x Z.b dL_tell_90 rfl (lv_at hl 2 rfl) ?_
    refine lv_iconst (v := 3) Z.x Z.b dL_tell_91 (by decide) ?_
    refine z_Vi (As := [.int a2, .int 3]) Z E hl.1 k_L_15 v_X7_sailingOf hf (fun r h' e => c_X7_sailingOf l G h4 h' a0 a2 3 r e) rfl rfl (Nat.le_of_ble_eq_true rfl) (zRm_of rfl (show _ ≤ 1 by omega) (show _ ≤ 64 by omega)) dL_tell_92 (fun v5 h6 H locs hf E => ?_)
    refine lv_iadd Z.x Z.b dL_tell_95 ?_
    refine z_iast Z E dL_tell_96 hf (fun h7 H locs hf E => ?_)
    refine lv_aload_n Z.x Z.b dL_tell_97 rfl (lv_at hl 1 rfl) ?_
    refine lv_bipush (v := 30) Z.x Z.b dL_tell_98 (by decide) ?_
    refine lv_iload_n Z.x Z.b dL_tell_100 rfl (lv_at hl 2 rfl) ?_
    refine lv_iadd Z.x Z.b dL_tell_101 ?_
    refine lv_sipush (v := 1000) Z.x Z.b dL_tell_102 (by decide) ?_
    refine lv_aload_n Z.x Z.b dL_tell_105 rfl (lv_at hl 0 rfl) ?_
    refine lv_iload_n Z.x Z.b dL_tell_106 rfl (lv_at hl 2 rfl) ?_
    refine lv_iconst (v := 0) Z.x Z.b dL_tell_107 (by decide) ?_
    refine lv_iconst (v := 0) Z.x Z.b dL_tell_108 (by decide) ?_
    refine z_Vi (As := [.int a2, .int 0, .int 0]) Z E hl.1 k_L_19 v_X7_crew hf (fun r h' e => c_X7_crew l G h7 h' a0 a2 0 0 r e) rfl rfl (Nat.le_of_ble_eq_true rfl) (zRm_of rfl (show _ ≤ 1 by omega) (show _ ≤ 64 by omega)) dL_tell_109 (fun v8 h9 H locs hf E => ?_)
    refine lv_imul Z.x Z.b dL_tell_112 ?_
    refine lv_aload_n Z.x Z.b dL_tell_113 rfl (lv_at hl 0 rfl) ?_
    refine lv_iload_n Z.x Z.b dL_tell_114 rfl (lv_at hl 2 rfl) ?_
    refine lv_iconst (v := 1) Z.x Z.b dL_tell_115 (by decide) ?_
    refine lv_iconst (v := 0) Z.x Z.b dL_tell_116 (by decide) ?_
    refine z_Vi (As := [.int a2, .int 1, .int 0]) Z E hl.1 k_L_19 v_X7_crew hf (fun r h' e => c_X7_crew l G h9 h' a0 a2 1 0 r e) rfl rfl (Nat.le_of_ble_eq_true rfl) (zRm_of rfl (show _ ≤ 1 by omega) (show _ ≤ 64 by omega)) dL_tell_117 (fun v10 h11 H locs hf E => ?_)
    refine lv_iadd Z.x Z.b dL_tell_120 ?_
    refine z_iast Z E dL_tell_121 hf (fun h12 H locs hf E => ?_)
    refine lv_iinc (v := (a2 + 1)) (lv' := [(2, .int (a2 + 1)), (0, .ref a0), (1, .ref a1)]) Z.x Z.b dL_tell_122 hl (k := 2) rfl rfl (by decide) rfl (fun ls hl => ?_)
    refine lv_goto (tgt := 56) Z.x Z.b dL_tell_125 (by decide) ?_
    exact k56 hf E (lv_sub hl [1, 2, 0] rfl) (by omega) (by omega)
theorem t_L_tell_56 {p : Program} {l : Launch} {e : Env} {s : State} {m : MethodId} {args : Array Value} {below : List Frame} {meth : Method} {c : Code} {G : zG} (Z : zF p s m args c meth cL_tell 3 RL G) (hr : meth.sig.returnType = (some (.array .int))) {out : Option Nat × zHp} : ∀ (n : Nat), ∀ {a0 : Nat} {a1 : Nat} {a2 : Int32} {h : zHp} {H : Heap} {locs : List Loc} {ls : Array Slot} {cells slots : Nat}, f_L_tell_56 n a0 a1 a2 h = some out → zE G s h H locs → lv_has ls 3 [(0, .ref a0), (1, .ref a1), (2, .int a2)] → cells + 0 ≤ 1 → slots + 0 ≤ 64 → W p l e rm_L_tell s m args below meth c H locs cells slots (MQ below (zQq G out.1 out.2) args s 1 64 (zA G)) (F0 m 56 ls [])
  | 0 => fun hf => by cases hf
  | n + 1 => fun hf E hl hc hs => t_L_tell_56_body Z hr (r56 := f_L_tell_56 n) (t_L_tell_56 Z hr n) hf E hl hc hs
set_option maxHeartbeats 4000000 in
set_option maxRecDepth 20000 in
theorem t_L_tell_29_body {p : Program} {l : Launch} {e : Env} {s : State} {m : MethodId} {args : Array Value} {below : List Frame} {meth : Method} {c : Code} {G : zG} (Z : zF p s m args c meth cL_tell 3 RL G) (hr : meth.sig.returnType = (some (.array .int))) {out : Option Nat × zHp} {r29 : Nat → Nat → Int32 → zHp → Option (Option Nat × zHp)} (k29 : ∀ {a0 : Nat} {a1 : Nat} {a2 : Int32} {h : zHp} {H : Heap} {locs : List Loc} {ls : Array Slot} {cells slots : Nat}, r29 a0 a1 a2 h = some out → zE G s h H locs → lv_has ls 3 [(0, .ref a0), (1, .ref a1), (2, .int a2)] → cells + 0 ≤ 1 → slots + 0 ≤ 64 → W p l e rm_L_tell s m args below meth c H locs cells slots (MQ below (zQq G out.1 out.2) args s 1 64 (zA G)) (F0 m 29 ls [])) {a0 : Nat} {a1 : Nat} {a2 : Int32} {h : zHp} {H : Heap} {locs : List Loc} {ls : Array Slot} {cells slots : Nat} (hf : f_L_tell_29_body r29 a0 a1 a2 h = some out) (E : zE G s h H locs) (hl : lv_has ls 3 [(0, .ref a0), (1, .ref a1), (2, .int a2)]) (hc : cells + 0 ≤ 1) (hs : slots + 0 ≤ 64) : W p l e rm_L_tell s m args below meth c H locs cells slots (MQ below (zQq G out.1 out.2) args s 1 64 (zA G)) (F0 m 29 ls []) := by
  unfold f_L_tell_29_body at hf
  refine lv_iload_n Z.x Z.b dL_tell_29 rfl (lv_at hl 2 rfl) ?_
  refine lv_iconst (v := 5) Z.x Z.b dL_tell_30 (by decide) ?_
  refine lv_icmp_ge (tgt := 54) Z.x Z.b dL_tell_31 (by decide) (fun c => ?_) (fun c => ?_)
  · have hf := zit hf c
    refine lv_iconst (v := 0) Z.x Z.b dL_tell_54 (by decide) ?_
    refine lv_istore_n (lv' := [(2, .int 0), (0, .ref a0), (1, .ref a1)]) Z.x Z.b dL_tell_55 rfl hl (by decide) rfl (fun ls hl => ?_)
    exact t_L_tell_56 Z hr zN hf E (lv_sub hl [1, 2, 0] rfl) (by omega) (by omega)
  · have hf := zif_ hf c
    refine lv_aload_n Z.x Z.b dL_tell_34 rfl (lv_at hl 1 rfl) ?_
    refine lv_bipush (v := 10) Z.x Z.b dL_tell_35 (by decide) ?_
    refine lv_iload_n Z.x Z.b dL_tell_37 rfl (lv_at hl 2 rfl) ?_
    refine lv_iadd Z.x Z.b dL_tell_38 ?_
    refine lv_aload_n Z.x Z.b dL_tell_39 rfl (lv_at hl 0 rfl) ?_
    refine lv_bipush (v := 13) Z.x Z.b dL_tell_40 (by decide) ?_
    refine lv_iload_n Z.x Z.b dL_tell_42 rfl (lv_at hl 2 rfl) ?_
    refine lv_iadd Z.x Z.b dL_tell_43 ?_
    refine z_Vi (As := [.int (13 + a2)]) Z E hl.1 k_L_9 v_X7_count hf (fun r h' e => c_X7_count l G h h' a0 (13 + a2) r e) rfl rfl (Nat.le_of_ble_eq_true rfl) (zRm_of rfl (show _ ≤ 1 by omega) (show _ ≤ 64 by omega)) dL_tell_44 (fun v1 h2 H locs hf E => ?_)
    refine z_iast Z E dL_tell_47 hf (fun h3 H locs hf E => ?_)
    refine lv_iinc (v := (a2 + 1)) (lv' := [(2, .int (a2 + 1)), (0, .ref a0), (1, .ref a1)]) Z.x Z.b dL_tell_48 hl (k := 2) rfl rfl (by decide) rfl (fun ls hl => ?_)
    refine lv_goto (tgt := 29) Z.x Z.b dL_tell_51 (by decide) ?_
    exact k29 hf E (lv_sub hl [1, 2, 0] rfl) (by omega) (by omega)
theorem t_L_tell_29 {p : Program} {l : Launch} {e : Env} {s : State} {m : MethodId} {args : Array Value} {below : List Frame} {meth : Method} {c : Code} {G : zG} (Z : zF p s m args c meth cL_tell 3 RL G) (hr : meth.sig.returnType = (some (.array .int))) {out : Option Nat × zHp} : ∀ (n : Nat), ∀ {a0 : Nat} {a1 : Nat} {a2 : Int32} {h : zHp} {H : Heap} {locs : List Loc} {ls : Array Slot} {cells slots : Nat}, f_L_tell_29 n a0 a1 a2 h = some out → zE G s h H locs → lv_has ls 3 [(0, .ref a0), (1, .ref a1), (2, .int a2)] → cells + 0 ≤ 1 → slots + 0 ≤ 64 → W p l e rm_L_tell s m args below meth c H locs cells slots (MQ below (zQq G out.1 out.2) args s 1 64 (zA G)) (F0 m 29 ls [])
  | 0 => fun hf => by cases hf
  | n + 1 => fun hf E hl hc hs => t_L_tell_29_body Z hr (r29 := f_L_tell_29 n) (t_L_tell_29 Z hr n) hf E hl hc hs
set_option maxHeartbeats 4000000 in
set_option maxRecDepth 20000 in
theorem t_L_tell_7_body {p : Program} {l : Launch} {e : Env} {s : State} {m : MethodId} {args : Array Value} {below : List Frame} {meth : Method} {c : Code} {G : zG} (Z : zF p s m args c meth cL_tell 3 RL G) (hr : meth.sig.returnType = (some (.array .int))) {out : Option Nat × zHp} {r7 : Nat → Nat → Int32 → zHp → Option (Option Nat × zHp)} (k7 : ∀ {a0 : Nat} {a1 : Nat} {a2 : Int32} {h : zHp} {H : Heap} {locs : List Loc} {ls : Array Slot} {cells slots : Nat}, r7 a0 a1 a2 h = some out → zE G s h H locs → lv_has ls 3 [(0, .ref a0), (1, .ref a1), (2, .int a2)] → cells + 0 ≤ 1 → slots + 0 ≤ 64 → W p l e rm_L_tell s m args below meth c H locs cells slots (MQ below (zQq G out.1 out.2) args s 1 64 (zA G)) (F0 m 7 ls [])) {a0 : Nat} {a1 : Nat} {a2 : Int32} {h : zHp} {H : Heap} {locs : List Loc} {ls : Array Slot} {cells slots : Nat} (hf : f_L_tell_7_body r7 a0 a1 a2 h = some out) (E : zE G s h H locs) (hl : lv_has ls 3 [(0, .ref a0), (1, .ref a1), (2, .int a2)]) (hc : cells + 0 ≤ 1) (hs : slots + 0 ≤ 64) : W p l e rm_L_tell s m args below meth c H locs cells slots (MQ below (zQq G out.1 out.2) args s 1 64 (zA G)) (F0 m 7 ls []) := by
  unfold f_L_tell_7_body at hf
  refine lv_iload_n Z.x Z.b dL_tell_7 rfl (lv_at hl 2 rfl) ?_
  refine lv_bipush (v := 10) Z.x Z.b dL_tell_8 (by decide) ?_
  refine lv_icmp_ge (tgt := 27) Z.x Z.b dL_tell_10 (by decide) (fun c => ?_) (fun c => ?_)
  · have hf := zit hf c
    refine lv_iconst (v := 0) Z.x Z.b dL_tell_27 (by decide) ?_
    refine lv_istore_n (lv' := [(2, .int 0), (0, .ref a0), (1, .ref a1)]) Z.x Z.b dL_tell_28 rfl hl (by decide) rfl (fun ls hl => ?_)
    exact t_L_tell_29 Z hr zN hf E (lv_sub hl [1, 2, 0] rfl) (by omega) (by omega)
  · have hf := zif_ hf c
    refine lv_aload_n Z.x Z.b dL_tell_13 rfl (lv_at hl 1 rfl) ?_
    refine lv_iload_n Z.x Z.b dL_tell_14 rfl (lv_at hl 2 rfl) ?_
    refine lv_aload_n Z.x Z.b dL_tell_15 rfl (lv_at hl 0 rfl) ?_
    refine lv_iload_n Z.x Z.b dL_tell_16 rfl (lv_at hl 2 rfl) ?_
    refine z_Vi (As := [.int a2]) Z E hl.1 k_L_9 v_X7_count hf (fun r h' e => c_X7_count l G h h' a0 a2 r e) rfl rfl (Nat.le_of_ble_eq_true rfl) (zRm_of rfl (show _ ≤ 1 by omega) (show _ ≤ 64 by omega)) dL_tell_17 (fun v1 h2 H locs hf E => ?_)
    refine z_iast Z E dL_tell_20 hf (fun h3 H locs hf E => ?_)
    refine lv_iinc (v := (a2 + 1)) (lv' := [(2, .int (a2 + 1)), (0, .ref a0), (1, .ref a1)]) Z.x Z.b dL_tell_21 hl (k := 2) rfl rfl (by decide) rfl (fun ls hl => ?_)
    refine lv_goto (tgt := 7) Z.x Z.b dL_tell_24 (by decide) ?_
    exact k7 hf E (lv_sub hl [1, 2, 0] rfl) (by omega) (by omega)
theorem t_L_tell_7 {p : Program} {l : Launch} {e : Env} {s : State} {m : MethodId} {args : Array Value} {below : List Frame} {meth : Method} {c : Code} {G : zG} (Z : zF p s m args c meth cL_tell 3 RL G) (hr : meth.sig.returnType = (some (.array .int))) {out : Option Nat × zHp} : ∀ (n : Nat), ∀ {a0 : Nat} {a1 : Nat} {a2 : Int32} {h : zHp} {H : Heap} {locs : List Loc} {ls : Array Slot} {cells slots : Nat}, f_L_tell_7 n a0 a1 a2 h = some out → zE G s h H locs → lv_has ls 3 [(0, .ref a0), (1, .ref a1), (2, .int a2)] → cells + 0 ≤ 1 → slots + 0 ≤ 64 → W p l e rm_L_tell s m args below meth c H locs cells slots (MQ below (zQq G out.1 out.2) args s 1 64 (zA G)) (F0 m 7 ls [])
  | 0 => fun hf => by cases hf
  | n + 1 => fun hf E hl hc hs => t_L_tell_7_body Z hr (r7 := f_L_tell_7 n) (t_L_tell_7 Z hr n) hf E hl hc hs
set_option maxHeartbeats 4000000 in
set_option maxRecDepth 20000 in
theorem t_L_tell {p : Program} {l : Launch} {e : Env} {s : State} {m : MethodId} {args : Array Value} {below : List Frame} {meth : Method} {c : Code} {G : zG} (Z : zF p s m args c meth cL_tell 3 RL G) (hr : meth.sig.returnType = (some (.array .int))) {out : Option Nat × zHp} {a0 : Nat} {h : zHp} {H : Heap} {locs : List Loc} {ls : Array Slot} {cells slots : Nat} (hf : f_L_tell a0 h = some out) (E : zE G s h H locs) (hl : lv_has ls 3 [(0, .ref a0)]) (hc : cells + 1 ≤ 1) (hs : slots + 64 ≤ 64) : W p l e rm_L_tell s m args below meth c H locs cells slots (MQ below (zQq G out.1 out.2) args s 1 64 (zA G)) (F0 m 0 ls []) := by
  unfold f_L_tell at hf
  refine lv_bipush (v := 64) Z.x Z.b dL_tell_0 (by decide) ?_
  refine z_newi (N := 64) Z E wr_0 (by decide) (by decide) (by decide) (show _ ≤ 1 by omega) (show _ ≤ 64 by omega) dL_tell_2 hf (fun q1 h2 H hf E => ?_)
  refine lv_astore_n (lv' := [(1, .ref q1), (0, .ref a0)]) Z.x Z.b dL_tell_4 rfl hl (by decide) rfl (fun ls hl => ?_)
  refine lv_iconst (v := 0) Z.x Z.b dL_tell_5 (by decide) ?_
  refine lv_istore_n (lv' := [(2, .int 0), (1, .ref q1), (0, .ref a0)]) Z.x Z.b dL_tell_6 rfl hl (by decide) rfl (fun ls hl => ?_)
  exact t_L_tell_7 Z hr zN hf E (lv_sub hl [2, 1, 0] rfl) (by omega) (by omega)
set_option maxHeartbeats 4000000 in
set_option maxRecDepth 20000 in
theorem c_L_tell (l : Launch) (G : zG) (h : zHp) (h' : zHp) (a0 : Nat) (r : Option Nat) (hf : f_L_tell a0 h = some (r, h')) : zMr l yL_tell cL_tell 3 (some (.array .int)) rm_L_tell 1 64 G [.ref a0] h (zQq G r h') := by
  refine Met.ofW (cc := cL_tell) (maxL := 3) (ret := (some (.array .int))) (by decide) rfl ?_
  intro p e s m args below meth c s₁ B hml hv
  obtain ⟨rfl, hW⟩ := hv
  obtain ⟨Z, E, hr⟩ := zEnter (own := RL) B hml rfl hW
  have hl := lv_entry ([.ref a0]) (n := 3) (Nat.le_of_ble_eq_true rfl)
  rw [lg_entry_eq]
  generalize (lg_sl ([.ref a0]) ++ List.replicate (3 - (lg_sl ([.ref a0])).length) Slot.unset).toArray = ls at hl ⊢
  have hl : lv_has ls 3 [(0, .ref a0)] := hl
  exact t_L_tell (out := (r, h')) Z hr hf E hl (by decide) (by decide)
/-! FerryCrewsLaw.same([I[I)Z -/
theorem dL_same_0 : decode cL_same 0 = .ok (.iconst 0, 1) := by decide +kernel
theorem dL_same_1 : decode cL_same 1 = .ok (.istore_n 2, 1) := by decide +kernel
theorem dL_same_2 : decode cL_same 2 = .ok (.iload_n 2, 1) := by decide +kernel
theorem dL_same_3 : decode cL_same 3 = .ok (.bipush 63, 2) := by decide +kernel
theorem dL_same_5 : decode cL_same 5 = .ok (.if_icmp .ge 20, 3) := by decide +kernel
theorem dL_same_8 : decode cL_same 8 = .ok (.aload_n 0, 1) := by decide +kernel
theorem dL_same_9 : decode cL_same 9 = .ok (.iload_n 2, 1) := by decide +kernel
theorem dL_same_10 : decode cL_same 10 = .ok (.iaload, 1) := by decide +kernel
theorem dL_same_11 : decode cL_same 11 = .ok (.aload_n 1, 1) := by decide +kernel
theorem dL_same_12 : decode cL_same 12 = .ok (.iload_n 2, 1) := by decide +kernel
theorem dL_same_13 : decode cL_same 13 = .ok (.iaload, 1) := by decide +kernel
theorem dL_same_14 : decode cL_same 14 = .ok (.if_icmp .eq 5, 3) := by decide +kernel
theorem dL_same_17 : decode cL_same 17 = .ok (.iconst 0, 1) := by decide +kernel
theorem dL_same_18 : decode cL_same 18 = .ok (.ireturn, 1) := by decide +kernel
theorem dL_same_19 : decode cL_same 19 = .ok (.iinc 2 1, 3) := by decide +kernel
theorem dL_same_22 : decode cL_same 22 = .ok (.goto (-20), 3) := by decide +kernel
theorem dL_same_25 : decode cL_same 25 = .ok (.iconst 1, 1) := by decide +kernel
theorem dL_same_26 : decode cL_same 26 = .ok (.ireturn, 1) := by decide +kernel
def rm_L_same : Room := { frames := 0, cells := 0, slots := 0, locals := 0 }
set_option maxHeartbeats 4000000 in
set_option maxRecDepth 20000 in
theorem t_L_same_2_body {p : Program} {l : Launch} {e : Env} {s : State} {m : MethodId} {args : Array Value} {below : List Frame} {meth : Method} {c : Code} {G : zG} (Z : zF p s m args c meth cL_same 3 RL G) (hr : meth.sig.returnType = (some .boolean)) {out : Int32 × zHp} {r2 : Nat → Nat → Int32 → zHp → Option (Int32 × zHp)} (k2 : ∀ {a0 : Nat} {a1 : Nat} {a2 : Int32} {h : zHp} {H : Heap} {locs : List Loc} {ls : Array Slot}, r2 a0 a1 a2 h = some out → zE G s h H locs → lv_has ls 3 [(0, .ref a0), (1, .ref a1), (2, .int a2)] → W p l e rm_L_same s m args below meth c H locs 0 0 (MQ below (zQi G out.1 out.2) args s 0 0 (zA G)) (F0 m 2 ls [])) {a0 : Nat} {a1 : Nat} {a2 : Int32} {h : zHp} {H : Heap} {locs : List Loc} {ls : Array Slot} (hf : f_L_same_2_body r2 a0 a1 a2 h = some out) (E : zE G s h H locs) (hl : lv_has ls 3 [(0, .ref a0), (1, .ref a1), (2, .int a2)]) : W p l e rm_L_same s m args below meth c H locs 0 0 (MQ below (zQi G out.1 out.2) args s 0 0 (zA G)) (F0 m 2 ls []) := by
  unfold f_L_same_2_body at hf
  refine lv_iload_n Z.x Z.b dL_same_2 rfl (lv_at hl 2 rfl) ?_
  refine lv_bipush (v := 63) Z.x Z.b dL_same_3 (by decide) ?_
  refine lv_icmp_ge (tgt := 25) Z.x Z.b dL_same_5 (by decide) (fun c => ?_) (fun c => ?_)
  · have hf := zit hf c
    refine lv_iconst (v := 1) Z.x Z.b dL_same_25 (by decide) ?_
    exact z_zret Z E hr dL_same_26 hf
  · have hf := zif_ hf c
    refine lv_aload_n Z.x Z.b dL_same_8 rfl (lv_at hl 0 rfl) ?_
    refine lv_iload_n Z.x Z.b dL_same_9 rfl (lv_at hl 2 rfl) ?_
    refine z_iald Z E dL_same_10 hf (fun v1 hf => ?_)
    refine lv_aload_n Z.x Z.b dL_same_11 rfl (lv_at hl 1 rfl) ?_
    refine lv_iload_n Z.x Z.b dL_same_12 rfl (lv_at hl 2 rfl) ?_
    refine z_iald Z E dL_same_13 hf (fun v2 hf => ?_)
    refine lv_icmp_eq (tgt := 19) Z.x Z.b dL_same_14 (by decide) (fun c => ?_) (fun c => ?_)
    · have hf := zit hf c
      refine lv_iinc (v := (a2 + 1)) (lv' := [(2, .int (a2 + 1)), (0, .ref a0), (1, .ref a1)]) Z.x Z.b dL_same_19 hl (k := 2) rfl rfl (by decide) rfl (fun ls hl => ?_)
      refine lv_goto (tgt := 2) Z.x Z.b dL_same_22 (by decide) ?_
      exact k2 hf E (lv_sub hl [1, 2, 0] rfl)
    · have hf := zif_ hf c
      refine lv_iconst (v := 0) Z.x Z.b dL_same_17 (by decide) ?_
      exact z_zret Z E hr dL_same_18 hf
theorem t_L_same_2 {p : Program} {l : Launch} {e : Env} {s : State} {m : MethodId} {args : Array Value} {below : List Frame} {meth : Method} {c : Code} {G : zG} (Z : zF p s m args c meth cL_same 3 RL G) (hr : meth.sig.returnType = (some .boolean)) {out : Int32 × zHp} : ∀ (n : Nat), ∀ {a0 : Nat} {a1 : Nat} {a2 : Int32} {h : zHp} {H : Heap} {locs : List Loc} {ls : Array Slot}, f_L_same_2 n a0 a1 a2 h = some out → zE G s h H locs → lv_has ls 3 [(0, .ref a0), (1, .ref a1), (2, .int a2)] → W p l e rm_L_same s m args below meth c H locs 0 0 (MQ below (zQi G out.1 out.2) args s 0 0 (zA G)) (F0 m 2 ls [])
  | 0 => fun hf => by cases hf
  | n + 1 => fun hf E hl => t_L_same_2_body Z hr (r2 := f_L_same_2 n) (t_L_same_2 Z hr n) hf E hl
set_option maxHeartbeats 4000000 in
set_option maxRecDepth 20000 in
theorem t_L_same {p : Program} {l : Launch} {e : Env} {s : State} {m : MethodId} {args : Array Value} {below : List Frame} {meth : Method} {c : Code} {G : zG} (Z : zF p s m args c meth cL_same 3 RL G) (hr : meth.sig.returnType = (some .boolean)) {out : Int32 × zHp} {a0 : Nat} {a1 : Nat} {h : zHp} {H : Heap} {locs : List Loc} {ls : Array Slot} (hf : f_L_same a0 a1 h = some out) (E : zE G s h H locs) (hl : lv_has ls 3 [(0, .ref a0), (1, .ref a1)]) : W p l e rm_L_same s m args below meth c H locs 0 0 (MQ below (zQi G out.1 out.2) args s 0 0 (zA G)) (F0 m 0 ls []) := by
  unfold f_L_same at hf
  refine lv_iconst (v := 0) Z.x Z.b dL_same_0 (by decide) ?_
  refine lv_istore_n (lv' := [(2, .int 0), (0, .ref a0), (1, .ref a1)]) Z.x Z.b dL_same_1 rfl hl (by decide) rfl (fun ls hl => ?_)
  exact t_L_same_2 Z hr zN hf E (lv_sub hl [1, 2, 0] rfl)
set_option maxHeartbeats 4000000 in
set_option maxRecDepth 20000 in
theorem c_L_same (l : Launch) (G : zG) (h : zHp) (h' : zHp) (a0 : Nat) (a1 : Nat) (r : Int32) (hf : f_L_same a0 a1 h = some (r, h')) : zM0 l yL_same cL_same 3 (some .boolean) rm_L_same G [.ref a0, .ref a1] h (zQi G r h') := by
  refine Met.ofW (cc := cL_same) (maxL := 3) (ret := (some .boolean)) (by decide) rfl ?_
  intro p e s m args below meth c s₁ B hml hv
  obtain ⟨rfl, hW⟩ := hv
  obtain ⟨Z, E, hr⟩ := zEnter (own := RL) B hml rfl hW
  have hl := lv_entry ([.ref a0, .ref a1]) (n := 3) (Nat.le_of_ble_eq_true rfl)
  rw [lg_entry_eq]
  generalize (lg_sl ([.ref a0, .ref a1]) ++ List.replicate (3 - (lg_sl ([.ref a0, .ref a1])).length) Slot.unset).toArray = ls at hl ⊢
  have hl : lv_has ls 3 [(0, .ref a0), (1, .ref a1)] := hl
  exact t_L_same (out := (r, h')) Z hr hf E hl
/-! FerryCrewsLaw.sailings(LFerryCrews;)Z -/
theorem dL_sailings_0 : decode cL_sailings 0 = .ok (.iconst 0, 1) := by decide +kernel
theorem dL_sailings_1 : decode cL_sailings 1 = .ok (.istore_n 1, 1) := by decide +kernel
theorem dL_sailings_2 : decode cL_sailings 2 = .ok (.iconst 0, 1) := by decide +kernel
theorem dL_sailings_3 : decode cL_sailings 3 = .ok (.istore_n 2, 1) := by decide +kernel
theorem dL_sailings_4 : decode cL_sailings 4 = .ok (.iconst 0, 1) := by decide +kernel
theorem dL_sailings_5 : decode cL_sailings 5 = .ok (.istore_n 3, 1) := by decide +kernel
theorem dL_sailings_6 : decode cL_sailings 6 = .ok (.iload_n 3, 1) := by decide +kernel
theorem dL_sailings_7 : decode cL_sailings 7 = .ok (.aload_n 0, 1) := by decide +kernel
theorem dL_sailings_8 : decode cL_sailings 8 = .ok (.iconst 1, 1) := by decide +kernel
theorem dL_sailings_9 : decode cL_sailings 9 = .ok (.invokevirtual 9, 3) := by decide +kernel
theorem dL_sailings_12 : decode cL_sailings 12 = .ok (.if_icmp .ge 301, 3) := by decide +kernel
theorem dL_sailings_15 : decode cL_sailings 15 = .ok (.aload_n 0, 1) := by decide +kernel
theorem dL_sailings_16 : decode cL_sailings 16 = .ok (.iload_n 3, 1) := by decide +kernel
theorem dL_sailings_17 : decode cL_sailings 17 = .ok (.iconst 0, 1) := by decide +kernel
theorem dL_sailings_18 : decode cL_sailings 18 = .ok (.invokevirtual 15, 3) := by decide +kernel
theorem dL_sailings_21 : decode cL_sailings 21 = .ok (.istore 4, 2) := by decide +kernel
theorem dL_sailings_23 : decode cL_sailings 23 = .ok (.aload_n 0, 1) := by decide +kernel
theorem dL_sailings_24 : decode cL_sailings 24 = .ok (.iload_n 3, 1) := by decide +kernel
theorem dL_sailings_25 : decode cL_sailings 25 = .ok (.iconst 5, 1) := by decide +kernel
theorem dL_sailings_26 : decode cL_sailings 26 = .ok (.invokevirtual 15, 3) := by decide +kernel
theorem dL_sailings_29 : decode cL_sailings 29 = .ok (.istore 5, 2) := by decide +kernel
theorem dL_sailings_31 : decode cL_sailings 31 = .ok (.iconst 0, 1) := by decide +kernel
theorem dL_sailings_32 : decode cL_sailings 32 = .ok (.istore 6, 2) := by decide +kernel
theorem dL_sailings_34 : decode cL_sailings 34 = .ok (.aload_n 0, 1) := by decide +kernel
theorem dL_sailings_35 : decode cL_sailings 35 = .ok (.iload_n 3, 1) := by decide +kernel
theorem dL_sailings_36 : decode cL_sailings 36 = .ok (.iload 6, 2) := by decide +kernel
theorem dL_sailings_38 : decode cL_sailings 38 = .ok (.iconst 0, 1) := by decide +kernel
theorem dL_sailings_39 : decode cL_sailings 39 = .ok (.invokevirtual 19, 3) := by decide +kernel
theorem dL_sailings_42 : decode cL_sailings 42 = .ok (.ifCond .lt 174, 3) := by decide +kernel
theorem dL_sailings_45 : decode cL_sailings 45 = .ok (.aload_n 0, 1) := by decide +kernel
theorem dL_sailings_46 : decode cL_sailings 46 = .ok (.iload_n 3, 1) := by decide +kernel
theorem dL_sailings_47 : decode cL_sailings 47 = .ok (.iload 6, 2) := by decide +kernel
theorem dL_sailings_49 : decode cL_sailings 49 = .ok (.iconst 0, 1) := by decide +kernel
theorem dL_sailings_50 : decode cL_sailings 50 = .ok (.invokevirtual 19, 3) := by decide +kernel
theorem dL_sailings_53 : decode cL_sailings 53 = .ok (.istore 7, 2) := by decide +kernel
theorem dL_sailings_55 : decode cL_sailings 55 = .ok (.aload_n 0, 1) := by decide +kernel
theorem dL_sailings_56 : decode cL_sailings 56 = .ok (.iload_n 3, 1) := by decide +kernel
theorem dL_sailings_57 : decode cL_sailings 57 = .ok (.iload 6, 2) := by decide +kernel
theorem dL_sailings_59 : decode cL_sailings 59 = .ok (.iconst 1, 1) := by decide +kernel
theorem dL_sailings_60 : decode cL_sailings 60 = .ok (.invokevirtual 19, 3) := by decide +kernel
theorem dL_sailings_63 : decode cL_sailings 63 = .ok (.istore 8, 2) := by decide +kernel
theorem dL_sailings_65 : decode cL_sailings 65 = .ok (.iload 6, 2) := by decide +kernel
theorem dL_sailings_67 : decode cL_sailings 67 = .ok (.ifCond .le 50, 3) := by decide +kernel
theorem dL_sailings_70 : decode cL_sailings 70 = .ok (.aload_n 0, 1) := by decide +kernel
theorem dL_sailings_71 : decode cL_sailings 71 = .ok (.iload_n 3, 1) := by decide +kernel
theorem dL_sailings_72 : decode cL_sailings 72 = .ok (.iload 6, 2) := by decide +kernel
theorem dL_sailings_74 : decode cL_sailings 74 = .ok (.iconst 1, 1) := by decide +kernel
theorem dL_sailings_75 : decode cL_sailings 75 = .ok (.isub, 1) := by decide +kernel
theorem dL_sailings_76 : decode cL_sailings 76 = .ok (.iconst 1, 1) := by decide +kernel
theorem dL_sailings_77 : decode cL_sailings 77 = .ok (.invokevirtual 19, 3) := by decide +kernel
theorem dL_sailings_80 : decode cL_sailings 80 = .ok (.iload 8, 2) := by decide +kernel
theorem dL_sailings_82 : decode cL_sailings 82 = .ok (.if_icmp .gt 33, 3) := by decide +kernel
theorem dL_sailings_85 : decode cL_sailings 85 = .ok (.aload_n 0, 1) := by decide +kernel
theorem dL_sailings_86 : decode cL_sailings 86 = .ok (.iload_n 3, 1) := by decide +kernel
theorem dL_sailings_87 : decode cL_sailings 87 = .ok (.iload 6, 2) := by decide +kernel
theorem dL_sailings_89 : decode cL_sailings 89 = .ok (.iconst 1, 1) := by decide +kernel
theorem dL_sailings_90 : decode cL_sailings 90 = .ok (.isub, 1) := by decide +kernel
theorem dL_sailings_91 : decode cL_sailings 91 = .ok (.iconst 1, 1) := by decide +kernel
theorem dL_sailings_92 : decode cL_sailings 92 = .ok (.invokevirtual 19, 3) := by decide +kernel
theorem dL_sailings_95 : decode cL_sailings 95 = .ok (.iload 8, 2) := by decide +kernel
theorem dL_sailings_97 : decode cL_sailings 97 = .ok (.if_icmp .ne 20, 3) := by decide +kernel
theorem dL_sailings_100 : decode cL_sailings 100 = .ok (.aload_n 0, 1) := by decide +kernel
theorem dL_sailings_101 : decode cL_sailings 101 = .ok (.iload_n 3, 1) := by decide +kernel
theorem dL_sailings_102 : decode cL_sailings 102 = .ok (.iload 6, 2) := by decide +kernel
theorem dL_sailings_104 : decode cL_sailings 104 = .ok (.iconst 1, 1) := by decide +kernel
theorem dL_sailings_105 : decode cL_sailings 105 = .ok (.isub, 1) := by decide +kernel
theorem dL_sailings_106 : decode cL_sailings 106 = .ok (.iconst 0, 1) := by decide +kernel
theorem dL_sailings_107 : decode cL_sailings 107 = .ok (.invokevirtual 19, 3) := by decide +kernel
theorem dL_sailings_110 : decode cL_sailings 110 = .ok (.iload 7, 2) := by decide +kernel
theorem dL_sailings_112 : decode cL_sailings 112 = .ok (.if_icmp .lt 5, 3) := by decide +kernel
theorem dL_sailings_115 : decode cL_sailings 115 = .ok (.iconst 0, 1) := by decide +kernel
theorem dL_sailings_116 : decode cL_sailings 116 = .ok (.ireturn, 1) := by decide +kernel
theorem dL_sailings_117 : decode cL_sailings 117 = .ok (.iload 4, 2) := by decide +kernel
theorem dL_sailings_119 : decode cL_sailings 119 = .ok (.ifCond .ne 50, 3) := by decide +kernel
theorem dL_sailings_122 : decode cL_sailings 122 = .ok (.aload_n 0, 1) := by decide +kernel
theorem dL_sailings_123 : decode cL_sailings 123 = .ok (.iload 7, 2) := by decide +kernel
theorem dL_sailings_125 : decode cL_sailings 125 = .ok (.iload 8, 2) := by decide +kernel
theorem dL_sailings_127 : decode cL_sailings 127 = .ok (.invokevirtual 23, 3) := by decide +kernel
theorem dL_sailings_130 : decode cL_sailings 130 = .ok (.aload_n 0, 1) := by decide +kernel
theorem dL_sailings_131 : decode cL_sailings 131 = .ok (.iload_n 3, 1) := by decide +kernel
theorem dL_sailings_132 : decode cL_sailings 132 = .ok (.iconst 3, 1) := by decide +kernel
theorem dL_sailings_133 : decode cL_sailings 133 = .ok (.invokevirtual 15, 3) := by decide +kernel
theorem dL_sailings_136 : decode cL_sailings 136 = .ok (.if_icmp .lt 31, 3) := by decide +kernel
theorem dL_sailings_139 : decode cL_sailings 139 = .ok (.aload_n 0, 1) := by decide +kernel
theorem dL_sailings_140 : decode cL_sailings 140 = .ok (.iload 7, 2) := by decide +kernel
theorem dL_sailings_142 : decode cL_sailings 142 = .ok (.iconst 4, 1) := by decide +kernel
theorem dL_sailings_143 : decode cL_sailings 143 = .ok (.invokevirtual 23, 3) := by decide +kernel
theorem dL_sailings_146 : decode cL_sailings 146 = .ok (.aload_n 0, 1) := by decide +kernel
theorem dL_sailings_147 : decode cL_sailings 147 = .ok (.iload_n 3, 1) := by decide +kernel
theorem dL_sailings_148 : decode cL_sailings 148 = .ok (.iconst 2, 1) := by decide +kernel
theorem dL_sailings_149 : decode cL_sailings 149 = .ok (.invokevirtual 15, 3) := by decide +kernel
theorem dL_sailings_152 : decode cL_sailings 152 = .ok (.if_icmp .gt 15, 3) := by decide +kernel
theorem dL_sailings_155 : decode cL_sailings 155 = .ok (.aload_n 0, 1) := by decide +kernel
theorem dL_sailings_156 : decode cL_sailings 156 = .ok (.iload 7, 2) := by decide +kernel
theorem dL_sailings_158 : decode cL_sailings 158 = .ok (.iload_n 3, 1) := by decide +kernel
theorem dL_sailings_159 : decode cL_sailings 159 = .ok (.iload 8, 2) := by decide +kernel
theorem dL_sailings_161 : decode cL_sailings 161 = .ok (.invokevirtual 29, 3) := by decide +kernel
theorem dL_sailings_164 : decode cL_sailings 164 = .ok (.ifCond .ne 5, 3) := by decide +kernel
theorem dL_sailings_167 : decode cL_sailings 167 = .ok (.iconst 0, 1) := by decide +kernel
theorem dL_sailings_168 : decode cL_sailings 168 = .ok (.ireturn, 1) := by decide +kernel
theorem dL_sailings_169 : decode cL_sailings 169 = .ok (.aload_n 0, 1) := by decide +kernel
theorem dL_sailings_170 : decode cL_sailings 170 = .ok (.iload_n 3, 1) := by decide +kernel
theorem dL_sailings_171 : decode cL_sailings 171 = .ok (.iload 6, 2) := by decide +kernel
theorem dL_sailings_173 : decode cL_sailings 173 = .ok (.iconst 2, 1) := by decide +kernel
theorem dL_sailings_174 : decode cL_sailings 174 = .ok (.invokevirtual 19, 3) := by decide +kernel
theorem dL_sailings_177 : decode cL_sailings 177 = .ok (.istore 9, 2) := by decide +kernel
theorem dL_sailings_179 : decode cL_sailings 179 = .ok (.iload 9, 2) := by decide +kernel
theorem dL_sailings_181 : decode cL_sailings 181 = .ok (.aload_n 0, 1) := by decide +kernel
theorem dL_sailings_182 : decode cL_sailings 182 = .ok (.iload_n 3, 1) := by decide +kernel
theorem dL_sailings_183 : decode cL_sailings 183 = .ok (.iconst 2, 1) := by decide +kernel
theorem dL_sailings_184 : decode cL_sailings 184 = .ok (.invokevirtual 15, 3) := by decide +kernel
theorem dL_sailings_187 : decode cL_sailings 187 = .ok (.if_icmp .eq 16, 3) := by decide +kernel
theorem dL_sailings_190 : decode cL_sailings 190 = .ok (.iload 9, 2) := by decide +kernel
theorem dL_sailings_192 : decode cL_sailings 192 = .ok (.aload_n 0, 1) := by decide +kernel
theorem dL_sailings_193 : decode cL_sailings 193 = .ok (.iload_n 3, 1) := by decide +kernel
theorem dL_sailings_194 : decode cL_sailings 194 = .ok (.iconst 2, 1) := by decide +kernel
theorem dL_sailings_195 : decode cL_sailings 195 = .ok (.invokevirtual 15, 3) := by decide +kernel
theorem dL_sailings_198 : decode cL_sailings 198 = .ok (.iconst 1, 1) := by decide +kernel
theorem dL_sailings_199 : decode cL_sailings 199 = .ok (.isub, 1) := by decide +kernel
theorem dL_sailings_200 : decode cL_sailings 200 = .ok (.if_icmp .ne 8, 3) := by decide +kernel
theorem dL_sailings_203 : decode cL_sailings 203 = .ok (.iload 9, 2) := by decide +kernel
theorem dL_sailings_205 : decode cL_sailings 205 = .ok (.ifCond .ge 5, 3) := by decide +kernel
theorem dL_sailings_208 : decode cL_sailings 208 = .ok (.iconst 0, 1) := by decide +kernel
theorem dL_sailings_209 : decode cL_sailings 209 = .ok (.ireturn, 1) := by decide +kernel
theorem dL_sailings_210 : decode cL_sailings 210 = .ok (.iinc 6 1, 3) := by decide +kernel
theorem dL_sailings_213 : decode cL_sailings 213 = .ok (.goto (-179), 3) := by decide +kernel
theorem dL_sailings_216 : decode cL_sailings 216 = .ok (.aload_n 0, 1) := by decide +kernel
theorem dL_sailings_217 : decode cL_sailings 217 = .ok (.iload_n 3, 1) := by decide +kernel
theorem dL_sailings_218 : decode cL_sailings 218 = .ok (.bipush 6, 2) := by decide +kernel
theorem dL_sailings_220 : decode cL_sailings 220 = .ok (.invokevirtual 15, 3) := by decide +kernel
theorem dL_sailings_223 : decode cL_sailings 223 = .ok (.iload 5, 2) := by decide +kernel
theorem dL_sailings_225 : decode cL_sailings 225 = .ok (.iload 6, 2) := by decide +kernel
theorem dL_sailings_227 : decode cL_sailings 227 = .ok (.isub, 1) := by decide +kernel
theorem dL_sailings_228 : decode cL_sailings 228 = .ok (.if_icmp .ne 46, 3) := by decide +kernel
theorem dL_sailings_231 : decode cL_sailings 231 = .ok (.iload 4, 2) := by decide +kernel
theorem dL_sailings_233 : decode cL_sailings 233 = .ok (.iconst 1, 1) := by decide +kernel
theorem dL_sailings_234 : decode cL_sailings 234 = .ok (.if_icmp .ne 10, 3) := by decide +kernel
theorem dL_sailings_237 : decode cL_sailings 237 = .ok (.iload 6, 2) := by decide +kernel
theorem dL_sailings_239 : decode cL_sailings 239 = .ok (.iload 5, 2) := by decide +kernel
theorem dL_sailings_241 : decode cL_sailings 241 = .ok (.if_icmp .ne 33, 3) := by decide +kernel
theorem dL_sailings_244 : decode cL_sailings 244 = .ok (.iload 4, 2) := by decide +kernel
theorem dL_sailings_246 : decode cL_sailings 246 = .ok (.iconst 2, 1) := by decide +kernel
theorem dL_sailings_247 : decode cL_sailings 247 = .ok (.if_icmp .ne 8, 3) := by decide +kernel
theorem dL_sailings_250 : decode cL_sailings 250 = .ok (.iload 6, 2) := by decide +kernel
theorem dL_sailings_252 : decode cL_sailings 252 = .ok (.ifCond .ne 22, 3) := by decide +kernel
theorem dL_sailings_255 : decode cL_sailings 255 = .ok (.iload 4, 2) := by decide +kernel
theorem dL_sailings_257 : decode cL_sailings 257 = .ok (.ifCond .ne 19, 3) := by decide +kernel
theorem dL_sailings_260 : decode cL_sailings 260 = .ok (.aload_n 0, 1) := by decide +kernel
theorem dL_sailings_261 : decode cL_sailings 261 = .ok (.iload_n 3, 1) := by decide +kernel
theorem dL_sailings_262 : decode cL_sailings 262 = .ok (.iconst 2, 1) := by decide +kernel
theorem dL_sailings_263 : decode cL_sailings 263 = .ok (.invokevirtual 15, 3) := by decide +kernel
theorem dL_sailings_266 : decode cL_sailings 266 = .ok (.aload_n 0, 1) := by decide +kernel
theorem dL_sailings_267 : decode cL_sailings 267 = .ok (.iconst 0, 1) := by decide +kernel
theorem dL_sailings_268 : decode cL_sailings 268 = .ok (.invokevirtual 9, 3) := by decide +kernel
theorem dL_sailings_271 : decode cL_sailings 271 = .ok (.if_icmp .ge 5, 3) := by decide +kernel
theorem dL_sailings_274 : decode cL_sailings 274 = .ok (.iconst 0, 1) := by decide +kernel
theorem dL_sailings_275 : decode cL_sailings 275 = .ok (.ireturn, 1) := by decide +kernel
theorem dL_sailings_276 : decode cL_sailings 276 = .ok (.iload_n 1, 1) := by decide +kernel
theorem dL_sailings_277 : decode cL_sailings 277 = .ok (.iload 4, 2) := by decide +kernel
theorem dL_sailings_279 : decode cL_sailings 279 = .ok (.ifCond .ne 11, 3) := by decide +kernel
theorem dL_sailings_282 : decode cL_sailings 282 = .ok (.iload 5, 2) := by decide +kernel
theorem dL_sailings_284 : decode cL_sailings 284 = .ok (.iload 6, 2) := by decide +kernel
theorem dL_sailings_286 : decode cL_sailings 286 = .ok (.isub, 1) := by decide +kernel
theorem dL_sailings_287 : decode cL_sailings 287 = .ok (.goto 4, 3) := by decide +kernel
theorem dL_sailings_290 : decode cL_sailings 290 = .ok (.iconst 0, 1) := by decide +kernel
theorem dL_sailings_291 : decode cL_sailings 291 = .ok (.iadd, 1) := by decide +kernel
theorem dL_sailings_292 : decode cL_sailings 292 = .ok (.istore_n 1, 1) := by decide +kernel
theorem dL_sailings_293 : decode cL_sailings 293 = .ok (.iload_n 2, 1) := by decide +kernel
theorem dL_sailings_294 : decode cL_sailings 294 = .ok (.iload 4, 2) := by decide +kernel
theorem dL_sailings_296 : decode cL_sailings 296 = .ok (.ifCond .ne 8, 3) := by decide +kernel
theorem dL_sailings_299 : decode cL_sailings 299 = .ok (.iload 6, 2) := by decide +kernel
theorem dL_sailings_301 : decode cL_sailings 301 = .ok (.goto 4, 3) := by decide +kernel
theorem dL_sailings_304 : decode cL_sailings 304 = .ok (.iconst 0, 1) := by decide +kernel
theorem dL_sailings_305 : decode cL_sailings 305 = .ok (.iadd, 1) := by decide +kernel
theorem dL_sailings_306 : decode cL_sailings 306 = .ok (.istore_n 2, 1) := by decide +kernel
theorem dL_sailings_307 : decode cL_sailings 307 = .ok (.iinc 3 1, 3) := by decide +kernel
theorem dL_sailings_310 : decode cL_sailings 310 = .ok (.goto (-304), 3) := by decide +kernel
theorem dL_sailings_313 : decode cL_sailings 313 = .ok (.iload_n 1, 1) := by decide +kernel
theorem dL_sailings_314 : decode cL_sailings 314 = .ok (.aload_n 0, 1) := by decide +kernel
theorem dL_sailings_315 : decode cL_sailings 315 = .ok (.bipush 7, 2) := by decide +kernel
theorem dL_sailings_317 : decode cL_sailings 317 = .ok (.invokevirtual 9, 3) := by decide +kernel
theorem dL_sailings_320 : decode cL_sailings 320 = .ok (.if_icmp .ne 42, 3) := by decide +kernel
theorem dL_sailings_323 : decode cL_sailings 323 = .ok (.iload_n 2, 1) := by decide +kernel
theorem dL_sailings_324 : decode cL_sailings 324 = .ok (.aload_n 0, 1) := by decide +kernel
theorem dL_sailings_325 : decode cL_sailings 325 = .ok (.bipush 8, 2) := by decide +kernel
theorem dL_sailings_327 : decode cL_sailings 327 = .ok (.invokevirtual 9, 3) := by decide +kernel
theorem dL_sailings_330 : decode cL_sailings 330 = .ok (.if_icmp .ne 32, 3) := by decide +kernel
theorem dL_sailings_333 : decode cL_sailings 333 = .ok (.aload_n 0, 1) := by decide +kernel
theorem dL_sailings_334 : decode cL_sailings 334 = .ok (.iconst 2, 1) := by decide +kernel
theorem dL_sailings_335 : decode cL_sailings 335 = .ok (.invokevirtual 9, 3) := by decide +kernel
theorem dL_sailings_338 : decode cL_sailings 338 = .ok (.aload_n 0, 1) := by decide +kernel
theorem dL_sailings_339 : decode cL_sailings 339 = .ok (.iconst 3, 1) := by decide +kernel
theorem dL_sailings_340 : decode cL_sailings 340 = .ok (.invokevirtual 9, 3) := by decide +kernel
theorem dL_sailings_343 : decode cL_sailings 343 = .ok (.iadd, 1) := by decide +kernel
theorem dL_sailings_344 : decode cL_sailings 344 = .ok (.aload_n 0, 1) := by decide +kernel
theorem dL_sailings_345 : decode cL_sailings 345 = .ok (.iconst 4, 1) := by decide +kernel
theorem dL_sailings_346 : decode cL_sailings 346 = .ok (.invokevirtual 9, 3) := by decide +kernel
theorem dL_sailings_349 : decode cL_sailings 349 = .ok (.iadd, 1) := by decide +kernel
theorem dL_sailings_350 : decode cL_sailings 350 = .ok (.aload_n 0, 1) := by decide +kernel
theorem dL_sailings_351 : decode cL_sailings 351 = .ok (.iconst 1, 1) := by decide +kernel
theorem dL_sailings_352 : decode cL_sailings 352 = .ok (.invokevirtual 9, 3) := by decide +kernel
theorem dL_sailings_355 : decode cL_sailings 355 = .ok (.if_icmp .ne 7, 3) := by decide +kernel
theorem dL_sailings_358 : decode cL_sailings 358 = .ok (.iconst 1, 1) := by decide +kernel
theorem dL_sailings_359 : decode cL_sailings 359 = .ok (.goto 4, 3) := by decide +kernel
theorem dL_sailings_362 : decode cL_sailings 362 = .ok (.iconst 0, 1) := by decide +kernel
theorem dL_sailings_363 : decode cL_sailings 363 = .ok (.ireturn, 1) := by decide +kernel
set_option maxRecDepth 20000 in
theorem wc_X7_why : Cond.code yX7_why cX7_why 5 (some .int) ∈ zB := List.mem_filter.mpr ⟨List.mem_of_getElem? (i := 388) (by decide +kernel), by decide +kernel⟩
set_option maxRecDepth 20000 in
theorem wm_L_29 : Cond.methodLink RL 29 yX7_why ∈ zB := List.mem_filter.mpr ⟨List.mem_of_getElem? (i := 385) (by decide +kernel), by decide +kernel⟩
theorem k_L_29 : zCal RL 29 yX7_why cX7_why 5 (some .int) 3 := ⟨wm_L_29, wi_X7, wc_X7_why, by decide +kernel, by decide +kernel, by decide +kernel⟩
set_option maxRecDepth 20000 in
theorem wn_X7_why : Cond.instanceMethod yX7_why ∈ zB := List.mem_filter.mpr ⟨List.mem_of_getElem? (i := 386) (by decide +kernel), by decide +kernel⟩
set_option maxRecDepth 20000 in
theorem ws_X7_why : Cond.selects RX7 yX7_why yX7_why ∈ zB := List.mem_filter.mpr ⟨List.mem_of_getElem? (i := 387) (by decide +kernel), by decide +kernel⟩
theorem v_X7_why : zVir yX7_why 7 := ⟨wn_X7_why, ws_X7_why, TX7, 6, rfl⟩
def rm_L_sailings : Room := { frames := 6, cells := 0, slots := 0, locals := 137 }
set_option maxHeartbeats 4000000 in
set_option maxRecDepth 20000 in
theorem t_L_sailings_362 {p : Program} {l : Launch} {e : Env} {s : State} {m : MethodId} {args : Array Value} {below : List Frame} {meth : Method} {c : Code} {G : zG} (Z : zF p s m args c meth cL_sailings 10 RL G) (hr : meth.sig.returnType = (some .boolean)) {out : Int32 × zHp} {h : zHp} {H : Heap} {locs : List Loc} {ls : Array Slot} (hf : f_L_sailings_362 h = some out) (E : zE G s h H locs) (hl : lv_has ls 10 []) : W p l e rm_L_sailings s m args below meth c H locs 0 0 (MQ below (zQi G out.1 out.2) args s 0 0 (zA G)) (F0 m 362 ls []) := by
  unfold f_L_sailings_362 at hf
  refine lv_iconst (v := 0) Z.x Z.b dL_sailings_362 (by decide) ?_
  exact z_zret Z E hr dL_sailings_363 hf
set_option maxHeartbeats 4000000 in
set_option maxRecDepth 20000 in
theorem t_L_sailings_305 {p : Program} {l : Launch} {e : Env} {s : State} {m : MethodId} {args : Array Value} {below : List Frame} {meth : Method} {c : Code} {G : zG} (Z : zF p s m args c meth cL_sailings 10 RL G) (hr : meth.sig.returnType = (some .boolean)) {out : Int32 × zHp} {r6 : Nat → Int32 → Int32 → Int32 → zHp → Option (Int32 × zHp)} (k6 : ∀ {a0 : Nat} {a1 : Int32} {a2 : Int32} {a3 : Int32} {h : zHp} {H : Heap} {locs : List Loc} {ls : Array Slot}, r6 a0 a1 a2 a3 h = some out → zE G s h H locs → lv_has ls 10 [(0, .ref a0), (1, .int a1), (2, .int a2), (3, .int a3)] → W p l e rm_L_sailings s m args below meth c H locs 0 0 (MQ below (zQi G out.1 out.2) args s 0 0 (zA G)) (F0 m 6 ls [])) {a0 : Nat} {a1 : Int32} {a3 : Int32} {s0 : Int32} {s1 : Int32} {h : zHp} {H : Heap} {locs : List Loc} {ls : Array Slot} (hf : f_L_sailings_305 r6 a0 a1 a3 s0 s1 h = some out) (E : zE G s h H locs) (hl : lv_has ls 10 [(0, .ref a0), (1, .int a1), (3, .int a3)]) : W p l e rm_L_sailings s m args below meth c H locs 0 0 (MQ below (zQi G out.1 out.2) args s 0 0 (zA G)) (F0 m 305 ls [.int s0, .int s1]) := by
  unfold f_L_sailings_305 at hf
  refine lv_iadd Z.x Z.b dL_sailings_305 ?_
  refine lv_istore_n (lv' := [(2, .int (s1 + s0)), (0, .ref a0), (1, .int a1), (3, .int a3)]) Z.x Z.b dL_sailings_306 rfl hl (by decide) rfl (fun ls hl => ?_)
  refine lv_iinc (v := (a3 + 1)) (lv' := [(3, .int (a3 + 1)), (2, .int (s1 + s0)), (0, .ref a0), (1, .int a1)]) Z.x Z.b dL_sailings_307 hl (k := 3) rfl rfl (by decide) rfl (fun ls hl => ?_)
  refine lv_goto (tgt := 6) Z.x Z.b dL_sailings_310 (by decide) ?_
  exact k6 hf E (lv_sub hl [2, 3, 1, 0] rfl)
set_option maxHeartbeats 4000000 in
set_option maxRecDepth 20000 in
theorem t_L_sailings_291 {p : Program} {l : Launch} {e : Env} {s : State} {m : MethodId} {args : Array Value} {below : List Frame} {meth : Method} {c : Code} {G : zG} (Z : zF p s m args c meth cL_sailings 10 RL G) (hr : meth.sig.returnType = (some .boolean)) {out : Int32 × zHp} {r6 : Nat → Int32 → Int32 → Int32 → zHp → Option (Int32 × zHp)} (k6 : ∀ {a0 : Nat} {a1 : Int32} {a2 : Int32} {a3 : Int32} {h : zHp} {H : Heap} {locs : List Loc} {ls : Array Slot}, r6 a0 a1 a2 a3 h = some out → zE G s h H locs → lv_has ls 10 [(0, .ref a0), (1, .int a1), (2, .int a2), (3, .int a3)] → W p l e rm_L_sailings s m args below meth c H locs 0 0 (MQ below (zQi G out.1 out.2) args s 0 0 (zA G)) (F0 m 6 ls [])) {a0 : Nat} {a2 : Int32} {a3 : Int32} {a4 : Int32} {a6 : Int32} {s0 : Int32} {s1 : Int32} {h : zHp} {H : Heap} {locs : List Loc} {ls : Array Slot} (hf : f_L_sailings_291 r6 a0 a2 a3 a4 a6 s0 s1 h = some out) (E : zE G s h H locs) (hl : lv_has ls 10 [(0, .ref a0), (2, .int a2), (3, .int a3), (4, .int a4), (6, .int a6)]) : W p l e rm_L_sailings s m args below meth c H locs 0 0 (MQ below (zQi G out.1 out.2) args s 0 0 (zA G)) (F0 m 291 ls [.int s0, .int s1]) := by
  unfold f_L_sailings_291 at hf
  refine lv_iadd Z.x Z.b dL_sailings_291 ?_
  refine lv_istore_n (lv' := [(1, .int (s1 + s0)), (0, .ref a0), (2, .int a2), (3, .int a3), (4, .int a4), (6, .int a6)]) Z.x Z.b dL_sailings_292 rfl hl (by decide) rfl (fun ls hl => ?_)
  refine lv_iload_n Z.x Z.b dL_sailings_293 rfl (lv_at hl 2 rfl) ?_
  refine lv_iload Z.x Z.b dL_sailings_294 (lv_at hl 4 rfl) ?_
  refine lv_if_ne (tgt := 304) Z.x Z.b dL_sailings_296 (by decide) (fun c => ?_) (fun c => ?_)
  · have hf := zif_ hf c
    refine lv_iconst (v := 0) Z.x Z.b dL_sailings_304 (by decide) ?_
    exact t_L_sailings_305 Z hr k6 hf E (lv_sub hl [1, 0, 3] rfl)
  · have hf := zit hf c
    refine lv_iload Z.x Z.b dL_sailings_299 (lv_at hl 5 rfl) ?_
    refine lv_goto (tgt := 305) Z.x Z.b dL_sailings_301 (by decide) ?_
    exact t_L_sailings_305 Z hr k6 hf E (lv_sub hl [1, 0, 3] rfl)
set_option maxHeartbeats 4000000 in
set_option maxRecDepth 20000 in
theorem t_L_sailings_276 {p : Program} {l : Launch} {e : Env} {s : State} {m : MethodId} {args : Array Value} {below : List Frame} {meth : Method} {c : Code} {G : zG} (Z : zF p s m args c meth cL_sailings 10 RL G) (hr : meth.sig.returnType = (some .boolean)) {out : Int32 × zHp} {r6 : Nat → Int32 → Int32 → Int32 → zHp → Option (Int32 × zHp)} (k6 : ∀ {a0 : Nat} {a1 : Int32} {a2 : Int32} {a3 : Int32} {h : zHp} {H : Heap} {locs : List Loc} {ls : Array Slot}, r6 a0 a1 a2 a3 h = some out → zE G s h H locs → lv_has ls 10 [(0, .ref a0), (1, .int a1), (2, .int a2), (3, .int a3)] → W p l e rm_L_sailings s m args below meth c H locs 0 0 (MQ below (zQi G out.1 out.2) args s 0 0 (zA G)) (F0 m 6 ls [])) {a0 : Nat} {a1 : Int32} {a2 : Int32} {a3 : Int32} {a4 : Int32} {a5 : Int32} {a6 : Int32} {h : zHp} {H : Heap} {locs : List Loc} {ls : Array Slot} (hf : f_L_sailings_276 r6 a0 a1 a2 a3 a4 a5 a6 h = some out) (E : zE G s h H locs) (hl : lv_has ls 10 [(0, .ref a0), (1, .int a1), (2, .int a2), (3, .int a3), (4, .int a4), (5, .int a5), (6, .int a6)]) : W p l e rm_L_sailings s m args below meth c H locs 0 0 (MQ below (zQi G out.1 out.2) args s 0 0 (zA G)) (F0 m 276 ls []) := by
  unfold f_L_sailings_276 at hf
  refine lv_iload_n Z.x Z.b dL_sailings_276 rfl (lv_at hl 1 rfl) ?_
  refine lv_iload Z.x Z.b dL_sailings_277 (lv_at hl 4 rfl) ?_
  refine lv_if_ne (tgt := 290) Z.x Z.b dL_sailings_279 (by decide) (fun c => ?_) (fun c => ?_)
  · have hf := zif_ hf c
    refine lv_iconst (v := 0) Z.x Z.b dL_sailings_290 (by decide) ?_
    exact t_L_sailings_291 Z hr k6 hf E (lv_sub hl [0, 2, 3, 4, 6] rfl)
  · have hf := zit hf c
    refine lv_iload Z.x Z.b dL_sailings_282 (lv_at hl 5 rfl) ?_
    refine lv_iload Z.x Z.b dL_sailings_284 (lv_at hl 6 rfl) ?_
    refine lv_isub Z.x Z.b dL_sailings_286 ?_
    refine lv_goto (tgt := 291) Z.x Z.b dL_sailings_287 (by decide) ?_
    exact t_L_sailings_291 Z hr k6 hf E (lv_sub hl [0, 2, 3, 4, 6] rfl)
set_option maxHeartbeats 4000000 in
set_option maxRecDepth 20000 in
theorem t_L_sailings_255 {p : Program} {l : Launch} {e : Env} {s : State} {m : MethodId} {args : Array Value} {below : List Frame} {meth : Method} {c : Code} {G : zG} (Z : zF p s m args c meth cL_sailings 10 RL G) (hr : meth.sig.returnType = (some .boolean)) {out : Int32 × zHp} {r6 : Nat → Int32 → Int32 → Int32 → zHp → Option (Int32 × zHp)} (k6 : ∀ {a0 : Nat} {a1 : Int32} {a2 : Int32} {a3 : Int32} {h : zHp} {H : Heap} {locs : List Loc} {ls : Array Slot}, r6 a0 a1 a2 a3 h = some out → zE G s h H locs → lv_has ls 10 [(0, .ref a0), (1, .int a1), (2, .int a2), (3, .int a3)] → W p l e rm_L_sailings s m args below meth c H locs 0 0 (MQ below (zQi G out.1 out.2) args s 0 0 (zA G)) (F0 m 6 ls [])) {a0 : Nat} {a1 : Int32} {a2 : Int32} {a3 : Int32} {a4 : Int32} {a5 : Int32} {a6 : Int32} {h : zHp} {H : Heap} {locs : List Loc} {ls : Array Slot} (hf : f_L_sailings_255 r6 a0 a1 a2 a3 a4 a5 a6 h = some out) (E : zE G s h H locs) (hl : lv_has ls 10 [(0, .ref a0), (1, .int a1), (2, .int a2), (3, .int a3), (4, .int a4), (5, .int a5), (6, .int a6)]) : W p l e rm_L_sailings s m args below meth c H locs 0 0 (MQ below (zQi G out.1 out.2) args s 0 0 (zA G)) (F0 m 255 ls []) := by
  unfold f_L_sailings_255 at hf
  refine lv_iload Z.x Z.b dL_sailings_255 (lv_at hl 4 rfl) ?_
  refine lv_if_ne (tgt := 276) Z.x Z.b dL_sailings_257 (by decide) (fun c => ?_) (fun c => ?_)
  · have hf := zif_ hf c
    exact t_L_sailings_276 Z hr k6 hf E (lv_sub hl [0, 1, 2, 3, 4, 5, 6] rfl)
  · have hf := zit hf c
    refine lv_aload_n Z.x Z.b dL_sailings_260 rfl (lv_at hl 0 rfl) ?_
    refine lv_iload_n Z.x Z.b dL_sailings_261 rfl (lv_at hl 3 rfl) ?_
    refine lv_iconst (v := 2) Z.x Z.b dL_sailings_262 (by decide) ?_
    refine z_Vi (As := [.int a3, .int 2]) Z E hl.1 k_L_15 v_X7_sailingOf hf (fun r h' e => c_X7_sailingOf l G h h' a0 a3 2 r e) rfl rfl (Nat.le_of_ble_eq_true rfl) (zRm_of rfl (Nat.zero_le _) (Nat.zero_le _)) dL_sailings_263 (fun v1 h2 H locs hf E => ?_)
    refine lv_aload_n Z.x Z.b dL_sailings_266 rfl (lv_at hl 0 rfl) ?_
    refine lv_iconst (v := 0) Z.x Z.b dL_sailings_267 (by decide) ?_
    refine z_Vi (As := [.int 0]) Z E hl.1 k_L_9 v_X7_count hf (fun r h' e => c_X7_count l G h2 h' a0 0 r e) rfl rfl (Nat.le_of_ble_eq_true rfl) (zRm_of rfl (Nat.zero_le _) (Nat.zero_le _)) dL_sailings_268 (fun v3 h4 H locs hf E => ?_)
    refine lv_icmp_ge (tgt := 276) Z.x Z.b dL_sailings_271 (by decide) (fun c => ?_) (fun c => ?_)
    · have hf := zit hf c
      exact t_L_sailings_276 Z hr k6 hf E (lv_sub hl [0, 1, 2, 3, 4, 5, 6] rfl)
    · have hf := zif_ hf c
      refine lv_iconst (v := 0) Z.x Z.b dL_sailings_274 (by decide) ?_
      exact z_zret Z E hr dL_sailings_275 hf
set_option maxHeartbeats 4000000 in
set_option maxRecDepth 20000 in
theorem t_L_sailings_244 {p : Program} {l : Launch} {e : Env} {s : State} {m : MethodId} {args : Array Value} {below : List Frame} {meth : Method} {c : Code} {G : zG} (Z : zF p s m args c meth cL_sailings 10 RL G) (hr : meth.sig.returnType = (some .boolean)) {out : Int32 × zHp} {r6 : Nat → Int32 → Int32 → Int32 → zHp → Option (Int32 × zHp)} (k6 : ∀ {a0 : Nat} {a1 : Int32} {a2 : Int32} {a3 : Int32} {h : zHp} {H : Heap} {locs : List Loc} {ls : Array Slot}, r6 a0 a1 a2 a3 h = some out → zE G s h H locs → lv_has ls 10 [(0, .ref a0), (1, .int a1), (2, .int a2), (3, .int a3)] → W p l e rm_L_sailings s m args below meth c H locs 0 0 (MQ below (zQi G out.1 out.2) args s 0 0 (zA G)) (F0 m 6 ls [])) {a0 : Nat} {a1 : Int32} {a2 : Int32} {a3 : Int32} {a4 : Int32} {a5 : Int32} {a6 : Int32} {h : zHp} {H : Heap} {locs : List Loc} {ls : Array Slot} (hf : f_L_sailings_244 r6 a0 a1 a2 a3 a4 a5 a6 h = some out) (E : zE G s h H locs) (hl : lv_has ls 10 [(0, .ref a0), (1, .int a1), (2, .int a2), (3, .int a3), (4, .int a4), (5, .int a5), (6, .int a6)]) : W p l e rm_L_sailings s m args below meth c H locs 0 0 (MQ below (zQi G out.1 out.2) args s 0 0 (zA G)) (F0 m 244 ls []) := by
  unfold f_L_sailings_244 at hf
  refine lv_iload Z.x Z.b dL_sailings_244 (lv_at hl 4 rfl) ?_
  refine lv_iconst (v := 2) Z.x Z.b dL_sailings_246 (by decide) ?_
  refine lv_icmp_ne (tgt := 255) Z.x Z.b dL_sailings_247 (by decide) (fun c => ?_) (fun c => ?_)
  · have hf := zif_ hf c
    exact t_L_sailings_255 Z hr k6 hf E (lv_sub hl [0, 1, 2, 3, 4, 5, 6] rfl)
  · have hf := zit hf c
    refine lv_iload Z.x Z.b dL_sailings_250 (lv_at hl 6 rfl) ?_
    refine lv_if_ne (tgt := 274) Z.x Z.b dL_sailings_252 (by decide) (fun c => ?_) (fun c => ?_)
    · have hf := zif_ hf c
      refine lv_iconst (v := 0) Z.x Z.b dL_sailings_274 (by decide) ?_
      exact z_zret Z E hr dL_sailings_275 hf
    · have hf := zit hf c
      exact t_L_sailings_255 Z hr k6 hf E (lv_sub hl [0, 1, 2, 3, 4, 5, 6] rfl)
set_option maxHeartbeats 4000000 in
set_option maxRecDepth 20000 in
theorem t_L_sailings_203 {p : Program} {l : Launch} {e : Env} {s : State} {m : MethodId} {args : Array Value} {below : List Frame} {meth : Method} {c : Code} {G : zG} (Z : zF p s m args c meth cL_sailings 10 RL G) (hr : meth.sig.returnType = (some .boolean)) {out : Int32 × zHp} {r6 : Nat → Int32 → Int32 → Int32 → zHp → Option (Int32 × zHp)} (k6 : ∀ {a0 : Nat} {a1 : Int32} {a2 : Int32} {a3 : Int32} {h : zHp} {H : Heap} {locs : List Loc} {ls : Array Slot}, r6 a0 a1 a2 a3 h = some out → zE G s h H locs → lv_has ls 10 [(0, .ref a0), (1, .int a1), (2, .int a2), (3, .int a3)] → W p l e rm_L_sailings s m args below meth c H locs 0 0 (MQ below (zQi G out.1 out.2) args s 0 0 (zA G)) (F0 m 6 ls [])) {r34 : Nat → Int32 → Int32 → Int32 → Int32 → Int32 → Int32 → zHp → Option (Int32 × zHp)} (k34 : ∀ {a0 : Nat} {a1 : Int32} {a2 : Int32} {a3 : Int32} {a4 : Int32} {a5 : Int32} {a6 : Int32} {h : zHp} {H : Heap} {locs : List Loc} {ls : Array Slot}, r34 a0 a1 a2 a3 a4 a5 a6 h = some out → zE G s h H locs → lv_has ls 10 [(0, .ref a0), (1, .int a1), (2, .int a2), (3, .int a3), (4, .int a4), (5, .int a5), (6, .int a6)] → W p l e rm_L_sailings s m args below meth c H locs 0 0 (MQ below (zQi G out.1 out.2) args s 0 0 (zA G)) (F0 m 34 ls [])) {a0 : Nat} {a1 : Int32} {a2 : Int32} {a3 : Int32} {a4 : Int32} {a5 : Int32} {a6 : Int32} {a9 : Int32} {h : zHp} {H : Heap} {locs : List Loc} {ls : Array Slot} (hf : f_L_sailings_203 r6 r34 a0 a1 a2 a3 a4 a5 a6 a9 h = some out) (E : zE G s h H locs) (hl : lv_has ls 10 [(0, .ref a0), (1, .int a1), (2, .int a2), (3, .int a3), (4, .int a4), (5, .int a5), (6, .int a6), (9, .int a9)]) : W p l e rm_L_sailings s m args below meth c H locs 0 0 (MQ below (zQi G out.1 out.2) args s 0 0 (zA G)) (F0 m 203 ls []) := by
  unfold f_L_sailings_203 at hf
  refine lv_iload Z.x Z.b dL_sailings_203 (lv_at hl 7 rfl) ?_
  refine lv_if_ge (tgt := 210) Z.x Z.b dL_sailings_205 (by decide) (fun c => ?_) (fun c => ?_)
  · have hf := zit hf c
    refine lv_iinc (v := (a6 + 1)) (lv' := [(6, .int (a6 + 1)), (0, .ref a0), (1, .int a1), (2, .int a2), (3, .int a3), (4, .int a4), (5, .int a5), (9, .int a9)]) Z.x Z.b dL_sailings_210 hl (k := 6) rfl rfl (by decide) rfl (fun ls hl => ?_)
    refine lv_goto (tgt := 34) Z.x Z.b dL_sailings_213 (by decide) ?_
    exact k34 hf E (lv_sub hl [1, 2, 3, 4, 5, 6, 0] rfl)
  · have hf := zif_ hf c
    refine lv_iconst (v := 0) Z.x Z.b dL_sailings_208 (by decide) ?_
    exact z_zret Z E hr dL_sailings_209 hf
set_option maxHeartbeats 4000000 in
set_option maxRecDepth 20000 in
theorem t_L_sailings_169 {p : Program} {l : Launch} {e : Env} {s : State} {m : MethodId} {args : Array Value} {below : List Frame} {meth : Method} {c : Code} {G : zG} (Z : zF p s m args c meth cL_sailings 10 RL G) (hr : meth.sig.returnType = (some .boolean)) {out : Int32 × zHp} {r6 : Nat → Int32 → Int32 → Int32 → zHp → Option (Int32 × zHp)} (k6 : ∀ {a0 : Nat} {a1 : Int32} {a2 : Int32} {a3 : Int32} {h : zHp} {H : Heap} {locs : List Loc} {ls : Array Slot}, r6 a0 a1 a2 a3 h = some out → zE G s h H locs → lv_has ls 10 [(0, .ref a0), (1, .int a1), (2, .int a2), (3, .int a3)] → W p l e rm_L_sailings s m args below meth c H locs 0 0 (MQ below (zQi G out.1 out.2) args s 0 0 (zA G)) (F0 m 6 ls [])) {r34 : Nat → Int32 → Int32 → Int32 → Int32 → Int32 → Int32 → zHp → Option (Int32 × zHp)} (k34 : ∀ {a0 : Nat} {a1 : Int32} {a2 : Int32} {a3 : Int32} {a4 : Int32} {a5 : Int32} {a6 : Int32} {h : zHp} {H : Heap} {locs : List Loc} {ls : Array Slot}, r34 a0 a1 a2 a3 a4 a5 a6 h = some out → zE G s h H locs → lv_has ls 10 [(0, .ref a0), (1, .int a1), (2, .int a2), (3, .int a3), (4, .int a4), (5, .int a5), (6, .int a6)] → W p l e rm_L_sailings s m args below meth c H locs 0 0 (MQ below (zQi G out.1 out.2) args s 0 0 (zA G)) (F0 m 34 ls [])) {a0 : Nat} {a1 : Int32} {a2 : Int32} {a3 : Int32} {a4 : Int32} {a5 : Int32} {a6 : Int32} {h : zHp} {H : Heap} {locs : List Loc} {ls : Array Slot} (hf : f_L_sailings_169 r6 r34 a0 a1 a2 a3 a4 a5 a6 h = some out) (E : zE G s h H locs) (hl : lv_has ls 10 [(0, .ref a0), (1, .int a1), (2, .int a2), (3, .int a3), (4, .int a4), (5, .int a5), (6, .int a6)]) : W p l e rm_L_sailings s m args below meth c H locs 0 0 (MQ below (zQi G out.1 out.2) args s 0 0 (zA G)) (F0 m 169 ls []) := by
  unfold f_L_sailings_169 at hf
  refine lv_aload_n Z.x Z.b dL_sailings_169 rfl (lv_at hl 0 rfl) ?_
  refine lv_iload_n Z.x Z.b dL_sailings_170 rfl (lv_at hl 3 rfl) ?_
  refine lv_iload Z.x Z.b dL_sailings_171 (lv_at hl 6 rfl) ?_
  refine lv_iconst (v := 2) Z.x Z.b dL_sailings_173 (by decide) ?_
  refine z_Vi (As := [.int a3, .int a6, .int 2]) Z E hl.1 k_L_19 v_X7_crew hf (fun r h' e => c_X7_crew l G h h' a0 a3 a6 2 r e) rfl rfl (Nat.le_of_ble_eq_true rfl) (zRm_of rfl (Nat.zero_le _) (Nat.zero_le _)) dL_sailings_174 (fun v1 h2 H locs hf E => ?_)
  refine lv_istore (lv' := [(9, .int v1), (0, .ref a0), (1, .int a1), (2, .int a2), (3, .int a3), (4, .int a4), (5, .int a5), (6, .int a6)]) Z.x Z.b dL_sailings_177 hl (by decide) rfl (fun ls hl => ?_)
  refine lv_iload Z.x Z.b dL_sailings_179 (lv_at hl 0 rfl) ?_
  refine lv_aload_n Z.x Z.b dL_sailings_181 rfl (lv_at hl 1 rfl) ?_
  refine lv_iload_n Z.x Z.b dL_sailings_182 rfl (lv_at hl 4 rfl) ?_
  refine lv_iconst (v := 2) Z.x Z.b dL_sailings_183 (by decide) ?_
  refine z_Vi (As := [.int a3, .int 2]) Z E hl.1 k_L_15 v_X7_sailingOf hf (fun r h' e => c_X7_sailingOf l G h2 h' a0 a3 2 r e) rfl rfl (Nat.le_of_ble_eq_true rfl) (zRm_of rfl (Nat.zero_le _) (Nat.zero_le _)) dL_sailings_184 (fun v3 h4 H locs hf E => ?_)
  refine lv_icmp_eq (tgt := 203) Z.x Z.b dL_sailings_187 (by decide) (fun c => ?_) (fun c => ?_)
  · have hf := zit hf c
    exact t_L_sailings_203 Z hr k6 k34 hf E (lv_sub hl [1, 2, 3, 4, 5, 6, 7, 0] rfl)
  · have hf := zif_ hf c
    refine lv_iload Z.x Z.b dL_sailings_190 (lv_at hl 0 rfl) ?_
    refine lv_aload_n Z.x Z.b dL_sailings_192 rfl (lv_at hl 1 rfl) ?_
    refine lv_iload_n Z.x Z.b dL_sailings_193 rfl (lv_at hl 4 rfl) ?_
    refine lv_iconst (v := 2) Z.x Z.b dL_sailings_194 (by decide) ?_
    refine z_Vi (As := [.int a3, .int 2]) Z E hl.1 k_L_15 v_X7_sailingOf hf (fun r h' e => c_X7_sailingOf l G h4 h' a0 a3 2 r e) rfl rfl (Nat.le_of_ble_eq_true rfl) (zRm_of rfl (Nat.zero_le _) (Nat.zero_le _)) dL_sailings_195 (fun v5 h6 H locs hf E => ?_)
    refine lv_iconst (v := 1) Z.x Z.b dL_sailings_198 (by decide) ?_
    refine lv_isub Z.x Z.b dL_sailings_199 ?_
    refine lv_icmp_ne (tgt := 208) Z.x Z.b dL_sailings_200 (by decide) (fun c => ?_) (fun c => ?_)
    · have hf := zif_ hf c
      refine lv_iconst (v := 0) Z.x Z.b dL_sailings_208 (by decide) ?_
      exact z_zret Z E hr dL_sailings_209 hf
    · have hf := zit hf c
      exact t_L_sailings_203 Z hr k6 k34 hf E (lv_sub hl [1, 2, 3, 4, 5, 6, 7, 0] rfl)
set_option maxHeartbeats 4000000 in
set_option maxRecDepth 20000 in
theorem t_L_sailings_117 {p : Program} {l : Launch} {e : Env} {s : State} {m : MethodId} {args : Array Value} {below : List Frame} {meth : Method} {c : Code} {G : zG} (Z : zF p s m args c meth cL_sailings 10 RL G) (hr : meth.sig.returnType = (some .boolean)) {out : Int32 × zHp} {r6 : Nat → Int32 → Int32 → Int32 → zHp → Option (Int32 × zHp)} (k6 : ∀ {a0 : Nat} {a1 : Int32} {a2 : Int32} {a3 : Int32} {h : zHp} {H : Heap} {locs : List Loc} {ls : Array Slot}, r6 a0 a1 a2 a3 h = some out → zE G s h H locs → lv_has ls 10 [(0, .ref a0), (1, .int a1), (2, .int a2), (3, .int a3)] → W p l e rm_L_sailings s m args below meth c H locs 0 0 (MQ below (zQi G out.1 out.2) args s 0 0 (zA G)) (F0 m 6 ls [])) {r34 : Nat → Int32 → Int32 → Int32 → Int32 → Int32 → Int32 → zHp → Option (Int32 × zHp)} (k34 : ∀ {a0 : Nat} {a1 : Int32} {a2 : Int32} {a3 : Int32} {a4 : Int32} {a5 : Int32} {a6 : Int32} {h : zHp} {H : Heap} {locs : List Loc} {ls : Array Slot}, r34 a0 a1 a2 a3 a4 a5 a6 h = some out → zE G s h H locs → lv_has ls 10 [(0, .ref a0), (1, .int a1), (2, .int a2), (3, .int a3), (4, .int a4), (5, .int a5), (6, .int a6)] → W p l e rm_L_sailings s m args below meth c H locs 0 0 (MQ below (zQi G out.1 out.2) args s 0 0 (zA G)) (F0 m 34 ls [])) {a0 : Nat} {a1 : Int32} {a2 : Int32} {a3 : Int32} {a4 : Int32} {a5 : Int32} {a6 : Int32} {a7 : Int32} {a8 : Int32} {h : zHp} {H : Heap} {locs : List Loc} {ls : Array Slot} (hf : f_L_sailings_117 r6 r34 a0 a1 a2 a3 a4 a5 a6 a7 a8 h = some out) (E : zE G s h H locs) (hl : lv_has ls 10 [(0, .ref a0), (1, .int a1), (2, .int a2), (3, .int a3), (4, .int a4), (5, .int a5), (6, .int a6), (7, .int a7), (8, .int a8)]) : W p l e rm_L_sailings s m args below meth c H locs 0 0 (MQ below (zQi G out.1 out.2) args s 0 0 (zA G)) (F0 m 117 ls []) := by
  unfold f_L_sailings_117 at hf
  refine lv_iload Z.x Z.b dL_sailings_117 (lv_at hl 4 rfl) ?_
  refine lv_if_ne (tgt := 169) Z.x Z.b dL_sailings_119 (by decide) (fun c => ?_) (fun c => ?_)
  · have hf := zif_ hf c
    exact t_L_sailings_169 Z hr k6 k34 hf E (lv_sub hl [0, 1, 2, 3, 4, 5, 6] rfl)
  · have hf := zit hf c
    refine lv_aload_n Z.x Z.b dL_sailings_122 rfl (lv_at hl 0 rfl) ?_
    refine lv_iload Z.x Z.b dL_sailings_123 (lv_at hl 7 rfl) ?_
    refine lv_iload Z.x Z.b dL_sailings_125 (lv_at hl 8 rfl) ?_
    refine z_Vi (As := [.int a7, .int a8]) Z E hl.1 k_L_23 v_X7_memberOf hf (fun r h' e => c_X7_memberOf l G h h' a0 a7 a8 r e) rfl rfl (Nat.le_of_ble_eq_true rfl) (zRm_of rfl (Nat.zero_le _) (Nat.zero_le _)) dL_sailings_127 (fun v1 h2 H locs hf E => ?_)
    refine lv_aload_n Z.x Z.b dL_sailings_130 rfl (lv_at hl 0 rfl) ?_
    refine lv_iload_n Z.x Z.b dL_sailings_131 rfl (lv_at hl 3 rfl) ?_
    refine lv_iconst (v := 3) Z.x Z.b dL_sailings_132 (by decide) ?_
    refine z_Vi (As := [.int a3, .int 3]) Z E hl.1 k_L_15 v_X7_sailingOf hf (fun r h' e => c_X7_sailingOf l G h2 h' a0 a3 3 r e) rfl rfl (Nat.le_of_ble_eq_true rfl) (zRm_of rfl (Nat.zero_le _) (Nat.zero_le _)) dL_sailings_133 (fun v3 h4 H locs hf E => ?_)
    refine lv_icmp_lt (tgt := 167) Z.x Z.b dL_sailings_136 (by decide) (fun c => ?_) (fun c => ?_)
    · have hf := zit hf c
      refine lv_iconst (v := 0) Z.x Z.b dL_sailings_167 (by decide) ?_
      exact z_zret Z E hr dL_sailings_168 hf
    · have hf := zif_ hf c
      refine lv_aload_n Z.x Z.b dL_sailings_139 rfl (lv_at hl 0 rfl) ?_
      refine lv_iload Z.x Z.b dL_sailings_140 (lv_at hl 7 rfl) ?_
      refine lv_iconst (v := 4) Z.x Z.b dL_sailings_142 (by decide) ?_
      refine z_Vi (As := [.int a7, .int 4]) Z E hl.1 k_L_23 v_X7_memberOf hf (fun r h' e => c_X7_memberOf l G h4 h' a0 a7 4 r e) rfl rfl (Nat.le_of_ble_eq_true rfl) (zRm_of rfl (Nat.zero_le _) (Nat.zero_le _)) dL_sailings_143 (fun v5 h6 H locs hf E => ?_)
      refine lv_aload_n Z.x Z.b dL_sailings_146 rfl (lv_at hl 0 rfl) ?_
      refine lv_iload_n Z.x Z.b dL_sailings_147 rfl (lv_at hl 3 rfl) ?_
      refine lv_iconst (v := 2) Z.x Z.b dL_sailings_148 (by decide) ?_
      refine z_Vi (As := [.int a3, .int 2]) Z E hl.1 k_L_15 v_X7_sailingOf hf (fun r h' e => c_X7_sailingOf l G h6 h' a0 a3 2 r e) rfl rfl (Nat.le_of_ble_eq_true rfl) (zRm_of rfl (Nat.zero_le _) (Nat.zero_le _)) dL_sailings_149 (fun v7 h8 H locs hf E => ?_)
      refine lv_icmp_gt (tgt := 167) Z.x Z.b dL_sailings_152 (by decide) (fun c => ?_) (fun c => ?_)
      · have hf := zit hf c
        refine lv_iconst (v := 0) Z.x Z.b dL_sailings_167 (by decide) ?_
        exact z_zret Z E hr dL_sailings_168 hf
      · have hf := zif_ hf c
        refine lv_aload_n Z.x Z.b dL_sailings_155 rfl (lv_at hl 0 rfl) ?_
        refine lv_iload Z.x Z.b dL_sailings_156 (lv_at hl 7 rfl) ?_
        refine lv_iload_n Z.x Z.b dL_sailings_158 rfl (lv_at hl 3 rfl) ?_
        refine lv_iload Z.x Z.b dL_sailings_159 (lv_at hl 8 rfl) ?_
        refine z_Vi (As := [.int a7, .int a3, .int a8]) Z E hl.1 k_L_29 v_X7_why hf (fun r h' e => c_X7_why l G h8 h' a0 a7 a3 a8 r e) rfl rfl (Nat.le_of_ble_eq_true rfl) (zRm_of rfl (Nat.zero_le _) (Nat.zero_le _)) dL_sailings_161 (fun v9 h10 H locs hf E => ?_)
        refine lv_if_ne (tgt := 169) Z.x Z.b dL_sailings_164 (by decide) (fun c => ?_) (fun c => ?_)
        · have hf := zif_ hf c
          exact t_L_sailings_169 Z hr k6 k34 hf E (lv_sub hl [0, 1, 2, 3, 4, 5, 6] rfl)
        · have hf := zit hf c
          refine lv_iconst (v := 0) Z.x Z.b dL_sailings_167 (by decide) ?_
          exact z_zret Z E hr dL_sailings_168 hf
set_option maxHeartbeats 4000000 in
set_option maxRecDepth 20000 in
theorem t_L_sailings_34_body {p : Program} {l : Launch} {e : Env} {s : State} {m : MethodId} {args : Array Value} {below : List Frame} {meth : Method} {c : Code} {G : zG} (Z : zF p s m args c meth cL_sailings 10 RL G) (hr : meth.sig.returnType = (some .boolean)) {out : Int32 × zHp} {r6 : Nat → Int32 → Int32 → Int32 → zHp → Option (Int32 × zHp)} (k6 : ∀ {a0 : Nat} {a1 : Int32} {a2 : Int32} {a3 : Int32} {h : zHp} {H : Heap} {locs : List Loc} {ls : Array Slot}, r6 a0 a1 a2 a3 h = some out → zE G s h H locs → lv_has ls 10 [(0, .ref a0), (1, .int a1), (2, .int a2), (3, .int a3)] → W p l e rm_L_sailings s m args below meth c H locs 0 0 (MQ below (zQi G out.1 out.2) args s 0 0 (zA G)) (F0 m 6 ls [])) {r34 : Nat → Int32 → Int32 → Int32 → Int32 → Int32 → Int32 → zHp → Option (Int32 × zHp)} (k34 : ∀ {a0 : Nat} {a1 : Int32} {a2 : Int32} {a3 : Int32} {a4 : Int32} {a5 : Int32} {a6 : Int32} {h : zHp} {H : Heap} {locs : List Loc} {ls : Array Slot}, r34 a0 a1 a2 a3 a4 a5 a6 h = some out → zE G s h H locs → lv_has ls 10 [(0, .ref a0), (1, .int a1), (2, .int a2), (3, .int a3), (4, .int a4), (5, .int a5), (6, .int a6)] → W p l e rm_L_sailings s m args below meth c H locs 0 0 (MQ below (zQi G out.1 out.2) args s 0 0 (zA G)) (F0 m 34 ls [])) {a0 : Nat} {a1 : Int32} {a2 : Int32} {a3 : Int32} {a4 : Int32} {a5 : Int32} {a6 : Int32} {h : zHp} {H : Heap} {locs : List Loc} {ls : Array Slot} (hf : f_L_sailings_34_body r6 r34 a0 a1 a2 a3 a4 a5 a6 h = some out) (E : zE G s h H locs) (hl : lv_has ls 10 [(0, .ref a0), (1, .int a1), (2, .int a2), (3, .int a3), (4, .int a4), (5, .int a5), (6, .int a6)]) : W p l e rm_L_sailings s m args below meth c H locs 0 0 (MQ below (zQi G out.1 out.2) args s 0 0 (zA G)) (F0 m 34 ls []) := by
  unfold f_L_sailings_34_body at hf
  refine lv_aload_n Z.x Z.b dL_sailings_34 rfl (lv_at hl 0 rfl) ?_
  refine lv_iload_n Z.x Z.b dL_sailings_35 rfl (lv_at hl 3 rfl) ?_
  refine lv_iload Z.x Z.b dL_sailings_36 (lv_at hl 6 rfl) ?_
  refine lv_iconst (v := 0) Z.x Z.b dL_sailings_38 (by decide) ?_
  refine z_Vi (As := [.int a3, .int a6, .int 0]) Z E hl.1 k_L_19 v_X7_crew hf (fun r h' e => c_X7_crew l G h h' a0 a3 a6 0 r e) rfl rfl (Nat.le_of_ble_eq_true rfl) (zRm_of rfl (Nat.zero_le _) (Nat.zero_le _)) dL_sailings_39 (fun v1 h2 H locs hf E => ?_)
  refine lv_if_lt (tgt := 216) Z.x Z.b dL_sailings_42 (by decide) (fun c => ?_) (fun c => ?_)
  · have hf := zit hf c
    refine lv_aload_n Z.x Z.b dL_sailings_216 rfl (lv_at hl 0 rfl) ?_
    refine lv_iload_n Z.x Z.b dL_sailings_217 rfl (lv_at hl 3 rfl) ?_
    refine lv_bipush (v := 6) Z.x Z.b dL_sailings_218 (by decide) ?_
    refine z_Vi (As := [.int a3, .int 6]) Z E hl.1 k_L_15 v_X7_sailingOf hf (fun r h' e => c_X7_sailingOf l G h2 h' a0 a3 6 r e) rfl rfl (Nat.le_of_ble_eq_true rfl) (zRm_of rfl (Nat.zero_le _) (Nat.zero_le _)) dL_sailings_220 (fun v3 h4 H locs hf E => ?_)
    refine lv_iload Z.x Z.b dL_sailings_223 (lv_at hl 5 rfl) ?_
    refine lv_iload Z.x Z.b dL_sailings_225 (lv_at hl 6 rfl) ?_
    refine lv_isub Z.x Z.b dL_sailings_227 ?_
    refine lv_icmp_ne (tgt := 274) Z.x Z.b dL_sailings_228 (by decide) (fun c => ?_) (fun c => ?_)
    · have hf := zif_ hf c
      refine lv_iconst (v := 0) Z.x Z.b dL_sailings_274 (by decide) ?_
      exact z_zret Z E hr dL_sailings_275 hf
    · have hf := zit hf c
      refine lv_iload Z.x Z.b dL_sailings_231 (lv_at hl 4 rfl) ?_
      refine lv_iconst (v := 1) Z.x Z.b dL_sailings_233 (by decide) ?_
      refine lv_icmp_ne (tgt := 244) Z.x Z.b dL_sailings_234 (by decide) (fun c => ?_) (fun c => ?_)
      · have hf := zif_ hf c
        exact t_L_sailings_244 Z hr k6 hf E (lv_sub hl [0, 1, 2, 3, 4, 5, 6] rfl)
      · have hf := zit hf c
        refine lv_iload Z.x Z.b dL_sailings_237 (lv_at hl 6 rfl) ?_
        refine lv_iload Z.x Z.b dL_sailings_239 (lv_at hl 5 rfl) ?_
        refine lv_icmp_ne (tgt := 274) Z.x Z.b dL_sailings_241 (by decide) (fun c => ?_) (fun c => ?_)
        · have hf := zif_ hf c
          refine lv_iconst (v := 0) Z.x Z.b dL_sailings_274 (by decide) ?_
          exact z_zret Z E hr dL_sailings_275 hf
        · have hf := zit hf c
          exact t_L_sailings_244 Z hr k6 hf E (lv_sub hl [0, 1, 2, 3, 4, 5, 6] rfl)
  · have hf := zif_ hf c
    refine lv_aload_n Z.x Z.b dL_sailings_45 rfl (lv_at hl 0 rfl) ?_
    refine lv_iload_n Z.x Z.b dL_sailings_46 rfl (lv_at hl 3 rfl) ?_
    refine lv_iload Z.x Z.b dL_sailings_47 (lv_at hl 6 rfl) ?_
    refine lv_iconst (v := 0) Z.x Z.b dL_sailings_49 (by decide) ?_
    refine z_Vi (As := [.int a3, .int a6, .int 0]) Z E hl.1 k_L_19 v_X7_crew hf (fun r h' e => c_X7_crew l G h2 h' a0 a3 a6 0 r e) rfl rfl (Nat.le_of_ble_eq_true rfl) (zRm_of rfl (Nat.zero_le _) (Nat.zero_le _)) dL_sailings_50 (fun v5 h6 H locs hf E => ?_)
    refine lv_istore (lv' := [(7, .int v5), (0, .ref a0), (1, .int a1), (2, .int a2), (3, .int a3), (4, .int a4), (5, .int a5), (6, .int a6)]) Z.x Z.b dL_sailings_53 hl (by decide) rfl (fun ls hl => ?_)
    refine lv_aload_n Z.x Z.b dL_sailings_55 rfl (lv_at hl 1 rfl) ?_
    refine lv_iload_n Z.x Z.b dL_sailings_56 rfl (lv_at hl 4 rfl) ?_
    refine lv_iload Z.x Z.b dL_sailings_57 (lv_at hl 7 rfl) ?_
    refine lv_iconst (v := 1) Z.x Z.b dL_sailings_59 (by decide) ?_
    refine z_Vi (As := [.int a3, .int a6, .int 1]) Z E hl.1 k_L_19 v_X7_crew hf (fun r h' e => c_X7_crew l G h6 h' a0 a3 a6 1 r e) rfl rfl (Nat.le_of_ble_eq_true rfl) (zRm_of rfl (Nat.zero_le _) (Nat.zero_le _)) dL_sailings_60 (fun v7 h8 H locs hf E => ?_)
    refine lv_istore (lv' := [(8, .int v7), (7, .int v5), (0, .ref a0), (1, .int a1), (2, .int a2), (3, .int a3), (4, .int a4), (5, .int a5), (6, .int a6)]) Z.x Z.b dL_sailings_63 hl (by decide) rfl (fun ls hl => ?_)
    refine lv_iload Z.x Z.b dL_sailings_65 (lv_at hl 8 rfl) ?_
    refine lv_if_le (tgt := 117) Z.x Z.b dL_sailings_67 (by decide) (fun c => ?_) (fun c => ?_)
    · have hf := zit hf c
      exact t_L_sailings_117 Z hr k6 k34 hf E (lv_sub hl [2, 3, 4, 5, 6, 7, 8, 1, 0] rfl)
    · have hf := zif_ hf c
      refine lv_aload_n Z.x Z.b dL_sailings_70 rfl (lv_at hl 2 rfl) ?_
      refine lv_iload_n Z.x Z.b dL_sailings_71 rfl (lv_at hl 5 rfl) ?_
      refine lv_iload Z.x Z.b dL_sailings_72 (lv_at hl 8 rfl) ?_
      refine lv_iconst (v := 1) Z.x Z.b dL_sailings_74 (by decide) ?_
      refine lv_isub Z.x Z.b dL_sailings_75 ?_
      refine lv_iconst (v := 1) Z.x Z.b dL_sailings_76 (by decide) ?_
      refine z_Vi (As := [.int a3, .int (a6 - 1), .int 1]) Z E hl.1 k_L_19 v_X7_crew hf (fun r h' e => c_X7_crew l G h8 h' a0 a3 (a6 - 1) 1 r e) rfl rfl (Nat.le_of_ble_eq_true rfl) (zRm_of rfl (Nat.zero_le _) (Nat.zero_le _)) dL_sailings_77 (fun v9 h10 H locs hf E => ?_)
      refine lv_iload Z.x Z.b dL_sailings_80 (lv_at hl 0 rfl) ?_
      refine lv_icmp_gt (tgt := 115) Z.x Z.b dL_sailings_82 (by decide) (fun c => ?_) (fun c => ?_)
      · have hf := zit hf c
        refine lv_iconst (v := 0) Z.x Z.b dL_sailings_115 (by decide) ?_
        exact z_zret Z E hr dL_sailings_116 hf
      · have hf := zif_ hf c
        refine lv_aload_n Z.x Z.b dL_sailings_85 rfl (lv_at hl 2 rfl) ?_
        refine lv_iload_n Z.x Z.b dL_sailings_86 rfl (lv_at hl 5 rfl) ?_
        refine lv_iload Z.x Z.b dL_sailings_87 (lv_at hl 8 rfl) ?_
        refine lv_iconst (v := 1) Z.x Z.b dL_sailings_89 (by decide) ?_
        refine lv_isub Z.x Z.b dL_sailings_90 ?_
        refine lv_iconst (v := 1) Z.x Z.b dL_sailings_91 (by decide) ?_
        refine z_Vi (As := [.int a3, .int (a6 - 1), .int 1]) Z E hl.1 k_L_19 v_X7_crew hf (fun r h' e => c_X7_crew l G h10 h' a0 a3 (a6 - 1) 1 r e) rfl rfl (Nat.le_of_ble_eq_true rfl) (zRm_of rfl (Nat.zero_le _) (Nat.zero_le _)) dL_sailings_92 (fun v11 h12 H locs hf E => ?_)
        refine lv_iload Z.x Z.b dL_sailings_95 (lv_at hl 0 rfl) ?_
        refine lv_icmp_ne (tgt := 117) Z.x Z.b dL_sailings_97 (by decide) (fun c => ?_) (fun c => ?_)
        · have hf := zif_ hf c
          exact t_L_sailings_117 Z hr k6 k34 hf E (lv_sub hl [2, 3, 4, 5, 6, 7, 8, 1, 0] rfl)
        · have hf := zit hf c
          refine lv_aload_n Z.x Z.b dL_sailings_100 rfl (lv_at hl 2 rfl) ?_
          refine lv_iload_n Z.x Z.b dL_sailings_101 rfl (lv_at hl 5 rfl) ?_
          refine lv_iload Z.x Z.b dL_sailings_102 (lv_at hl 8 rfl) ?_
          refine lv_iconst (v := 1) Z.x Z.b dL_sailings_104 (by decide) ?_
          refine lv_isub Z.x Z.b dL_sailings_105 ?_
          refine lv_iconst (v := 0) Z.x Z.b dL_sailings_106 (by decide) ?_
          refine z_Vi (As := [.int a3, .int (a6 - 1), .int 0]) Z E hl.1 k_L_19 v_X7_crew hf (fun r h' e => c_X7_crew l G h12 h' a0 a3 (a6 - 1) 0 r e) rfl rfl (Nat.le_of_ble_eq_true rfl) (zRm_of rfl (Nat.zero_le _) (Nat.zero_le _)) dL_sailings_107 (fun v13 h14 H locs hf E => ?_)
          refine lv_iload Z.x Z.b dL_sailings_110 (lv_at hl 1 rfl) ?_
          refine lv_icmp_lt (tgt := 117) Z.x Z.b dL_sailings_112 (by decide) (fun c => ?_) (fun c => ?_)
          · have hf := zit hf c
            exact t_L_sailings_117 Z hr k6 k34 hf E (lv_sub hl [2, 3, 4, 5, 6, 7, 8, 1, 0] rfl)
          · have hf := zif_ hf c
            refine lv_iconst (v := 0) Z.x Z.b dL_sailings_115 (by decide) ?_
            exact z_zret Z E hr dL_sailings_116 hf
theorem t_L_sailings_34 {p : Program} {l : Launch} {e : Env} {s : State} {m : MethodId} {args : Array Value} {below : List Frame} {meth : Method} {c : Code} {G : zG} (Z : zF p s m args c meth cL_sailings 10 RL G) (hr : meth.sig.returnType = (some .boolean)) {out : Int32 × zHp} {r6 : Nat → Int32 → Int32 → Int32 → zHp → Option (Int32 × zHp)} (k6 : ∀ {a0 : Nat} {a1 : Int32} {a2 : Int32} {a3 : Int32} {h : zHp} {H : Heap} {locs : List Loc} {ls : Array Slot}, r6 a0 a1 a2 a3 h = some out → zE G s h H locs → lv_has ls 10 [(0, .ref a0), (1, .int a1), (2, .int a2), (3, .int a3)] → W p l e rm_L_sailings s m args below meth c H locs 0 0 (MQ below (zQi G out.1 out.2) args s 0 0 (zA G)) (F0 m 6 ls [])) : ∀ (n : Nat), ∀ {a0 : Nat} {a1 : Int32} {a2 : Int32} {a3 : Int32} {a4 : Int32} {a5 : Int32} {a6 : Int32} {h : zHp} {H : Heap} {locs : List Loc} {ls : Array Slot}, f_L_sailings_34 r6 n a0 a1 a2 a3 a4 a5 a6 h = some out → zE G s h H locs → lv_has ls 10 [(0, .ref a0), (1, .int a1), (2, .int a2), (3, .int a3), (4, .int a4), (5, .int a5), (6, .int a6)] → W p l e rm_L_sailings s m args below meth c H locs 0 0 (MQ below (zQi G out.1 out.2) args s 0 0 (zA G)) (F0 m 34 ls [])
  | 0 => fun hf => by cases hf
  | n + 1 => fun hf E hl => t_L_sailings_34_body Z hr k6 (r34 := f_L_sailings_34 r6 n) (t_L_sailings_34 Z hr k6 n) hf E hl
set_option maxHeartbeats 4000000 in
set_option maxRecDepth 20000 in
theorem t_L_sailings_6_body {p : Program} {l : Launch} {e : Env} {s : State} {m : MethodId} {args : Array Value} {below : List Frame} {meth : Method} {c : Code} {G : zG} (Z : zF p s m args c meth cL_sailings 10 RL G) (hr : meth.sig.returnType = (some .boolean)) {out : Int32 × zHp} {r6 : Nat → Int32 → Int32 → Int32 → zHp → Option (Int32 × zHp)} (k6 : ∀ {a0 : Nat} {a1 : Int32} {a2 : Int32} {a3 : Int32} {h : zHp} {H : Heap} {locs : List Loc} {ls : Array Slot}, r6 a0 a1 a2 a3 h = some out → zE G s h H locs → lv_has ls 10 [(0, .ref a0), (1, .int a1), (2, .int a2), (3, .int a3)] → W p l e rm_L_sailings s m args below meth c H locs 0 0 (MQ below (zQi G out.1 out.2) args s 0 0 (zA G)) (F0 m 6 ls [])) {a0 : Nat} {a1 : Int32} {a2 : Int32} {a3 : Int32} {h : zHp} {H : Heap} {locs : List Loc} {ls : Array Slot} (hf : f_L_sailings_6_body r6 a0 a1 a2 a3 h = some out) (E : zE G s h H locs) (hl : lv_has ls 10 [(0, .ref a0), (1, .int a1), (2, .int a2), (3, .int a3)]) : W p l e rm_L_sailings s m args below meth c H locs 0 0 (MQ below (zQi G out.1 out.2) args s 0 0 (zA G)) (F0 m 6 ls []) := by
  unfold f_L_sailings_6_body at hf
  refine lv_iload_n Z.x Z.b dL_sailings_6 rfl (lv_at hl 3 rfl) ?_
  refine lv_aload_n Z.x Z.b dL_sailings_7 rfl (lv_at hl 0 rfl) ?_
  refine lv_iconst (v := 1) Z.x Z.b dL_sailings_8 (by decide) ?_
  refine z_Vi (As := [.int 1]) Z E hl.1 k_L_9 v_X7_count hf (fun r h' e => c_X7_count l G h h' a0 1 r e) rfl rfl (Nat.le_of_ble_eq_true rfl) (zRm_of rfl (Nat.zero_le _) (Nat.zero_le _)) dL_sailings_9 (fun v1 h2 H locs hf E => ?_)
  refine lv_icmp_ge (tgt := 313) Z.x Z.b dL_sailings_12 (by decide) (fun c => ?_) (fun c => ?_)
  · have hf := zit hf c
    refine lv_iload_n Z.x Z.b dL_sailings_313 rfl (lv_at hl 1 rfl) ?_
    refine lv_aload_n Z.x Z.b dL_sailings_314 rfl (lv_at hl 0 rfl) ?_
    refine lv_bipush (v := 7) Z.x Z.b dL_sailings_315 (by decide) ?_
    refine z_Vi (As := [.int 7]) Z E hl.1 k_L_9 v_X7_count hf (fun r h' e => c_X7_count l G h2 h' a0 7 r e) rfl rfl (Nat.le_of_ble_eq_true rfl) (zRm_of rfl (Nat.zero_le _) (Nat.zero_le _)) dL_sailings_317 (fun v3 h4 H locs hf E => ?_)
    refine lv_icmp_ne (tgt := 362) Z.x Z.b dL_sailings_320 (by decide) (fun c => ?_) (fun c => ?_)
    · have hf := zif_ hf c
      exact t_L_sailings_362 Z hr hf E (lv_sub hl [] rfl)
    · have hf := zit hf c
      refine lv_iload_n Z.x Z.b dL_sailings_323 rfl (lv_at hl 2 rfl) ?_
      refine lv_aload_n Z.x Z.b dL_sailings_324 rfl (lv_at hl 0 rfl) ?_
      refine lv_bipush (v := 8) Z.x Z.b dL_sailings_325 (by decide) ?_
      refine z_Vi (As := [.int 8]) Z E hl.1 k_L_9 v_X7_count hf (fun r h' e => c_X7_count l G h4 h' a0 8 r e) rfl rfl (Nat.le_of_ble_eq_true rfl) (zRm_of rfl (Nat.zero_le _) (Nat.zero_le _)) dL_sailings_327 (fun v5 h6 H locs hf E => ?_)
      refine lv_icmp_ne (tgt := 362) Z.x Z.b dL_sailings_330 (by decide) (fun c => ?_) (fun c => ?_)
      · have hf := zif_ hf c
        exact t_L_sailings_362 Z hr hf E (lv_sub hl [] rfl)
      · have hf := zit hf c
        refine lv_aload_n Z.x Z.b dL_sailings_333 rfl (lv_at hl 0 rfl) ?_
        refine lv_iconst (v := 2) Z.x Z.b dL_sailings_334 (by decide) ?_
        refine z_Vi (As := [.int 2]) Z E hl.1 k_L_9 v_X7_count hf (fun r h' e => c_X7_count l G h6 h' a0 2 r e) rfl rfl (Nat.le_of_ble_eq_true rfl) (zRm_of rfl (Nat.zero_le _) (Nat.zero_le _)) dL_sailings_335 (fun v7 h8 H locs hf E => ?_)
        refine lv_aload_n Z.x Z.b dL_sailings_338 rfl (lv_at hl 0 rfl) ?_
        refine lv_iconst (v := 3) Z.x Z.b dL_sailings_339 (by decide) ?_
        refine z_Vi (As := [.int 3]) Z E hl.1 k_L_9 v_X7_count hf (fun r h' e => c_X7_count l G h8 h' a0 3 r e) rfl rfl (Nat.le_of_ble_eq_true rfl) (zRm_of rfl (Nat.zero_le _) (Nat.zero_le _)) dL_sailings_340 (fun v9 h10 H locs hf E => ?_)
        refine lv_iadd Z.x Z.b dL_sailings_343 ?_
        refine lv_aload_n Z.x Z.b dL_sailings_344 rfl (lv_at hl 0 rfl) ?_
        refine lv_iconst (v := 4) Z.x Z.b dL_sailings_345 (by decide) ?_
        refine z_Vi (As := [.int 4]) Z E hl.1 k_L_9 v_X7_count hf (fun r h' e => c_X7_count l G h10 h' a0 4 r e) rfl rfl (Nat.le_of_ble_eq_true rfl) (zRm_of rfl (Nat.zero_le _) (Nat.zero_le _)) dL_sailings_346 (fun v11 h12 H locs hf E => ?_)
        refine lv_iadd Z.x Z.b dL_sailings_349 ?_
        refine lv_aload_n Z.x Z.b dL_sailings_350 rfl (lv_at hl 0 rfl) ?_
        refine lv_iconst (v := 1) Z.x Z.b dL_sailings_351 (by decide) ?_
        refine z_Vi (As := [.int 1]) Z E hl.1 k_L_9 v_X7_count hf (fun r h' e => c_X7_count l G h12 h' a0 1 r e) rfl rfl (Nat.le_of_ble_eq_true rfl) (zRm_of rfl (Nat.zero_le _) (Nat.zero_le _)) dL_sailings_352 (fun v13 h14 H locs hf E => ?_)
        refine lv_icmp_ne (tgt := 362) Z.x Z.b dL_sailings_355 (by decide) (fun c => ?_) (fun c => ?_)
        · have hf := zif_ hf c
          exact t_L_sailings_362 Z hr hf E (lv_sub hl [] rfl)
        · have hf := zit hf c
          refine lv_iconst (v := 1) Z.x Z.b dL_sailings_358 (by decide) ?_
          refine lv_goto (tgt := 363) Z.x Z.b dL_sailings_359 (by decide) ?_
          exact z_zret Z E hr dL_sailings_363 hf
  · have hf := zif_ hf c
    refine lv_aload_n Z.x Z.b dL_sailings_15 rfl (lv_at hl 0 rfl) ?_
    refine lv_iload_n Z.x Z.b dL_sailings_16 rfl (lv_at hl 3 rfl) ?_
    refine lv_iconst (v := 0) Z.x Z.b dL_sailings_17 (by decide) ?_
    refine z_Vi (As := [.int a3, .int 0]) Z E hl.1 k_L_15 v_X7_sailingOf hf (fun r h' e => c_X7_sailingOf l G h2 h' a0 a3 0 r e) rfl rfl (Nat.le_of_ble_eq_true rfl) (zRm_of rfl (Nat.zero_le _) (Nat.zero_le _)) dL_sailings_18 (fun v15 h16 H locs hf E => ?_)
    refine lv_istore (lv' := [(4, .int v15), (0, .ref a0), (1, .int a1), (2, .int a2), (3, .int a3)]) Z.x Z.b dL_sailings_21 hl (by decide) rfl (fun ls hl => ?_)
    refine lv_aload_n Z.x Z.b dL_sailings_23 rfl (lv_at hl 1 rfl) ?_
    refine lv_iload_n Z.x Z.b dL_sailings_24 rfl (lv_at hl 4 rfl) ?_
    refine lv_iconst (v := 5) Z.x Z.b dL_sailings_25 (by decide) ?_
    refine z_Vi (As := [.int a3, .int 5]) Z E hl.1 k_L_15 v_X7_sailingOf hf (fun r h' e => c_X7_sailingOf l G h16 h' a0 a3 5 r e) rfl rfl (Nat.le_of_ble_eq_true rfl) (zRm_of rfl (Nat.zero_le _) (Nat.zero_le _)) dL_sailings_26 (fun v17 h18 H locs hf E => ?_)
    refine lv_istore (lv' := [(5, .int v17), (4, .int v15), (0, .ref a0), (1, .int a1), (2, .int a2), (3, .int a3)]) Z.x Z.b dL_sailings_29 hl (by decide) rfl (fun ls hl => ?_)
    refine lv_iconst (v := 0) Z.x Z.b dL_sailings_31 (by decide) ?_
    refine lv_istore (lv' := [(6, .int 0), (5, .int v17), (4, .int v15), (0, .ref a0), (1, .int a1), (2, .int a2), (3, .int a3)]) Z.x Z.b dL_sailings_32 hl (by decide) rfl (fun ls hl => ?_)
    exact t_L_sailings_34 Z hr k6 zN hf E (lv_sub hl [3, 4, 5, 6, 2, 1, 0] rfl)
theorem t_L_sailings_6 {p : Program} {l : Launch} {e : Env} {s : State} {m : MethodId} {args : Array Value} {below : List Frame} {meth : Method} {c : Code} {G : zG} (Z : zF p s m args c meth cL_sailings 10 RL G) (hr : meth.sig.returnType = (some .boolean)) {out : Int32 × zHp} : ∀ (n : Nat), ∀ {a0 : Nat} {a1 : Int32} {a2 : Int32} {a3 : Int32} {h : zHp} {H : Heap} {locs : List Loc} {ls : Array Slot}, f_L_sailings_6 n a0 a1 a2 a3 h = some out → zE G s h H locs → lv_has ls 10 [(0, .ref a0), (1, .int a1), (2, .int a2), (3, .int a3)] → W p l e rm_L_sailings s m args below meth c H locs 0 0 (MQ below (zQi G out.1 out.2) args s 0 0 (zA G)) (F0 m 6 ls [])
  | 0 => fun hf => by cases hf
  | n + 1 => fun hf E hl => t_L_sailings_6_body Z hr (r6 := f_L_sailings_6 n) (t_L_sailings_6 Z hr n) hf E hl
set_option maxHeartbeats 4000000 in
set_option maxRecDepth 20000 in
theorem t_L_sailings {p : Program} {l : Launch} {e : Env} {s : State} {m : MethodId} {args : Array Value} {below : List Frame} {meth : Method} {c : Code} {G : zG} (Z : zF p s m args c meth cL_sailings 10 RL G) (hr : meth.sig.returnType = (some .boolean)) {out : Int32 × zHp} {a0 : Nat} {h : zHp} {H : Heap} {locs : List Loc} {ls : Array Slot} (hf : f_L_sailings a0 h = some out) (E : zE G s h H locs) (hl : lv_has ls 10 [(0, .ref a0)]) : W p l e rm_L_sailings s m args below meth c H locs 0 0 (MQ below (zQi G out.1 out.2) args s 0 0 (zA G)) (F0 m 0 ls []) := by
  unfold f_L_sailings at hf
  refine lv_iconst (v := 0) Z.x Z.b dL_sailings_0 (by decide) ?_
  refine lv_istore_n (lv' := [(1, .int 0), (0, .ref a0)]) Z.x Z.b dL_sailings_1 rfl hl (by decide) rfl (fun ls hl => ?_)
  refine lv_iconst (v := 0) Z.x Z.b dL_sailings_2 (by decide) ?_
  refine lv_istore_n (lv' := [(2, .int 0), (1, .int 0), (0, .ref a0)]) Z.x Z.b dL_sailings_3 rfl hl (by decide) rfl (fun ls hl => ?_)
  refine lv_iconst (v := 0) Z.x Z.b dL_sailings_4 (by decide) ?_
  refine lv_istore_n (lv' := [(3, .int 0), (2, .int 0), (1, .int 0), (0, .ref a0)]) Z.x Z.b dL_sailings_5 rfl hl (by decide) rfl (fun ls hl => ?_)
  exact t_L_sailings_6 Z hr zN hf E (lv_sub hl [3, 2, 1, 0] rfl)
set_option maxHeartbeats 4000000 in
set_option maxRecDepth 20000 in
theorem c_L_sailings (l : Launch) (G : zG) (h : zHp) (h' : zHp) (a0 : Nat) (r : Int32) (hf : f_L_sailings a0 h = some (r, h')) : zM0 l yL_sailings cL_sailings 10 (some .boolean) rm_L_sailings G [.ref a0] h (zQi G r h') := by
  refine Met.ofW (cc := cL_sailings) (maxL := 10) (ret := (some .boolean)) (by decide) rfl ?_
  intro p e s m args below meth c s₁ B hml hv
  obtain ⟨rfl, hW⟩ := hv
  obtain ⟨Z, E, hr⟩ := zEnter (own := RL) B hml rfl hW
  have hl := lv_entry ([.ref a0]) (n := 10) (Nat.le_of_ble_eq_true rfl)
  rw [lg_entry_eq]
  generalize (lg_sl ([.ref a0]) ++ List.replicate (10 - (lg_sl ([.ref a0])).length) Slot.unset).toArray = ls at hl ⊢
  have hl : lv_has ls 10 [(0, .ref a0)] := hl
  exact t_L_sailings (out := (r, h')) Z hr hf E hl
/-! FerryCrewsLaw.members(LFerryCrews;)Z -/
theorem dL_members_0 : decode cL_members 0 = .ok (.iconst 0, 1) := by decide +kernel
theorem dL_members_1 : decode cL_members 1 = .ok (.istore_n 1, 1) := by decide +kernel
theorem dL_members_2 : decode cL_members 2 = .ok (.iconst 0, 1) := by decide +kernel
theorem dL_members_3 : decode cL_members 3 = .ok (.istore_n 2, 1) := by decide +kernel
theorem dL_members_4 : decode cL_members 4 = .ok (.iconst 0, 1) := by decide +kernel
theorem dL_members_5 : decode cL_members 5 = .ok (.istore_n 3, 1) := by decide +kernel
theorem dL_members_6 : decode cL_members 6 = .ok (.iconst 0, 1) := by decide +kernel
theorem dL_members_7 : decode cL_members 7 = .ok (.istore 4, 2) := by decide +kernel
theorem dL_members_9 : decode cL_members 9 = .ok (.iload 4, 2) := by decide +kernel
theorem dL_members_11 : decode cL_members 11 = .ok (.aload_n 0, 1) := by decide +kernel
theorem dL_members_12 : decode cL_members 12 = .ok (.iconst 5, 1) := by decide +kernel
theorem dL_members_13 : decode cL_members 13 = .ok (.invokevirtual 9, 3) := by decide +kernel
theorem dL_members_16 : decode cL_members 16 = .ok (.if_icmp .ge 290, 3) := by decide +kernel
theorem dL_members_19 : decode cL_members 19 = .ok (.aload_n 0, 1) := by decide +kernel
theorem dL_members_20 : decode cL_members 20 = .ok (.iload 4, 2) := by decide +kernel
theorem dL_members_22 : decode cL_members 22 = .ok (.bipush 7, 2) := by decide +kernel
theorem dL_members_24 : decode cL_members 24 = .ok (.invokevirtual 23, 3) := by decide +kernel
theorem dL_members_27 : decode cL_members 27 = .ok (.istore 5, 2) := by decide +kernel
theorem dL_members_29 : decode cL_members 29 = .ok (.iconst 0, 1) := by decide +kernel
theorem dL_members_30 : decode cL_members 30 = .ok (.istore 6, 2) := by decide +kernel
theorem dL_members_32 : decode cL_members 32 = .ok (.iconst 0, 1) := by decide +kernel
theorem dL_members_33 : decode cL_members 33 = .ok (.istore 7, 2) := by decide +kernel
theorem dL_members_35 : decode cL_members 35 = .ok (.iload 7, 2) := by decide +kernel
theorem dL_members_37 : decode cL_members 37 = .ok (.bipush 6, 2) := by decide +kernel
theorem dL_members_39 : decode cL_members 39 = .ok (.if_icmp .ge 83, 3) := by decide +kernel
theorem dL_members_42 : decode cL_members 42 = .ok (.sipush 168, 3) := by decide +kernel
theorem dL_members_45 : decode cL_members 45 = .ok (.aload_n 0, 1) := by decide +kernel
theorem dL_members_46 : decode cL_members 46 = .ok (.iload 4, 2) := by decide +kernel
theorem dL_members_48 : decode cL_members 48 = .ok (.sipush 168, 3) := by decide +kernel
theorem dL_members_51 : decode cL_members 51 = .ok (.iload 7, 2) := by decide +kernel
theorem dL_members_53 : decode cL_members 53 = .ok (.imul, 1) := by decide +kernel
theorem dL_members_54 : decode cL_members 54 = .ok (.sipush 168, 3) := by decide +kernel
theorem dL_members_57 : decode cL_members 57 = .ok (.invokevirtual 32, 3) := by decide +kernel
theorem dL_members_60 : decode cL_members 60 = .ok (.isub, 1) := by decide +kernel
theorem dL_members_61 : decode cL_members 61 = .ok (.istore 8, 2) := by decide +kernel
theorem dL_members_63 : decode cL_members 63 = .ok (.iload 6, 2) := by decide +kernel
theorem dL_members_65 : decode cL_members 65 = .ok (.iload 8, 2) := by decide +kernel
theorem dL_members_67 : decode cL_members 67 = .ok (.iadd, 1) := by decide +kernel
theorem dL_members_68 : decode cL_members 68 = .ok (.istore 6, 2) := by decide +kernel
theorem dL_members_70 : decode cL_members 70 = .ok (.iload 8, 2) := by decide +kernel
theorem dL_members_72 : decode cL_members 72 = .ok (.aload_n 0, 1) := by decide +kernel
theorem dL_members_73 : decode cL_members 73 = .ok (.bipush 17, 2) := by decide +kernel
theorem dL_members_75 : decode cL_members 75 = .ok (.invokevirtual 9, 3) := by decide +kernel
theorem dL_members_78 : decode cL_members 78 = .ok (.if_icmp .le 15, 3) := by decide +kernel
theorem dL_members_81 : decode cL_members 81 = .ok (.iload 8, 2) := by decide +kernel
theorem dL_members_83 : decode cL_members 83 = .ok (.aload_n 0, 1) := by decide +kernel
theorem dL_members_84 : decode cL_members 84 = .ok (.bipush 17, 2) := by decide +kernel
theorem dL_members_86 : decode cL_members 86 = .ok (.invokevirtual 9, 3) := by decide +kernel
theorem dL_members_89 : decode cL_members 89 = .ok (.isub, 1) := by decide +kernel
theorem dL_members_90 : decode cL_members 90 = .ok (.goto 4, 3) := by decide +kernel
theorem dL_members_93 : decode cL_members 93 = .ok (.iconst 0, 1) := by decide +kernel
theorem dL_members_94 : decode cL_members 94 = .ok (.istore 9, 2) := by decide +kernel
theorem dL_members_96 : decode cL_members 96 = .ok (.aload_n 0, 1) := by decide +kernel
theorem dL_members_97 : decode cL_members 97 = .ok (.iload 4, 2) := by decide +kernel
theorem dL_members_99 : decode cL_members 99 = .ok (.iload 7, 2) := by decide +kernel
theorem dL_members_101 : decode cL_members 101 = .ok (.invokevirtual 35, 3) := by decide +kernel
theorem dL_members_104 : decode cL_members 104 = .ok (.iload 9, 2) := by decide +kernel
theorem dL_members_106 : decode cL_members 106 = .ok (.if_icmp .eq 5, 3) := by decide +kernel
theorem dL_members_109 : decode cL_members 109 = .ok (.iconst 0, 1) := by decide +kernel
theorem dL_members_110 : decode cL_members 110 = .ok (.ireturn, 1) := by decide +kernel
theorem dL_members_111 : decode cL_members 111 = .ok (.iload_n 3, 1) := by decide +kernel
theorem dL_members_112 : decode cL_members 112 = .ok (.iload 9, 2) := by decide +kernel
theorem dL_members_114 : decode cL_members 114 = .ok (.iadd, 1) := by decide +kernel
theorem dL_members_115 : decode cL_members 115 = .ok (.istore_n 3, 1) := by decide +kernel
theorem dL_members_116 : decode cL_members 116 = .ok (.iinc 7 1, 3) := by decide +kernel
theorem dL_members_119 : decode cL_members 119 = .ok (.goto (-84), 3) := by decide +kernel
theorem dL_members_122 : decode cL_members 122 = .ok (.iload_n 1, 1) := by decide +kernel
theorem dL_members_123 : decode cL_members 123 = .ok (.aload_n 0, 1) := by decide +kernel
theorem dL_members_124 : decode cL_members 124 = .ok (.iload 4, 2) := by decide +kernel
theorem dL_members_126 : decode cL_members 126 = .ok (.iconst 4, 1) := by decide +kernel
theorem dL_members_127 : decode cL_members 127 = .ok (.invokevirtual 23, 3) := by decide +kernel
theorem dL_members_130 : decode cL_members 130 = .ok (.aload_n 0, 1) := by decide +kernel
theorem dL_members_131 : decode cL_members 131 = .ok (.iconst 0, 1) := by decide +kernel
theorem dL_members_132 : decode cL_members 132 = .ok (.invokevirtual 9, 3) := by decide +kernel
theorem dL_members_135 : decode cL_members 135 = .ok (.if_icmp .le 7, 3) := by decide +kernel
theorem dL_members_138 : decode cL_members 138 = .ok (.iconst 1, 1) := by decide +kernel
theorem dL_members_139 : decode cL_members 139 = .ok (.goto 4, 3) := by decide +kernel
theorem dL_members_142 : decode cL_members 142 = .ok (.iconst 0, 1) := by decide +kernel
theorem dL_members_143 : decode cL_members 143 = .ok (.iadd, 1) := by decide +kernel
theorem dL_members_144 : decode cL_members 144 = .ok (.istore_n 1, 1) := by decide +kernel
theorem dL_members_145 : decode cL_members 145 = .ok (.iload_n 2, 1) := by decide +kernel
theorem dL_members_146 : decode cL_members 146 = .ok (.aload_n 0, 1) := by decide +kernel
theorem dL_members_147 : decode cL_members 147 = .ok (.iload 4, 2) := by decide +kernel
theorem dL_members_149 : decode cL_members 149 = .ok (.bipush 8, 2) := by decide +kernel
theorem dL_members_151 : decode cL_members 151 = .ok (.invokevirtual 23, 3) := by decide +kernel
theorem dL_members_154 : decode cL_members 154 = .ok (.iadd, 1) := by decide +kernel
theorem dL_members_155 : decode cL_members 155 = .ok (.istore_n 2, 1) := by decide +kernel
theorem dL_members_156 : decode cL_members 156 = .ok (.aload_n 0, 1) := by decide +kernel
theorem dL_members_157 : decode cL_members 157 = .ok (.iload 4, 2) := by decide +kernel
theorem dL_members_159 : decode cL_members 159 = .ok (.bipush 9, 2) := by decide +kernel
theorem dL_members_161 : decode cL_members 161 = .ok (.invokevirtual 23, 3) := by decide +kernel
theorem dL_members_164 : decode cL_members 164 = .ok (.istore 7, 2) := by decide +kernel
theorem dL_members_166 : decode cL_members 166 = .ok (.iload 6, 2) := by decide +kernel
theorem dL_members_168 : decode cL_members 168 = .ok (.iload 5, 2) := by decide +kernel
theorem dL_members_170 : decode cL_members 170 = .ok (.if_icmp .ne 54, 3) := by decide +kernel
theorem dL_members_173 : decode cL_members 173 = .ok (.aload_n 0, 1) := by decide +kernel
theorem dL_members_174 : decode cL_members 174 = .ok (.iload 4, 2) := by decide +kernel
theorem dL_members_176 : decode cL_members 176 = .ok (.iconst 0, 1) := by decide +kernel
theorem dL_members_177 : decode cL_members 177 = .ok (.invokevirtual 38, 3) := by decide +kernel
theorem dL_members_180 : decode cL_members 180 = .ok (.aload_n 0, 1) := by decide +kernel
theorem dL_members_181 : decode cL_members 181 = .ok (.bipush 13, 2) := by decide +kernel
theorem dL_members_183 : decode cL_members 183 = .ok (.invokevirtual 9, 3) := by decide +kernel
theorem dL_members_186 : decode cL_members 186 = .ok (.if_icmp .lt 38, 3) := by decide +kernel
theorem dL_members_189 : decode cL_members 189 = .ok (.aload_n 0, 1) := by decide +kernel
theorem dL_members_190 : decode cL_members 190 = .ok (.iload 4, 2) := by decide +kernel
theorem dL_members_192 : decode cL_members 192 = .ok (.iconst 2, 1) := by decide +kernel
theorem dL_members_193 : decode cL_members 193 = .ok (.invokevirtual 38, 3) := by decide +kernel
theorem dL_members_196 : decode cL_members 196 = .ok (.aload_n 0, 1) := by decide +kernel
theorem dL_members_197 : decode cL_members 197 = .ok (.bipush 14, 2) := by decide +kernel
theorem dL_members_199 : decode cL_members 199 = .ok (.invokevirtual 9, 3) := by decide +kernel
theorem dL_members_202 : decode cL_members 202 = .ok (.if_icmp .lt 22, 3) := by decide +kernel
theorem dL_members_205 : decode cL_members 205 = .ok (.aload_n 0, 1) := by decide +kernel
theorem dL_members_206 : decode cL_members 206 = .ok (.iload 4, 2) := by decide +kernel
theorem dL_members_208 : decode cL_members 208 = .ok (.iconst 0, 1) := by decide +kernel
theorem dL_members_209 : decode cL_members 209 = .ok (.sipush 168, 3) := by decide +kernel
theorem dL_members_212 : decode cL_members 212 = .ok (.invokevirtual 32, 3) := by decide +kernel
theorem dL_members_215 : decode cL_members 215 = .ok (.aload_n 0, 1) := by decide +kernel
theorem dL_members_216 : decode cL_members 216 = .ok (.bipush 15, 2) := by decide +kernel
theorem dL_members_218 : decode cL_members 218 = .ok (.invokevirtual 9, 3) := by decide +kernel
theorem dL_members_221 : decode cL_members 221 = .ok (.if_icmp .ge 5, 3) := by decide +kernel
theorem dL_members_224 : decode cL_members 224 = .ok (.iconst 0, 1) := by decide +kernel
theorem dL_members_225 : decode cL_members 225 = .ok (.ireturn, 1) := by decide +kernel
theorem dL_members_226 : decode cL_members 226 = .ok (.aload_n 0, 1) := by decide +kernel
theorem dL_members_227 : decode cL_members 227 = .ok (.iload 4, 2) := by decide +kernel
theorem dL_members_229 : decode cL_members 229 = .ok (.iconst 1, 1) := by decide +kernel
theorem dL_members_230 : decode cL_members 230 = .ok (.invokevirtual 38, 3) := by decide +kernel
theorem dL_members_233 : decode cL_members 233 = .ok (.istore 8, 2) := by decide +kernel
theorem dL_members_235 : decode cL_members 235 = .ok (.aload_n 0, 1) := by decide +kernel
theorem dL_members_236 : decode cL_members 236 = .ok (.iload 4, 2) := by decide +kernel
theorem dL_members_238 : decode cL_members 238 = .ok (.iload 8, 2) := by decide +kernel
theorem dL_members_240 : decode cL_members 240 = .ok (.bipush 24, 2) := by decide +kernel
theorem dL_members_242 : decode cL_members 242 = .ok (.invokevirtual 32, 3) := by decide +kernel
theorem dL_members_245 : decode cL_members 245 = .ok (.aload_n 0, 1) := by decide +kernel
theorem dL_members_246 : decode cL_members 246 = .ok (.iload 4, 2) := by decide +kernel
theorem dL_members_248 : decode cL_members 248 = .ok (.iconst 0, 1) := by decide +kernel
theorem dL_members_249 : decode cL_members 249 = .ok (.invokevirtual 38, 3) := by decide +kernel
theorem dL_members_252 : decode cL_members 252 = .ok (.if_icmp .ne 46, 3) := by decide +kernel
theorem dL_members_255 : decode cL_members 255 = .ok (.iload 7, 2) := by decide +kernel
theorem dL_members_257 : decode cL_members 257 = .ok (.ifCond .lt 7, 3) := by decide +kernel
theorem dL_members_260 : decode cL_members 260 = .ok (.iconst 1, 1) := by decide +kernel
theorem dL_members_261 : decode cL_members 261 = .ok (.goto 4, 3) := by decide +kernel
theorem dL_members_264 : decode cL_members 264 = .ok (.iconst 0, 1) := by decide +kernel
theorem dL_members_265 : decode cL_members 265 = .ok (.aload_n 0, 1) := by decide +kernel
theorem dL_members_266 : decode cL_members 266 = .ok (.iload 4, 2) := by decide +kernel
theorem dL_members_268 : decode cL_members 268 = .ok (.iconst 5, 1) := by decide +kernel
theorem dL_members_269 : decode cL_members 269 = .ok (.invokevirtual 23, 3) := by decide +kernel
theorem dL_members_272 : decode cL_members 272 = .ok (.ifCond .le 7, 3) := by decide +kernel
theorem dL_members_275 : decode cL_members 275 = .ok (.iconst 1, 1) := by decide +kernel
theorem dL_members_276 : decode cL_members 276 = .ok (.goto 4, 3) := by decide +kernel
theorem dL_members_279 : decode cL_members 279 = .ok (.iconst 0, 1) := by decide +kernel
theorem dL_members_280 : decode cL_members 280 = .ok (.if_icmp .ne 18, 3) := by decide +kernel
theorem dL_members_283 : decode cL_members 283 = .ok (.iload 7, 2) := by decide +kernel
theorem dL_members_285 : decode cL_members 285 = .ok (.ifCond .lt 15, 3) := by decide +kernel
theorem dL_members_288 : decode cL_members 288 = .ok (.aload_n 0, 1) := by decide +kernel
theorem dL_members_289 : decode cL_members 289 = .ok (.iload 7, 2) := by decide +kernel
theorem dL_members_291 : decode cL_members 291 = .ok (.iconst 0, 1) := by decide +kernel
theorem dL_members_292 : decode cL_members 292 = .ok (.invokevirtual 15, 3) := by decide +kernel
theorem dL_members_295 : decode cL_members 295 = .ok (.ifCond .eq 5, 3) := by decide +kernel
theorem dL_members_298 : decode cL_members 298 = .ok (.iconst 0, 1) := by decide +kernel
theorem dL_members_299 : decode cL_members 299 = .ok (.ireturn, 1) := by decide +kernel
theorem dL_members_300 : decode cL_members 300 = .ok (.iinc 4 1, 3) := by decide +kernel
theorem dL_members_303 : decode cL_members 303 = .ok (.goto (-294), 3) := by decide +kernel
theorem dL_members_306 : decode cL_members 306 = .ok (.iload_n 1, 1) := by decide +kernel
theorem dL_members_307 : decode cL_members 307 = .ok (.aload_n 0, 1) := by decide +kernel
theorem dL_members_308 : decode cL_members 308 = .ok (.bipush 6, 2) := by decide +kernel
theorem dL_members_310 : decode cL_members 310 = .ok (.invokevirtual 9, 3) := by decide +kernel
theorem dL_members_313 : decode cL_members 313 = .ok (.if_icmp .ne 27, 3) := by decide +kernel
theorem dL_members_316 : decode cL_members 316 = .ok (.iload_n 2, 1) := by decide +kernel
theorem dL_members_317 : decode cL_members 317 = .ok (.aload_n 0, 1) := by decide +kernel
theorem dL_members_318 : decode cL_members 318 = .ok (.bipush 9, 2) := by decide +kernel
theorem dL_members_320 : decode cL_members 320 = .ok (.invokevirtual 9, 3) := by decide +kernel
theorem dL_members_323 : decode cL_members 323 = .ok (.if_icmp .ne 17, 3) := by decide +kernel
theorem dL_members_326 : decode cL_members 326 = .ok (.iload_n 3, 1) := by decide +kernel
theorem dL_members_327 : decode cL_members 327 = .ok (.aload_n 0, 1) := by decide +kernel
theorem dL_members_328 : decode cL_members 328 = .ok (.bipush 10, 2) := by decide +kernel
theorem dL_members_330 : decode cL_members 330 = .ok (.invokevirtual 9, 3) := by decide +kernel
theorem dL_members_333 : decode cL_members 333 = .ok (.if_icmp .ne 7, 3) := by decide +kernel
theorem dL_members_336 : decode cL_members 336 = .ok (.iconst 1, 1) := by decide +kernel
theorem dL_members_337 : decode cL_members 337 = .ok (.goto 4, 3) := by decide +kernel
theorem dL_members_340 : decode cL_members 340 = .ok (.iconst 0, 1) := by decide +kernel
theorem dL_members_341 : decode cL_members 341 = .ok (.ireturn, 1) := by decide +kernel
set_option maxRecDepth 20000 in
theorem wc_X7_rest : Cond.code yX7_rest cX7_rest 4 (some .int) ∈ zB := List.mem_filter.mpr ⟨List.mem_of_getElem? (i := 287) (by decide +kernel), by decide +kernel⟩
set_option maxRecDepth 20000 in
theorem wm_L_32 : Cond.methodLink RL 32 yX7_rest ∈ zB := List.mem_filter.mpr ⟨List.mem_of_getElem? (i := 284) (by decide +kernel), by decide +kernel⟩
theorem k_L_32 : zCal RL 32 yX7_rest cX7_rest 4 (some .int) 3 := ⟨wm_L_32, wi_X7, wc_X7_rest, by decide +kernel, by decide +kernel, by decide +kernel⟩
set_option maxRecDepth 20000 in
theorem wn_X7_rest : Cond.instanceMethod yX7_rest ∈ zB := List.mem_filter.mpr ⟨List.mem_of_getElem? (i := 285) (by decide +kernel), by decide +kernel⟩
set_option maxRecDepth 20000 in
theorem ws_X7_rest : Cond.selects RX7 yX7_rest yX7_rest ∈ zB := List.mem_filter.mpr ⟨List.mem_of_getElem? (i := 286) (by decide +kernel), by decide +kernel⟩
theorem v_X7_rest : zVir yX7_rest 7 := ⟨wn_X7_rest, ws_X7_rest, TX7, 6, rfl⟩
set_option maxRecDepth 20000 in
theorem wc_X7_leastRest : Cond.code yX7_leastRest cX7_leastRest 5 (some .int) ∈ zB := List.mem_filter.mpr ⟨List.mem_of_getElem? (i := 490) (by decide +kernel), by decide +kernel⟩
set_option maxRecDepth 20000 in
theorem wm_L_38 : Cond.methodLink RL 38 yX7_leastRest ∈ zB := List.mem_filter.mpr ⟨List.mem_of_getElem? (i := 487) (by decide +kernel), by decide +kernel⟩
theorem k_L_38 : zCal RL 38 yX7_leastRest cX7_leastRest 5 (some .int) 2 := ⟨wm_L_38, wi_X7, wc_X7_leastRest, by decide +kernel, by decide +kernel, by decide +kernel⟩
set_option maxRecDepth 20000 in
theorem wn_X7_leastRest : Cond.instanceMethod yX7_leastRest ∈ zB := List.mem_filter.mpr ⟨List.mem_of_getElem? (i := 488) (by decide +kernel), by decide +kernel⟩
set_option maxRecDepth 20000 in
theorem ws_X7_leastRest : Cond.selects RX7 yX7_leastRest yX7_leastRest ∈ zB := List.mem_filter.mpr ⟨List.mem_of_getElem? (i := 489) (by decide +kernel), by decide +kernel⟩
theorem v_X7_leastRest : zVir yX7_leastRest 7 := ⟨wn_X7_leastRest, ws_X7_leastRest, TX7, 6, rfl⟩
set_option maxRecDepth 20000 in
theorem wc_X7_overtime : Cond.code yX7_overtime cX7_overtime 3 (some .int) ∈ zB := List.mem_filter.mpr ⟨List.mem_of_getElem? (i := 485) (by decide +kernel), by decide +kernel⟩
set_option maxRecDepth 20000 in
theorem wm_L_35 : Cond.methodLink RL 35 yX7_overtime ∈ zB := List.mem_filter.mpr ⟨List.mem_of_getElem? (i := 482) (by decide +kernel), by decide +kernel⟩
theorem k_L_35 : zCal RL 35 yX7_overtime cX7_overtime 3 (some .int) 2 := ⟨wm_L_35, wi_X7, wc_X7_overtime, by decide +kernel, by decide +kernel, by decide +kernel⟩
set_option maxRecDepth 20000 in
theorem wn_X7_overtime : Cond.instanceMethod yX7_overtime ∈ zB := List.mem_filter.mpr ⟨List.mem_of_getElem? (i := 483) (by decide +kernel), by decide +kernel⟩
set_option maxRecDepth 20000 in
theorem ws_X7_overtime : Cond.selects RX7 yX7_overtime yX7_overtime ∈ zB := List.mem_filter.mpr ⟨List.mem_of_getElem? (i := 484) (by decide +kernel), by decide +kernel⟩
theorem v_X7_overtime : zVir yX7_overtime 7 := ⟨wn_X7_overtime, ws_X7_overtime, TX7, 6, rfl⟩
def rm_L_members : Room := { frames := 6, cells := 0, slots := 0, locals := 133 }
set_option maxHeartbeats 4000000 in
set_option maxRecDepth 20000 in
theorem t_L_members_340 {p : Program} {l : Launch} {e : Env} {s : State} {m : MethodId} {args : Array Value} {below : List Frame} {meth : Method} {c : Code} {G : zG} (Z : zF p s m args c meth cL_members 10 RL G) (hr : meth.sig.returnType = (some .boolean)) {out : Int32 × zHp} {h : zHp} {H : Heap} {locs : List Loc} {ls : Array Slot} (hf : f_L_members_340 h = some out) (E : zE G s h H locs) (hl : lv_has ls 10 []) : W p l e rm_L_members s m args below meth c H locs 0 0 (MQ below (zQi G out.1 out.2) args s 0 0 (zA G)) (F0 m 340 ls []) := by
  unfold f_L_members_340 at hf
  refine lv_iconst (v := 0) Z.x Z.b dL_members_340 (by decide) ?_
  exact z_zret Z E hr dL_members_341 hf
set_option maxHeartbeats 4000000 in
set_option maxRecDepth 20000 in
theorem t_L_members_300 {p : Program} {l : Launch} {e : Env} {s : State} {m : MethodId} {args : Array Value} {below : List Frame} {meth : Method} {c : Code} {G : zG} (Z : zF p s m args c meth cL_members 10 RL G) (hr : meth.sig.returnType = (some .boolean)) {out : Int32 × zHp} {r9 : Nat → Int32 → Int32 → Int32 → Int32 → zHp → Option (Int32 × zHp)} (k9 : ∀ {a0 : Nat} {a1 : Int32} {a2 : Int32} {a3 : Int32} {a4 : Int32} {h : zHp} {H : Heap} {locs : List Loc} {ls : Array Slot}, r9 a0 a1 a2 a3 a4 h = some out → zE G s h H locs → lv_has ls 10 [(0, .ref a0), (1, .int a1), (2, .int a2), (3, .int a3), (4, .int a4)] → W p l e rm_L_members s m args below meth c H locs 0 0 (MQ below (zQi G out.1 out.2) args s 0 0 (zA G)) (F0 m 9 ls [])) {a0 : Nat} {a1 : Int32} {a2 : Int32} {a3 : Int32} {a4 : Int32} {h : zHp} {H : Heap} {locs : List Loc} {ls : Array Slot} (hf : f_L_members_300 r9 a0 a1 a2 a3 a4 h = some out) (E : zE G s h H locs) (hl : lv_has ls 10 [(0, .ref a0), (1, .int a1), (2, .int a2), (3, .int a3), (4, .int a4)]) : W p l e rm_L_members s m args below meth c H locs 0 0 (MQ below (zQi G out.1 out.2) args s 0 0 (zA G)) (F0 m 300 ls []) := by
  unfold f_L_members_300 at hf
  refine lv_iinc (v := (a4 + 1)) (lv' := [(4, .int (a4 + 1)), (0, .ref a0), (1, .int a1), (2, .int a2), (3, .int a3)]) Z.x Z.b dL_members_300 hl (k := 4) rfl rfl (by decide) rfl (fun ls hl => ?_)
  refine lv_goto (tgt := 9) Z.x Z.b dL_members_303 (by decide) ?_
  exact k9 hf E (lv_sub hl [1, 2, 3, 4, 0] rfl)
set_option maxHeartbeats 4000000 in
set_option maxRecDepth 20000 in
theorem t_L_members_280 {p : Program} {l : Launch} {e : Env} {s : State} {m : MethodId} {args : Array Value} {below : List Frame} {meth : Method} {c : Code} {G : zG} (Z : zF p s m args c meth cL_members 10 RL G) (hr : meth.sig.returnType = (some .boolean)) {out : Int32 × zHp} {r9 : Nat → Int32 → Int32 → Int32 → Int32 → zHp → Option (Int32 × zHp)} (k9 : ∀ {a0 : Nat} {a1 : Int32} {a2 : Int32} {a3 : Int32} {a4 : Int32} {h : zHp} {H : Heap} {locs : List Loc} {ls : Array Slot}, r9 a0 a1 a2 a3 a4 h = some out → zE G s h H locs → lv_has ls 10 [(0, .ref a0), (1, .int a1), (2, .int a2), (3, .int a3), (4, .int a4)] → W p l e rm_L_members s m args below meth c H locs 0 0 (MQ below (zQi G out.1 out.2) args s 0 0 (zA G)) (F0 m 9 ls [])) {a0 : Nat} {a1 : Int32} {a2 : Int32} {a3 : Int32} {a4 : Int32} {a7 : Int32} {s0 : Int32} {s1 : Int32} {h : zHp} {H : Heap} {locs : List Loc} {ls : Array Slot} (hf : f_L_members_280 r9 a0 a1 a2 a3 a4 a7 s0 s1 h = some out) (E : zE G s h H locs) (hl : lv_has ls 10 [(0, .ref a0), (1, .int a1), (2, .int a2), (3, .int a3), (4, .int a4), (7, .int a7)]) : W p l e rm_L_members s m args below meth c H locs 0 0 (MQ below (zQi G out.1 out.2) args s 0 0 (zA G)) (F0 m 280 ls [.int s0, .int s1]) := by
  unfold f_L_members_280 at hf
  refine lv_icmp_ne (tgt := 298) Z.x Z.b dL_members_280 (by decide) (fun c => ?_) (fun c => ?_)
  · have hf := zif_ hf c
    refine lv_iconst (v := 0) Z.x Z.b dL_members_298 (by decide) ?_
    exact z_zret Z E hr dL_members_299 hf
  · have hf := zit hf c
    refine lv_iload Z.x Z.b dL_members_283 (lv_at hl 5 rfl) ?_
    refine lv_if_lt (tgt := 300) Z.x Z.b dL_members_285 (by decide) (fun c => ?_) (fun c => ?_)
    · have hf := zit hf c
      exact t_L_members_300 Z hr k9 hf E (lv_sub hl [0, 1, 2, 3, 4] rfl)
    · have hf := zif_ hf c
      refine lv_aload_n Z.x Z.b dL_members_288 rfl (lv_at hl 0 rfl) ?_
      refine lv_iload Z.x Z.b dL_members_289 (lv_at hl 5 rfl) ?_
      refine lv_iconst (v := 0) Z.x Z.b dL_members_291 (by decide) ?_
      refine z_Vi (As := [.int a7, .int 0]) Z E hl.1 k_L_15 v_X7_sailingOf hf (fun r h' e => c_X7_sailingOf l G h h' a0 a7 0 r e) rfl rfl (Nat.le_of_ble_eq_true rfl) (zRm_of rfl (Nat.zero_le _) (Nat.zero_le _)) dL_members_292 (fun v1 h2 H locs hf E => ?_)
      refine lv_if_eq (tgt := 300) Z.x Z.b dL_members_295 (by decide) (fun c => ?_) (fun c => ?_)
      · have hf := zit hf c
        exact t_L_members_300 Z hr k9 hf E (lv_sub hl [0, 1, 2, 3, 4] rfl)
      · have hf := zif_ hf c
        refine lv_iconst (v := 0) Z.x Z.b dL_members_298 (by decide) ?_
        exact z_zret Z E hr dL_members_299 hf
set_option maxHeartbeats 4000000 in
set_option maxRecDepth 20000 in
theorem t_L_members_265 {p : Program} {l : Launch} {e : Env} {s : State} {m : MethodId} {args : Array Value} {below : List Frame} {meth : Method} {c : Code} {G : zG} (Z : zF p s m args c meth cL_members 10 RL G) (hr : meth.sig.returnType = (some .boolean)) {out : Int32 × zHp} {r9 : Nat → Int32 → Int32 → Int32 → Int32 → zHp → Option (Int32 × zHp)} (k9 : ∀ {a0 : Nat} {a1 : Int32} {a2 : Int32} {a3 : Int32} {a4 : Int32} {h : zHp} {H : Heap} {locs : List Loc} {ls : Array Slot}, r9 a0 a1 a2 a3 a4 h = some out → zE G s h H locs → lv_has ls 10 [(0, .ref a0), (1, .int a1), (2, .int a2), (3, .int a3), (4, .int a4)] → W p l e rm_L_members s m args below meth c H locs 0 0 (MQ below (zQi G out.1 out.2) args s 0 0 (zA G)) (F0 m 9 ls [])) {a0 : Nat} {a1 : Int32} {a2 : Int32} {a3 : Int32} {a4 : Int32} {a7 : Int32} {s0 : Int32} {h : zHp} {H : Heap} {locs : List Loc} {ls : Array Slot} (hf : f_L_members_265 r9 a0 a1 a2 a3 a4 a7 s0 h = some out) (E : zE G s h H locs) (hl : lv_has ls 10 [(0, .ref a0), (1, .int a1), (2, .int a2), (3, .int a3), (4, .int a4), (7, .int a7)]) : W p l e rm_L_members s m args below meth c H locs 0 0 (MQ below (zQi G out.1 out.2) args s 0 0 (zA G)) (F0 m 265 ls [.int s0]) := by
  unfold f_L_members_265 at hf
  refine lv_aload_n Z.x Z.b dL_members_265 rfl (lv_at hl 0 rfl) ?_
  refine lv_iload Z.x Z.b dL_members_266 (lv_at hl 4 rfl) ?_
  refine lv_iconst (v := 5) Z.x Z.b dL_members_268 (by decide) ?_
  refine z_Vi (As := [.int a4, .int 5]) Z E hl.1 k_L_23 v_X7_memberOf hf (fun r h' e => c_X7_memberOf l G h h' a0 a4 5 r e) rfl rfl (Nat.le_of_ble_eq_true rfl) (zRm_of rfl (Nat.zero_le _) (Nat.zero_le _)) dL_members_269 (fun v1 h2 H locs hf E => ?_)
  refine lv_if_le (tgt := 279) Z.x Z.b dL_members_272 (by decide) (fun c => ?_) (fun c => ?_)
  · have hf := zit hf c
    refine lv_iconst (v := 0) Z.x Z.b dL_members_279 (by decide) ?_
    exact t_L_members_280 Z hr k9 hf E (lv_sub hl [0, 1, 2, 3, 4, 5] rfl)
  · have hf := zif_ hf c
    refine lv_iconst (v := 1) Z.x Z.b dL_members_275 (by decide) ?_
    refine lv_goto (tgt := 280) Z.x Z.b dL_members_276 (by decide) ?_
    exact t_L_members_280 Z hr k9 hf E (lv_sub hl [0, 1, 2, 3, 4, 5] rfl)
set_option maxHeartbeats 4000000 in
set_option maxRecDepth 20000 in
theorem t_L_members_143 {p : Program} {l : Launch} {e : Env} {s : State} {m : MethodId} {args : Array Value} {below : List Frame} {meth : Method} {c : Code} {G : zG} (Z : zF p s m args c meth cL_members 10 RL G) (hr : meth.sig.returnType = (some .boolean)) {out : Int32 × zHp} {r9 : Nat → Int32 → Int32 → Int32 → Int32 → zHp → Option (Int32 × zHp)} (k9 : ∀ {a0 : Nat} {a1 : Int32} {a2 : Int32} {a3 : Int32} {a4 : Int32} {h : zHp} {H : Heap} {locs : List Loc} {ls : Array Slot}, r9 a0 a1 a2 a3 a4 h = some out → zE G s h H locs → lv_has ls 10 [(0, .ref a0), (1, .int a1), (2, .int a2), (3, .int a3), (4, .int a4)] → W p l e rm_L_members s m args below meth c H locs 0 0 (MQ below (zQi G out.1 out.2) args s 0 0 (zA G)) (F0 m 9 ls [])) {a0 : Nat} {a2 : Int32} {a3 : Int32} {a4 : Int32} {a5 : Int32} {a6 : Int32} {s0 : Int32} {s1 : Int32} {h : zHp} {H : Heap} {locs : List Loc} {ls : Array Slot} (hf : f_L_members_143 r9 a0 a2 a3 a4 a5 a6 s0 s1 h = some out) (E : zE G s h H locs) (hl : lv_has ls 10 [(0, .ref a0), (2, .int a2), (3, .int a3), (4, .int a4), (5, .int a5), (6, .int a6)]) : W p l e rm_L_members s m args below meth c H locs 0 0 (MQ below (zQi G out.1 out.2) args s 0 0 (zA G)) (F0 m 143 ls [.int s0, .int s1]) := by
  unfold f_L_members_143 at hf
  refine lv_iadd Z.x Z.b dL_members_143 ?_
  refine lv_istore_n (lv' := [(1, .int (s1 + s0)), (0, .ref a0), (2, .int a2), (3, .int a3), (4, .int a4), (5, .int a5), (6, .int a6)]) Z.x Z.b dL_members_144 rfl hl (by decide) rfl (fun ls hl => ?_)
  refine lv_iload_n Z.x Z.b dL_members_145 rfl (lv_at hl 2 rfl) ?_
  refine lv_aload_n Z.x Z.b dL_members_146 rfl (lv_at hl 1 rfl) ?_
  refine lv_iload Z.x Z.b dL_members_147 (lv_at hl 4 rfl) ?_
  refine lv_bipush (v := 8) Z.x Z.b dL_members_149 (by decide) ?_
  refine z_Vi (As := [.int a4, .int 8]) Z E hl.1 k_L_23 v_X7_memberOf hf (fun r h' e => c_X7_memberOf l G h h' a0 a4 8 r e) rfl rfl (Nat.le_of_ble_eq_true rfl) (zRm_of rfl (Nat.zero_le _) (Nat.zero_le _)) dL_members_151 (fun v1 h2 H locs hf E => ?_)
  refine lv_iadd Z.x Z.b dL_members_154 ?_
  refine lv_istore_n (lv' := [(2, .int (a2 + v1)), (1, .int (s1 + s0)), (0, .ref a0), (3, .int a3), (4, .int a4), (5, .int a5), (6, .int a6)]) Z.x Z.b dL_members_155 rfl hl (by decide) rfl (fun ls hl => ?_)
  refine lv_aload_n Z.x Z.b dL_members_156 rfl (lv_at hl 2 rfl) ?_
  refine lv_iload Z.x Z.b dL_members_157 (lv_at hl 4 rfl) ?_
  refine lv_bipush (v := 9) Z.x Z.b dL_members_159 (by decide) ?_
  refine z_Vi (As := [.int a4, .int 9]) Z E hl.1 k_L_23 v_X7_memberOf hf (fun r h' e => c_X7_memberOf l G h2 h' a0 a4 9 r e) rfl rfl (Nat.le_of_ble_eq_true rfl) (zRm_of rfl (Nat.zero_le _) (Nat.zero_le _)) dL_members_161 (fun v3 h4 H locs hf E => ?_)
  refine lv_istore (lv' := [(7, .int v3), (2, .int (a2 + v1)), (1, .int (s1 + s0)), (0, .ref a0), (3, .int a3), (4, .int a4), (5, .int a5), (6, .int a6)]) Z.x Z.b dL_members_164 hl (by decide) rfl (fun ls hl => ?_)
  refine lv_iload Z.x Z.b dL_members_166 (lv_at hl 7 rfl) ?_
  refine lv_iload Z.x Z.b dL_members_168 (lv_at hl 6 rfl) ?_
  refine lv_icmp_ne (tgt := 224) Z.x Z.b dL_members_170 (by decide) (fun c => ?_) (fun c => ?_)
  · have hf := zif_ hf c
    refine lv_iconst (v := 0) Z.x Z.b dL_members_224 (by decide) ?_
    exact z_zret Z E hr dL_members_225 hf
  · have hf := zit hf c
    refine lv_aload_n Z.x Z.b dL_members_173 rfl (lv_at hl 3 rfl) ?_
    refine lv_iload Z.x Z.b dL_members_174 (lv_at hl 5 rfl) ?_
    refine lv_iconst (v := 0) Z.x Z.b dL_members_176 (by decide) ?_
    refine z_Vi (As := [.int a4, .int 0]) Z E hl.1 k_L_38 v_X7_leastRest hf (fun r h' e => c_X7_leastRest l G h4 h' a0 a4 0 r e) rfl rfl (Nat.le_of_ble_eq_true rfl) (zRm_of rfl (Nat.zero_le _) (Nat.zero_le _)) dL_members_177 (fun v5 h6 H locs hf E => ?_)
    refine lv_aload_n Z.x Z.b dL_members_180 rfl (lv_at hl 3 rfl) ?_
    refine lv_bipush (v := 13) Z.x Z.b dL_members_181 (by decide) ?_
    refine z_Vi (As := [.int 13]) Z E hl.1 k_L_9 v_X7_count hf (fun r h' e => c_X7_count l G h6 h' a0 13 r e) rfl rfl (Nat.le_of_ble_eq_true rfl) (zRm_of rfl (Nat.zero_le _) (Nat.zero_le _)) dL_members_183 (fun v7 h8 H locs hf E => ?_)
    refine lv_icmp_lt (tgt := 224) Z.x Z.b dL_members_186 (by decide) (fun c => ?_) (fun c => ?_)
    · have hf := zit hf c
      refine lv_iconst (v := 0) Z.x Z.b dL_members_224 (by decide) ?_
      exact z_zret Z E hr dL_members_225 hf
    · have hf := zif_ hf c
      refine lv_aload_n Z.x Z.b dL_members_189 rfl (lv_at hl 3 rfl) ?_
      refine lv_iload Z.x Z.b dL_members_190 (lv_at hl 5 rfl) ?_
      refine lv_iconst (v := 2) Z.x Z.b dL_members_192 (by decide) ?_
      refine z_Vi (As := [.int a4, .int 2]) Z E hl.1 k_L_38 v_X7_leastRest hf (fun r h' e => c_X7_leastRest l G h8 h' a0 a4 2 r e) rfl rfl (Nat.le_of_ble_eq_true rfl) (zRm_of rfl (Nat.zero_le _) (Nat.zero_le _)) dL_members_193 (fun v9 h10 H locs hf E => ?_)
      refine lv_aload_n Z.x Z.b dL_members_196 rfl (lv_at hl 3 rfl) ?_
      refine lv_bipush (v := 14) Z.x Z.b dL_members_197 (by decide) ?_
      refine z_Vi (As := [.int 14]) Z E hl.1 k_L_9 v_X7_count hf (fun r h' e => c_X7_count l G h10 h' a0 14 r e) rfl rfl (Nat.le_of_ble_eq_true rfl) (zRm_of rfl (Nat.zero_le _) (Nat.zero_le _)) dL_members_199 (fun v11 h12 H locs hf E => ?_)
      refine lv_icmp_lt (tgt := 224) Z.x Z.b dL_members_202 (by decide) (fun c => ?_) (fun c => ?_)
      · have hf := zit hf c
        refine lv_iconst (v := 0) Z.x Z.b dL_members_224 (by decide) ?_
        exact z_zret Z E hr dL_members_225 hf
      · have hf := zif_ hf c
        refine lv_aload_n Z.x Z.b dL_members_205 rfl (lv_at hl 3 rfl) ?_
        refine lv_iload Z.x Z.b dL_members_206 (lv_at hl 5 rfl) ?_
        refine lv_iconst (v := 0) Z.x Z.b dL_members_208 (by decide) ?_
        refine lv_sipush (v := 168) Z.x Z.b dL_members_209 (by decide) ?_
        refine z_Vi (As := [.int a4, .int 0, .int 168]) Z E hl.1 k_L_32 v_X7_rest hf (fun r h' e => c_X7_rest l G h12 h' a0 a4 0 168 r e) rfl rfl (Nat.le_of_ble_eq_true rfl) (zRm_of rfl (Nat.zero_le _) (Nat.zero_le _)) dL_members_212 (fun v13 h14 H locs hf E => ?_)
        refine lv_aload_n Z.x Z.b dL_members_215 rfl (lv_at hl 3 rfl) ?_
        refine lv_bipush (v := 15) Z.x Z.b dL_members_216 (by decide) ?_
        refine z_Vi (As := [.int 15]) Z E hl.1 k_L_9 v_X7_count hf (fun r h' e => c_X7_count l G h14 h' a0 15 r e) rfl rfl (Nat.le_of_ble_eq_true rfl) (zRm_of rfl (Nat.zero_le _) (Nat.zero_le _)) dL_members_218 (fun v15 h16 H locs hf E => ?_)
        refine lv_icmp_ge (tgt := 226) Z.x Z.b dL_members_221 (by decide) (fun c => ?_) (fun c => ?_)
        · have hf := zit hf c
          refine lv_aload_n Z.x Z.b dL_members_226 rfl (lv_at hl 3 rfl) ?_
          refine lv_iload Z.x Z.b dL_members_227 (lv_at hl 5 rfl) ?_
          refine lv_iconst (v := 1) Z.x Z.b dL_members_229 (by decide) ?_
          refine z_Vi (As := [.int a4, .int 1]) Z E hl.1 k_L_38 v_X7_leastRest hf (fun r h' e => c_X7_leastRest l G h16 h' a0 a4 1 r e) rfl rfl (Nat.le_of_ble_eq_true rfl) (zRm_of rfl (Nat.zero_le _) (Nat.zero_le _)) dL_members_230 (fun v17 h18 H locs hf E => ?_)
          refine lv_istore (lv' := [(8, .int v17), (7, .int v3), (2, .int (a2 + v1)), (1, .int (s1 + s0)), (0, .ref a0), (3, .int a3), (4, .int a4), (5, .int a5), (6, .int a6)]) Z.x Z.b dL_members_233 hl (by decide) rfl (fun ls hl => ?_)
          refine lv_aload_n Z.x Z.b dL_members_235 rfl (lv_at hl 4 rfl) ?_
          refine lv_iload Z.x Z.b dL_members_236 (lv_at hl 6 rfl) ?_
          refine lv_iload Z.x Z.b dL_members_238 (lv_at hl 0 rfl) ?_
          refine lv_bipush (v := 24) Z.x Z.b dL_members_240 (by decide) ?_
          refine z_Vi (As := [.int a4, .int v17, .int 24]) Z E hl.1 k_L_32 v_X7_rest hf (fun r h' e => c_X7_rest l G h18 h' a0 a4 v17 24 r e) rfl rfl (Nat.le_of_ble_eq_true rfl) (zRm_of rfl (Nat.zero_le _) (Nat.zero_le _)) dL_members_242 (fun v19 h20 H locs hf E => ?_)
          refine lv_aload_n Z.x Z.b dL_members_245 rfl (lv_at hl 4 rfl) ?_
          refine lv_iload Z.x Z.b dL_members_246 (lv_at hl 6 rfl) ?_
          refine lv_iconst (v := 0) Z.x Z.b dL_members_248 (by decide) ?_
          refine z_Vi (As := [.int a4, .int 0]) Z E hl.1 k_L_38 v_X7_leastRest hf (fun r h' e => c_X7_leastRest l G h20 h' a0 a4 0 r e) rfl rfl (Nat.le_of_ble_eq_true rfl) (zRm_of rfl (Nat.zero_le _) (Nat.zero_le _)) dL_members_249 (fun v21 h22 H locs hf E => ?_)
          refine lv_icmp_ne (tgt := 298) Z.x Z.b dL_members_252 (by decide) (fun c => ?_) (fun c => ?_)
          · have hf := zif_ hf c
            refine lv_iconst (v := 0) Z.x Z.b dL_members_298 (by decide) ?_
            exact z_zret Z E hr dL_members_299 hf
          · have hf := zit hf c
            refine lv_iload Z.x Z.b dL_members_255 (lv_at hl 1 rfl) ?_
            refine lv_if_lt (tgt := 264) Z.x Z.b dL_members_257 (by decide) (fun c => ?_) (fun c => ?_)
            · have hf := zit hf c
              refine lv_iconst (v := 0) Z.x Z.b dL_members_264 (by decide) ?_
              exact t_L_members_265 Z hr k9 hf E (lv_sub hl [4, 3, 2, 5, 6, 1] rfl)
            · have hf := zif_ hf c
              refine lv_iconst (v := 1) Z.x Z.b dL_members_260 (by decide) ?_
              refine lv_goto (tgt := 265) Z.x Z.b dL_members_261 (by decide) ?_
              exact t_L_members_265 Z hr k9 hf E (lv_sub hl [4, 3, 2, 5, 6, 1] rfl)
        · have hf := zif_ hf c
          refine lv_iconst (v := 0) Z.x Z.b dL_members_224 (by decide) ?_
          exact z_zret Z E hr dL_members_225 hf
set_option maxHeartbeats 4000000 in
set_option maxRecDepth 20000 in
theorem t_L_members_94 {p : Program} {l : Launch} {e : Env} {s : State} {m : MethodId} {args : Array Value} {below : List Frame} {meth : Method} {c : Code} {G : zG} (Z : zF p s m args c meth cL_members 10 RL G) (hr : meth.sig.returnType = (some .boolean)) {out : Int32 × zHp} {r9 : Nat → Int32 → Int32 → Int32 → Int32 → zHp → Option (Int32 × zHp)} (k9 : ∀ {a0 : Nat} {a1 : Int32} {a2 : Int32} {a3 : Int32} {a4 : Int32} {h : zHp} {H : Heap} {locs : List Loc} {ls : Array Slot}, r9 a0 a1 a2 a3 a4 h = some out → zE G s h H locs → lv_has ls 10 [(0, .ref a0), (1, .int a1), (2, .int a2), (3, .int a3), (4, .int a4)] → W p l e rm_L_members s m args below meth c H locs 0 0 (MQ below (zQi G out.1 out.2) args s 0 0 (zA G)) (F0 m 9 ls [])) {r35 : Nat → Int32 → Int32 → Int32 → Int32 → Int32 → Int32 → Int32 → zHp → Option (Int32 × zHp)} (k35 : ∀ {a0 : Nat} {a1 : Int32} {a2 : Int32} {a3 : Int32} {a4 : Int32} {a5 : Int32} {a6 : Int32} {a7 : Int32} {h : zHp} {H : Heap} {locs : List Loc} {ls : Array Slot}, r35 a0 a1 a2 a3 a4 a5 a6 a7 h = some out → zE G s h H locs → lv_has ls 10 [(0, .ref a0), (1, .int a1), (2, .int a2), (3, .int a3), (4, .int a4), (5, .int a5), (6, .int a6), (7, .int a7)] → W p l e rm_L_members s m args below meth c H locs 0 0 (MQ below (zQi G out.1 out.2) args s 0 0 (zA G)) (F0 m 35 ls [])) {a0 : Nat} {a1 : Int32} {a2 : Int32} {a3 : Int32} {a4 : Int32} {a5 : Int32} {a6 : Int32} {a7 : Int32} {s0 : Int32} {h : zHp} {H : Heap} {locs : List Loc} {ls : Array Slot} (hf : f_L_members_94 r9 r35 a0 a1 a2 a3 a4 a5 a6 a7 s0 h = some out) (E : zE G s h H locs) (hl : lv_has ls 10 [(0, .ref a0), (1, .int a1), (2, .int a2), (3, .int a3), (4, .int a4), (5, .int a5), (6, .int a6), (7, .int a7)]) : W p l e rm_L_members s m args below meth c H locs 0 0 (MQ below (zQi G out.1 out.2) args s 0 0 (zA G)) (F0 m 94 ls [.int s0]) := by
  unfold f_L_members_94 at hf
  refine lv_istore (lv' := [(9, .int s0), (0, .ref a0), (1, .int a1), (2, .int a2), (3, .int a3), (4, .int a4), (5, .int a5), (6, .int a6), (7, .int a7)]) Z.x Z.b dL_members_94 hl (by decide) rfl (fun ls hl => ?_)
  refine lv_aload_n Z.x Z.b dL_members_96 rfl (lv_at hl 1 rfl) ?_
  refine lv_iload Z.x Z.b dL_members_97 (lv_at hl 5 rfl) ?_
  refine lv_iload Z.x Z.b dL_members_99 (lv_at hl 8 rfl) ?_
  refine z_Vi (As := [.int a4, .int a7]) Z E hl.1 k_L_35 v_X7_overtime hf (fun r h' e => c_X7_overtime l G h h' a0 a4 a7 r e) rfl rfl (Nat.le_of_ble_eq_true rfl) (zRm_of rfl (Nat.zero_le _) (Nat.zero_le _)) dL_members_101 (fun v1 h2 H locs hf E => ?_)
  refine lv_iload Z.x Z.b dL_members_104 (lv_at hl 0 rfl) ?_
  refine lv_icmp_eq (tgt := 111) Z.x Z.b dL_members_106 (by decide) (fun c => ?_) (fun c => ?_)
  · have hf := zit hf c
    refine lv_iload_n Z.x Z.b dL_members_111 rfl (lv_at hl 4 rfl) ?_
    refine lv_iload Z.x Z.b dL_members_112 (lv_at hl 0 rfl) ?_
    refine lv_iadd Z.x Z.b dL_members_114 ?_
    refine lv_istore_n (lv' := [(3, .int (a3 + s0)), (9, .int s0), (0, .ref a0), (1, .int a1), (2, .int a2), (4, .int a4), (5, .int a5), (6, .int a6), (7, .int a7)]) Z.x Z.b dL_members_115 rfl hl (by decide) rfl (fun ls hl => ?_)
    refine lv_iinc (v := (a7 + 1)) (lv' := [(7, .int (a7 + 1)), (3, .int (a3 + s0)), (9, .int s0), (0, .ref a0), (1, .int a1), (2, .int a2), (4, .int a4), (5, .int a5), (6, .int a6)]) Z.x Z.b dL_members_116 hl (k := 8) rfl rfl (by decide) rfl (fun ls hl => ?_)
    refine lv_goto (tgt := 35) Z.x Z.b dL_members_119 (by decide) ?_
    exact k35 hf E (lv_sub hl [3, 4, 5, 1, 6, 7, 8, 0] rfl)
  · have hf := zif_ hf c
    refine lv_iconst (v := 0) Z.x Z.b dL_members_109 (by decide) ?_
    exact z_zret Z E hr dL_members_110 hf
set_option maxHeartbeats 4000000 in
set_option maxRecDepth 20000 in
theorem t_L_members_35_body {p : Program} {l : Launch} {e : Env} {s : State} {m : MethodId} {args : Array Value} {below : List Frame} {meth : Method} {c : Code} {G : zG} (Z : zF p s m args c meth cL_members 10 RL G) (hr : meth.sig.returnType = (some .boolean)) {out : Int32 × zHp} {r9 : Nat → Int32 → Int32 → Int32 → Int32 → zHp → Option (Int32 × zHp)} (k9 : ∀ {a0 : Nat} {a1 : Int32} {a2 : Int32} {a3 : Int32} {a4 : Int32} {h : zHp} {H : Heap} {locs : List Loc} {ls : Array Slot}, r9 a0 a1 a2 a3 a4 h = some out → zE G s h H locs → lv_has ls 10 [(0, .ref a0), (1, .int a1), (2, .int a2), (3, .int a3), (4, .int a4)] → W p l e rm_L_members s m args below meth c H locs 0 0 (MQ below (zQi G out.1 out.2) args s 0 0 (zA G)) (F0 m 9 ls [])) {r35 : Nat → Int32 → Int32 → Int32 → Int32 → Int32 → Int32 → Int32 → zHp → Option (Int32 × zHp)} (k35 : ∀ {a0 : Nat} {a1 : Int32} {a2 : Int32} {a3 : Int32} {a4 : Int32} {a5 : Int32} {a6 : Int32} {a7 : Int32} {h : zHp} {H : Heap} {locs : List Loc} {ls : Array Slot}, r35 a0 a1 a2 a3 a4 a5 a6 a7 h = some out → zE G s h H locs → lv_has ls 10 [(0, .ref a0), (1, .int a1), (2, .int a2), (3, .int a3), (4, .int a4), (5, .int a5), (6, .int a6), (7, .int a7)] → W p l e rm_L_members s m args below meth c H locs 0 0 (MQ below (zQi G out.1 out.2) args s 0 0 (zA G)) (F0 m 35 ls [])) {a0 : Nat} {a1 : Int32} {a2 : Int32} {a3 : Int32} {a4 : Int32} {a5 : Int32} {a6 : Int32} {a7 : Int32} {h : zHp} {H : Heap} {locs : List Loc} {ls : Array Slot} (hf : f_L_members_35_body r9 r35 a0 a1 a2 a3 a4 a5 a6 a7 h = some out) (E : zE G s h H locs) (hl : lv_has ls 10 [(0, .ref a0), (1, .int a1), (2, .int a2), (3, .int a3), (4, .int a4), (5, .int a5), (6, .int a6), (7, .int a7)]) : W p l e rm_L_members s m args below meth c H locs 0 0 (MQ below (zQi G out.1 out.2) args s 0 0 (zA G)) (F0 m 35 ls []) := by
  unfold f_L_members_35_body at hf
  refine lv_iload Z.x Z.b dL_members_35 (lv_at hl 7 rfl) ?_
  refine lv_bipush (v := 6) Z.x Z.b dL_members_37 (by decide) ?_
  refine lv_icmp_ge (tgt := 122) Z.x Z.b dL_members_39 (by decide) (fun c => ?_) (fun c => ?_)
  · have hf := zit hf c
    refine lv_iload_n Z.x Z.b dL_members_122 rfl (lv_at hl 1 rfl) ?_
    refine lv_aload_n Z.x Z.b dL_members_123 rfl (lv_at hl 0 rfl) ?_
    refine lv_iload Z.x Z.b dL_members_124 (lv_at hl 4 rfl) ?_
    refine lv_iconst (v := 4) Z.x Z.b dL_members_126 (by decide) ?_
    refine z_Vi (As := [.int a4, .int 4]) Z E hl.1 k_L_23 v_X7_memberOf hf (fun r h' e => c_X7_memberOf l G h h' a0 a4 4 r e) rfl rfl (Nat.le_of_ble_eq_true rfl) (zRm_of rfl (Nat.zero_le _) (Nat.zero_le _)) dL_members_127 (fun v1 h2 H locs hf E => ?_)
    refine lv_aload_n Z.x Z.b dL_members_130 rfl (lv_at hl 0 rfl) ?_
    refine lv_iconst (v := 0) Z.x Z.b dL_members_131 (by decide) ?_
    refine z_Vi (As := [.int 0]) Z E hl.1 k_L_9 v_X7_count hf (fun r h' e => c_X7_count l G h2 h' a0 0 r e) rfl rfl (Nat.le_of_ble_eq_true rfl) (zRm_of rfl (Nat.zero_le _) (Nat.zero_le _)) dL_members_132 (fun v3 h4 H locs hf E => ?_)
    refine lv_icmp_le (tgt := 142) Z.x Z.b dL_members_135 (by decide) (fun c => ?_) (fun c => ?_)
    · have hf := zit hf c
      refine lv_iconst (v := 0) Z.x Z.b dL_members_142 (by decide) ?_
      exact t_L_members_143 Z hr k9 hf E (lv_sub hl [0, 2, 3, 4, 5, 6] rfl)
    · have hf := zif_ hf c
      refine lv_iconst (v := 1) Z.x Z.b dL_members_138 (by decide) ?_
      refine lv_goto (tgt := 143) Z.x Z.b dL_members_139 (by decide) ?_
      exact t_L_members_143 Z hr k9 hf E (lv_sub hl [0, 2, 3, 4, 5, 6] rfl)
  · have hf := zif_ hf c
    refine lv_sipush (v := 168) Z.x Z.b dL_members_42 (by decide) ?_
    refine lv_aload_n Z.x Z.b dL_members_45 rfl (lv_at hl 0 rfl) ?_
    refine lv_iload Z.x Z.b dL_members_46 (lv_at hl 4 rfl) ?_
    refine lv_sipush (v := 168) Z.x Z.b dL_members_48 (by decide) ?_
    refine lv_iload Z.x Z.b dL_members_51 (lv_at hl 7 rfl) ?_
    refine lv_imul Z.x Z.b dL_members_53 ?_
    refine lv_sipush (v := 168) Z.x Z.b dL_members_54 (by decide) ?_
    refine z_Vi (As := [.int a4, .int (168 * a7), .int 168]) Z E hl.1 k_L_32 v_X7_rest hf (fun r h' e => c_X7_rest l G h h' a0 a4 (168 * a7) 168 r e) rfl rfl (Nat.le_of_ble_eq_true rfl) (zRm_of rfl (Nat.zero_le _) (Nat.zero_le _)) dL_members_57 (fun v5 h6 H locs hf E => ?_)
    refine lv_isub Z.x Z.b dL_members_60 ?_
    refine lv_istore (lv' := [(8, .int (168 - v5)), (0, .ref a0), (1, .int a1), (2, .int a2), (3, .int a3), (4, .int a4), (5, .int a5), (6, .int a6), (7, .int a7)]) Z.x Z.b dL_members_61 hl (by decide) rfl (fun ls hl => ?_)
    refine lv_iload Z.x Z.b dL_members_63 (lv_at hl 7 rfl) ?_
    refine lv_iload Z.x Z.b dL_members_65 (lv_at hl 0 rfl) ?_
    refine lv_iadd Z.x Z.b dL_members_67 ?_
    refine lv_istore (lv' := [(6, .int (a6 + (168 - v5))), (8, .int (168 - v5)), (0, .ref a0), (1, .int a1), (2, .int a2), (3, .int a3), (4, .int a4), (5, .int a5), (7, .int a7)]) Z.x Z.b dL_members_68 hl (by decide) rfl (fun ls hl => ?_)
    refine lv_iload Z.x Z.b dL_members_70 (lv_at hl 1 rfl) ?_
    refine lv_aload_n Z.x Z.b dL_members_72 rfl (lv_at hl 2 rfl) ?_
    refine lv_bipush (v := 17) Z.x Z.b dL_members_73 (by decide) ?_
    refine z_Vi (As := [.int 17]) Z E hl.1 k_L_9 v_X7_count hf (fun r h' e => c_X7_count l G h6 h' a0 17 r e) rfl rfl (Nat.le_of_ble_eq_true rfl) (zRm_of rfl (Nat.zero_le _) (Nat.zero_le _)) dL_members_75 (fun v7 h8 H locs hf E => ?_)
    refine lv_icmp_le (tgt := 93) Z.x Z.b dL_members_78 (by decide) (fun c => ?_) (fun c => ?_)
    · have hf := zit hf c
      refine lv_iconst (v := 0) Z.x Z.b dL_members_93 (by decide) ?_
      exact t_L_members_94 Z hr k9 k35 hf E (lv_sub hl [2, 3, 4, 5, 6, 7, 0, 8] rfl)
    · have hf := zif_ hf c
      refine lv_iload Z.x Z.b dL_members_81 (lv_at hl 1 rfl) ?_
      refine lv_aload_n Z.x Z.b dL_members_83 rfl (lv_at hl 2 rfl) ?_
      refine lv_bipush (v := 17) Z.x Z.b dL_members_84 (by decide) ?_
      refine z_Vi (As := [.int 17]) Z E hl.1 k_L_9 v_X7_count hf (fun r h' e => c_X7_count l G h8 h' a0 17 r e) rfl rfl (Nat.le_of_ble_eq_true rfl) (zRm_of rfl (Nat.zero_le _) (Nat.zero_le _)) dL_members_86 (fun v9 h10 H locs hf E => ?_)
      refine lv_isub Z.x Z.b dL_members_89 ?_
      refine lv_goto (tgt := 94) Z.x Z.b dL_members_90 (by decide) ?_
      exact t_L_members_94 Z hr k9 k35 hf E (lv_sub hl [2, 3, 4, 5, 6, 7, 0, 8] rfl)
theorem t_L_members_35 {p : Program} {l : Launch} {e : Env} {s : State} {m : MethodId} {args : Array Value} {below : List Frame} {meth : Method} {c : Code} {G : zG} (Z : zF p s m args c meth cL_members 10 RL G) (hr : meth.sig.returnType = (some .boolean)) {out : Int32 × zHp} {r9 : Nat → Int32 → Int32 → Int32 → Int32 → zHp → Option (Int32 × zHp)} (k9 : ∀ {a0 : Nat} {a1 : Int32} {a2 : Int32} {a3 : Int32} {a4 : Int32} {h : zHp} {H : Heap} {locs : List Loc} {ls : Array Slot}, r9 a0 a1 a2 a3 a4 h = some out → zE G s h H locs → lv_has ls 10 [(0, .ref a0), (1, .int a1), (2, .int a2), (3, .int a3), (4, .int a4)] → W p l e rm_L_members s m args below meth c H locs 0 0 (MQ below (zQi G out.1 out.2) args s 0 0 (zA G)) (F0 m 9 ls [])) : ∀ (n : Nat), ∀ {a0 : Nat} {a1 : Int32} {a2 : Int32} {a3 : Int32} {a4 : Int32} {a5 : Int32} {a6 : Int32} {a7 : Int32} {h : zHp} {H : Heap} {locs : List Loc} {ls : Array Slot}, f_L_members_35 r9 n a0 a1 a2 a3 a4 a5 a6 a7 h = some out → zE G s h H locs → lv_has ls 10 [(0, .ref a0), (1, .int a1), (2, .int a2), (3, .int a3), (4, .int a4), (5, .int a5), (6, .int a6), (7, .int a7)] → W p l e rm_L_members s m args below meth c H locs 0 0 (MQ below (zQi G out.1 out.2) args s 0 0 (zA G)) (F0 m 35 ls [])
  | 0 => fun hf => by cases hf
  | n + 1 => fun hf E hl => t_L_members_35_body Z hr k9 (r35 := f_L_members_35 r9 n) (t_L_members_35 Z hr k9 n) hf E hl
set_option maxHeartbeats 4000000 in
set_option maxRecDepth 20000 in
theorem t_L_members_9_body {p : Program} {l : Launch} {e : Env} {s : State} {m : MethodId} {args : Array Value} {below : List Frame} {meth : Method} {c : Code} {G : zG} (Z : zF p s m args c meth cL_members 10 RL G) (hr : meth.sig.returnType = (some .boolean)) {out : Int32 × zHp} {r9 : Nat → Int32 → Int32 → Int32 → Int32 → zHp → Option (Int32 × zHp)} (k9 : ∀ {a0 : Nat} {a1 : Int32} {a2 : Int32} {a3 : Int32} {a4 : Int32} {h : zHp} {H : Heap} {locs : List Loc} {ls : Array Slot}, r9 a0 a1 a2 a3 a4 h = some out → zE G s h H locs → lv_has ls 10 [(0, .ref a0), (1, .int a1), (2, .int a2), (3, .int a3), (4, .int a4)] → W p l e rm_L_members s m args below meth c H locs 0 0 (MQ below (zQi G out.1 out.2) args s 0 0 (zA G)) (F0 m 9 ls [])) {a0 : Nat} {a1 : Int32} {a2 : Int32} {a3 : Int32} {a4 : Int32} {h : zHp} {H : Heap} {locs : List Loc} {ls : Array Slot} (hf : f_L_members_9_body r9 a0 a1 a2 a3 a4 h = some out) (E : zE G s h H locs) (hl : lv_has ls 10 [(0, .ref a0), (1, .int a1), (2, .int a2), (3, .int a3), (4, .int a4)]) : W p l e rm_L_members s m args below meth c H locs 0 0 (MQ below (zQi G out.1 out.2) args s 0 0 (zA G)) (F0 m 9 ls []) := by
  unfold f_L_members_9_body at hf
  refine lv_iload Z.x Z.b dL_members_9 (lv_at hl 4 rfl) ?_
  refine lv_aload_n Z.x Z.b dL_members_11 rfl (lv_at hl 0 rfl) ?_
  refine lv_iconst (v := 5) Z.x Z.b dL_members_12 (by decide) ?_
  refine z_Vi (As := [.int 5]) Z E hl.1 k_L_9 v_X7_count hf (fun r h' e => c_X7_count l G h h' a0 5 r e) rfl rfl (Nat.le_of_ble_eq_true rfl) (zRm_of rfl (Nat.zero_le _) (Nat.zero_le _)) dL_members_13 (fun v1 h2 H locs hf E => ?_)
  refine lv_icmp_ge (tgt := 306) Z.x Z.b dL_members_16 (by decide) (fun c => ?_) (fun c => ?_)
  · have hf := zit hf c
    refine lv_iload_n Z.x Z.b dL_members_306 rfl (lv_at hl 1 rfl) ?_
    refine lv_aload_n Z.x Z.b dL_members_307 rfl (lv_at hl 0 rfl) ?_
    refine lv_bipush (v := 6) Z.x Z.b dL_members_308 (by decide) ?_
    refine z_Vi (As := [.int 6]) Z E hl.1 k_L_9 v_X7_count hf (fun r h' e => c_X7_count l G h2 h' a0 6 r e) rfl rfl (Nat.le_of_ble_eq_true rfl) (zRm_of rfl (Nat.zero_le _) (Nat.zero_le _)) dL_members_310 (fun v3 h4 H locs hf E => ?_)
    refine lv_icmp_ne (tgt := 340) Z.x Z.b dL_members_313 (by decide) (fun c => ?_) (fun c => ?_)
    · have hf := zif_ hf c
      exact t_L_members_340 Z hr hf E (lv_sub hl [] rfl)
    · have hf := zit hf c
      refine lv_iload_n Z.x Z.b dL_members_316 rfl (lv_at hl 2 rfl) ?_
      refine lv_aload_n Z.x Z.b dL_members_317 rfl (lv_at hl 0 rfl) ?_
      refine lv_bipush (v := 9) Z.x Z.b dL_members_318 (by decide) ?_
      refine z_Vi (As := [.int 9]) Z E hl.1 k_L_9 v_X7_count hf (fun r h' e => c_X7_count l G h4 h' a0 9 r e) rfl rfl (Nat.le_of_ble_eq_true rfl) (zRm_of rfl (Nat.zero_le _) (Nat.zero_le _)) dL_members_320 (fun v5 h6 H locs hf E => ?_)
      refine lv_icmp_ne (tgt := 340) Z.x Z.b dL_members_323 (by decide) (fun c => ?_) (fun c => ?_)
      · have hf := zif_ hf c
        exact t_L_members_340 Z hr hf E (lv_sub hl [] rfl)
      · have hf := zit hf c
        refine lv_iload_n Z.x Z.b dL_members_326 rfl (lv_at hl 3 rfl) ?_
        refine lv_aload_n Z.x Z.b dL_members_327 rfl (lv_at hl 0 rfl) ?_
        refine lv_bipush (v := 10) Z.x Z.b dL_members_328 (by decide) ?_
        refine z_Vi (As := [.int 10]) Z E hl.1 k_L_9 v_X7_count hf (fun r h' e => c_X7_count l G h6 h' a0 10 r e) rfl rfl (Nat.le_of_ble_eq_true rfl) (zRm_of rfl (Nat.zero_le _) (Nat.zero_le _)) dL_members_330 (fun v7 h8 H locs hf E => ?_)
        refine lv_icmp_ne (tgt := 340) Z.x Z.b dL_members_333 (by decide) (fun c => ?_) (fun c => ?_)
        · have hf := zif_ hf c
          exact t_L_members_340 Z hr hf E (lv_sub hl [] rfl)
        · have hf := zit hf c
          refine lv_iconst (v := 1) Z.x Z.b dL_members_336 (by decide) ?_
          refine lv_goto (tgt := 341) Z.x Z.b dL_members_337 (by decide) ?_
          exact z_zret Z E hr dL_members_341 hf
  · have hf := zif_ hf c
    refine lv_aload_n Z.x Z.b dL_members_19 rfl (lv_at hl 0 rfl) ?_
    refine lv_iload Z.x Z.b dL_members_20 (lv_at hl 4 rfl) ?_
    refine lv_bipush (v := 7) Z.x Z.b dL_members_22 (by decide) ?_
    refine z_Vi (As := [.int a4, .int 7]) Z E hl.1 k_L_23 v_X7_memberOf hf (fun r h' e => c_X7_memberOf l G h2 h' a0 a4 7 r e) rfl rfl (Nat.le_of_ble_eq_true rfl) (zRm_of rfl (Nat.zero_le _) (Nat.zero_le _)) dL_members_24 (fun v9 h10 H locs hf E => ?_)
    refine lv_istore (lv' := [(5, .int v9), (0, .ref a0), (1, .int a1), (2, .int a2), (3, .int a3), (4, .int a4)]) Z.x Z.b dL_members_27 hl (by decide) rfl (fun ls hl => ?_)
    refine lv_iconst (v := 0) Z.x Z.b dL_members_29 (by decide) ?_
    refine lv_istore (lv' := [(6, .int 0), (5, .int v9), (0, .ref a0), (1, .int a1), (2, .int a2), (3, .int a3), (4, .int a4)]) Z.x Z.b dL_members_30 hl (by decide) rfl (fun ls hl => ?_)
    refine lv_iconst (v := 0) Z.x Z.b dL_members_32 (by decide) ?_
    refine lv_istore (lv' := [(7, .int 0), (6, .int 0), (5, .int v9), (0, .ref a0), (1, .int a1), (2, .int a2), (3, .int a3), (4, .int a4)]) Z.x Z.b dL_members_33 hl (by decide) rfl (fun ls hl => ?_)
    exact t_L_members_35 Z hr k9 zN hf E (lv_sub hl [3, 4, 5, 6, 7, 2, 1, 0] rfl)
theorem t_L_members_9 {p : Program} {l : Launch} {e : Env} {s : State} {m : MethodId} {args : Array Value} {below : List Frame} {meth : Method} {c : Code} {G : zG} (Z : zF p s m args c meth cL_members 10 RL G) (hr : meth.sig.returnType = (some .boolean)) {out : Int32 × zHp} : ∀ (n : Nat), ∀ {a0 : Nat} {a1 : Int32} {a2 : Int32} {a3 : Int32} {a4 : Int32} {h : zHp} {H : Heap} {locs : List Loc} {ls : Array Slot}, f_L_members_9 n a0 a1 a2 a3 a4 h = some out → zE G s h H locs → lv_has ls 10 [(0, .ref a0), (1, .int a1), (2, .int a2), (3, .int a3), (4, .int a4)] → W p l e rm_L_members s m args below meth c H locs 0 0 (MQ below (zQi G out.1 out.2) args s 0 0 (zA G)) (F0 m 9 ls [])
  | 0 => fun hf => by cases hf
  | n + 1 => fun hf E hl => t_L_members_9_body Z hr (r9 := f_L_members_9 n) (t_L_members_9 Z hr n) hf E hl
set_option maxHeartbeats 4000000 in
set_option maxRecDepth 20000 in
theorem t_L_members {p : Program} {l : Launch} {e : Env} {s : State} {m : MethodId} {args : Array Value} {below : List Frame} {meth : Method} {c : Code} {G : zG} (Z : zF p s m args c meth cL_members 10 RL G) (hr : meth.sig.returnType = (some .boolean)) {out : Int32 × zHp} {a0 : Nat} {h : zHp} {H : Heap} {locs : List Loc} {ls : Array Slot} (hf : f_L_members a0 h = some out) (E : zE G s h H locs) (hl : lv_has ls 10 [(0, .ref a0)]) : W p l e rm_L_members s m args below meth c H locs 0 0 (MQ below (zQi G out.1 out.2) args s 0 0 (zA G)) (F0 m 0 ls []) := by
  unfold f_L_members at hf
  refine lv_iconst (v := 0) Z.x Z.b dL_members_0 (by decide) ?_
  refine lv_istore_n (lv' := [(1, .int 0), (0, .ref a0)]) Z.x Z.b dL_members_1 rfl hl (by decide) rfl (fun ls hl => ?_)
  refine lv_iconst (v := 0) Z.x Z.b dL_members_2 (by decide) ?_
  refine lv_istore_n (lv' := [(2, .int 0), (1, .int 0), (0, .ref a0)]) Z.x Z.b dL_members_3 rfl hl (by decide) rfl (fun ls hl => ?_)
  refine lv_iconst (v := 0) Z.x Z.b dL_members_4 (by decide) ?_
  refine lv_istore_n (lv' := [(3, .int 0), (2, .int 0), (1, .int 0), (0, .ref a0)]) Z.x Z.b dL_members_5 rfl hl (by decide) rfl (fun ls hl => ?_)
  refine lv_iconst (v := 0) Z.x Z.b dL_members_6 (by decide) ?_
  refine lv_istore (lv' := [(4, .int 0), (3, .int 0), (2, .int 0), (1, .int 0), (0, .ref a0)]) Z.x Z.b dL_members_7 hl (by decide) rfl (fun ls hl => ?_)
  exact t_L_members_9 Z hr zN hf E (lv_sub hl [4, 3, 2, 1, 0] rfl)
set_option maxHeartbeats 4000000 in
set_option maxRecDepth 20000 in
theorem c_L_members (l : Launch) (G : zG) (h : zHp) (h' : zHp) (a0 : Nat) (r : Int32) (hf : f_L_members a0 h = some (r, h')) : zM0 l yL_members cL_members 10 (some .boolean) rm_L_members G [.ref a0] h (zQi G r h') := by
  refine Met.ofW (cc := cL_members) (maxL := 10) (ret := (some .boolean)) (by decide) rfl ?_
  intro p e s m args below meth c s₁ B hml hv
  obtain ⟨rfl, hW⟩ := hv
  obtain ⟨Z, E, hr⟩ := zEnter (own := RL) B hml rfl hW
  have hl := lv_entry ([.ref a0]) (n := 10) (Nat.le_of_ble_eq_true rfl)
  rw [lg_entry_eq]
  generalize (lg_sl ([.ref a0]) ++ List.replicate (10 - (lg_sl ([.ref a0])).length) Slot.unset).toArray = ls at hl ⊢
  have hl : lv_has ls 10 [(0, .ref a0)] := hl
  exact t_L_members (out := (r, h')) Z hr hf E hl
/-! FerryCrewsLaw.act(LFerryCrews;II)I -/
theorem dL_act_0 : decode cL_act 0 = .ok (.iload_n 1, 1) := by decide +kernel
theorem dL_act_1 : decode cL_act 1 = .ok (.iconst 3, 1) := by decide +kernel
theorem dL_act_2 : decode cL_act 2 = .ok (.ishr, 1) := by decide +kernel
theorem dL_act_3 : decode cL_act 3 = .ok (.bipush 18, 2) := by decide +kernel
theorem dL_act_5 : decode cL_act 5 = .ok (.invokestatic 41, 3) := by decide +kernel
theorem dL_act_8 : decode cL_act 8 = .ok (.istore_n 3, 1) := by decide +kernel
theorem dL_act_9 : decode cL_act 9 = .ok (.iload_n 2, 1) := by decide +kernel
theorem dL_act_10 : decode cL_act 10 = .ok (.aload_n 0, 1) := by decide +kernel
theorem dL_act_11 : decode cL_act 11 = .ok (.iconst 5, 1) := by decide +kernel
theorem dL_act_12 : decode cL_act 12 = .ok (.invokevirtual 9, 3) := by decide +kernel
theorem dL_act_15 : decode cL_act 15 = .ok (.iconst 1, 1) := by decide +kernel
theorem dL_act_16 : decode cL_act 16 = .ok (.iadd, 1) := by decide +kernel
theorem dL_act_17 : decode cL_act 17 = .ok (.invokestatic 41, 3) := by decide +kernel
theorem dL_act_20 : decode cL_act 20 = .ok (.istore 4, 2) := by decide +kernel
theorem dL_act_22 : decode cL_act 22 = .ok (.iload_n 2, 1) := by decide +kernel
theorem dL_act_23 : decode cL_act 23 = .ok (.iconst 3, 1) := by decide +kernel
theorem dL_act_24 : decode cL_act 24 = .ok (.ishr, 1) := by decide +kernel
theorem dL_act_25 : decode cL_act 25 = .ok (.aload_n 0, 1) := by decide +kernel
theorem dL_act_26 : decode cL_act 26 = .ok (.iconst 1, 1) := by decide +kernel
theorem dL_act_27 : decode cL_act 27 = .ok (.invokevirtual 9, 3) := by decide +kernel
theorem dL_act_30 : decode cL_act 30 = .ok (.iconst 1, 1) := by decide +kernel
theorem dL_act_31 : decode cL_act 31 = .ok (.iadd, 1) := by decide +kernel
theorem dL_act_32 : decode cL_act 32 = .ok (.invokestatic 41, 3) := by decide +kernel
theorem dL_act_35 : decode cL_act 35 = .ok (.istore 5, 2) := by decide +kernel
theorem dL_act_37 : decode cL_act 37 = .ok (.iload_n 2, 1) := by decide +kernel
theorem dL_act_38 : decode cL_act 38 = .ok (.bipush 7, 2) := by decide +kernel
theorem dL_act_40 : decode cL_act 40 = .ok (.ishr, 1) := by decide +kernel
theorem dL_act_41 : decode cL_act 41 = .ok (.iconst 4, 1) := by decide +kernel
theorem dL_act_42 : decode cL_act 42 = .ok (.invokestatic 41, 3) := by decide +kernel
theorem dL_act_45 : decode cL_act 45 = .ok (.istore 6, 2) := by decide +kernel
theorem dL_act_47 : decode cL_act 47 = .ok (.iload_n 3, 1) := by decide +kernel
theorem dL_act_48 : decode cL_act 48 = .ok (.iconst 4, 1) := by decide +kernel
theorem dL_act_49 : decode cL_act 49 = .ok (.if_icmp .ge 70, 3) := by decide +kernel
theorem dL_act_52 : decode cL_act 52 = .ok (.aload_n 0, 1) := by decide +kernel
theorem dL_act_53 : decode cL_act 53 = .ok (.iload_n 2, 1) := by decide +kernel
theorem dL_act_54 : decode cL_act 54 = .ok (.iconst 3, 1) := by decide +kernel
theorem dL_act_55 : decode cL_act 55 = .ok (.invokestatic 41, 3) := by decide +kernel
theorem dL_act_58 : decode cL_act 58 = .ok (.aload_n 0, 1) := by decide +kernel
theorem dL_act_59 : decode cL_act 59 = .ok (.iconst 0, 1) := by decide +kernel
theorem dL_act_60 : decode cL_act 60 = .ok (.invokevirtual 9, 3) := by decide +kernel
theorem dL_act_63 : decode cL_act 63 = .ok (.iload_n 2, 1) := by decide +kernel
theorem dL_act_64 : decode cL_act 64 = .ok (.iconst 2, 1) := by decide +kernel
theorem dL_act_65 : decode cL_act 65 = .ok (.ishr, 1) := by decide +kernel
theorem dL_act_66 : decode cL_act 66 = .ok (.bipush 40, 2) := by decide +kernel
theorem dL_act_68 : decode cL_act 68 = .ok (.invokestatic 41, 3) := by decide +kernel
theorem dL_act_71 : decode cL_act 71 = .ok (.iadd, 1) := by decide +kernel
theorem dL_act_72 : decode cL_act 72 = .ok (.iconst 1, 1) := by decide +kernel
theorem dL_act_73 : decode cL_act 73 = .ok (.iload_n 2, 1) := by decide +kernel
theorem dL_act_74 : decode cL_act 74 = .ok (.iconst 5, 1) := by decide +kernel
theorem dL_act_75 : decode cL_act 75 = .ok (.ishr, 1) := by decide +kernel
theorem dL_act_76 : decode cL_act 76 = .ok (.bipush 12, 2) := by decide +kernel
theorem dL_act_78 : decode cL_act 78 = .ok (.invokestatic 41, 3) := by decide +kernel
theorem dL_act_81 : decode cL_act 81 = .ok (.iadd, 1) := by decide +kernel
theorem dL_act_82 : decode cL_act 82 = .ok (.sipush 1000, 3) := by decide +kernel
theorem dL_act_85 : decode cL_act 85 = .ok (.iload_n 2, 1) := by decide +kernel
theorem dL_act_86 : decode cL_act 86 = .ok (.bipush 8, 2) := by decide +kernel
theorem dL_act_88 : decode cL_act 88 = .ok (.ishr, 1) := by decide +kernel
theorem dL_act_89 : decode cL_act 89 = .ok (.iconst 3, 1) := by decide +kernel
theorem dL_act_90 : decode cL_act 90 = .ok (.invokestatic 41, 3) := by decide +kernel
theorem dL_act_93 : decode cL_act 93 = .ok (.imul, 1) := by decide +kernel
theorem dL_act_94 : decode cL_act 94 = .ok (.bipush 100, 2) := by decide +kernel
theorem dL_act_96 : decode cL_act 96 = .ok (.iload_n 2, 1) := by decide +kernel
theorem dL_act_97 : decode cL_act 97 = .ok (.bipush 10, 2) := by decide +kernel
theorem dL_act_99 : decode cL_act 99 = .ok (.ishr, 1) := by decide +kernel
theorem dL_act_100 : decode cL_act 100 = .ok (.iconst 2, 1) := by decide +kernel
theorem dL_act_101 : decode cL_act 101 = .ok (.invokestatic 41, 3) := by decide +kernel
theorem dL_act_104 : decode cL_act 104 = .ok (.imul, 1) := by decide +kernel
theorem dL_act_105 : decode cL_act 105 = .ok (.iadd, 1) := by decide +kernel
theorem dL_act_106 : decode cL_act 106 = .ok (.iload_n 2, 1) := by decide +kernel
theorem dL_act_107 : decode cL_act 107 = .ok (.bipush 12, 2) := by decide +kernel
theorem dL_act_109 : decode cL_act 109 = .ok (.ishr, 1) := by decide +kernel
theorem dL_act_110 : decode cL_act 110 = .ok (.iconst 2, 1) := by decide +kernel
theorem dL_act_111 : decode cL_act 111 = .ok (.invokestatic 41, 3) := by decide +kernel
theorem dL_act_114 : decode cL_act 114 = .ok (.iadd, 1) := by decide +kernel
theorem dL_act_115 : decode cL_act 115 = .ok (.invokevirtual 46, 3) := by decide +kernel
theorem dL_act_118 : decode cL_act 118 = .ok (.ireturn, 1) := by decide +kernel
theorem dL_act_119 : decode cL_act 119 = .ok (.iload_n 3, 1) := by decide +kernel
theorem dL_act_120 : decode cL_act 120 = .ok (.bipush 6, 2) := by decide +kernel
theorem dL_act_122 : decode cL_act 122 = .ok (.if_icmp .ge 23, 3) := by decide +kernel
theorem dL_act_125 : decode cL_act 125 = .ok (.aload_n 0, 1) := by decide +kernel
theorem dL_act_126 : decode cL_act 126 = .ok (.iload 6, 2) := by decide +kernel
theorem dL_act_128 : decode cL_act 128 = .ok (.bipush 20, 2) := by decide +kernel
theorem dL_act_130 : decode cL_act 130 = .ok (.iload_n 1, 1) := by decide +kernel
theorem dL_act_131 : decode cL_act 131 = .ok (.bipush 8, 2) := by decide +kernel
theorem dL_act_133 : decode cL_act 133 = .ok (.ishr, 1) := by decide +kernel
theorem dL_act_134 : decode cL_act 134 = .ok (.sipush 200, 3) := by decide +kernel
theorem dL_act_137 : decode cL_act 137 = .ok (.invokestatic 41, 3) := by decide +kernel
theorem dL_act_140 : decode cL_act 140 = .ok (.iadd, 1) := by decide +kernel
theorem dL_act_141 : decode cL_act 141 = .ok (.invokevirtual 50, 3) := by decide +kernel
theorem dL_act_144 : decode cL_act 144 = .ok (.ireturn, 1) := by decide +kernel
theorem dL_act_145 : decode cL_act 145 = .ok (.iload_n 3, 1) := by decide +kernel
theorem dL_act_146 : decode cL_act 146 = .ok (.bipush 10, 2) := by decide +kernel
theorem dL_act_148 : decode cL_act 148 = .ok (.if_icmp .ge 51, 3) := by decide +kernel
theorem dL_act_151 : decode cL_act 151 = .ok (.aload_n 0, 1) := by decide +kernel
theorem dL_act_152 : decode cL_act 152 = .ok (.iload 4, 2) := by decide +kernel
theorem dL_act_154 : decode cL_act 154 = .ok (.iload 5, 2) := by decide +kernel
theorem dL_act_156 : decode cL_act 156 = .ok (.iload_n 1, 1) := by decide +kernel
theorem dL_act_157 : decode cL_act 157 = .ok (.bipush 7, 2) := by decide +kernel
theorem dL_act_159 : decode cL_act 159 = .ok (.ishr, 1) := by decide +kernel
theorem dL_act_160 : decode cL_act 160 = .ok (.iconst 3, 1) := by decide +kernel
theorem dL_act_161 : decode cL_act 161 = .ok (.invokestatic 41, 3) := by decide +kernel
theorem dL_act_164 : decode cL_act 164 = .ok (.ifCond .le 14, 3) := by decide +kernel
theorem dL_act_167 : decode cL_act 167 = .ok (.iload_n 2, 1) := by decide +kernel
theorem dL_act_168 : decode cL_act 168 = .ok (.bipush 7, 2) := by decide +kernel
theorem dL_act_170 : decode cL_act 170 = .ok (.ishr, 1) := by decide +kernel
theorem dL_act_171 : decode cL_act 171 = .ok (.iconst 2, 1) := by decide +kernel
theorem dL_act_172 : decode cL_act 172 = .ok (.invokestatic 41, 3) := by decide +kernel
theorem dL_act_175 : decode cL_act 175 = .ok (.goto 5, 3) := by decide +kernel
theorem dL_act_178 : decode cL_act 178 = .ok (.iload 6, 2) := by decide +kernel
theorem dL_act_180 : decode cL_act 180 = .ok (.invokevirtual 53, 3) := by decide +kernel
theorem dL_act_183 : decode cL_act 183 = .ok (.istore 7, 2) := by decide +kernel
theorem dL_act_185 : decode cL_act 185 = .ok (.iload 7, 2) := by decide +kernel
theorem dL_act_187 : decode cL_act 187 = .ok (.ifCond .le 9, 3) := by decide +kernel
theorem dL_act_190 : decode cL_act 190 = .ok (.iload 7, 2) := by decide +kernel
theorem dL_act_192 : decode cL_act 192 = .ok (.ineg, 1) := by decide +kernel
theorem dL_act_193 : decode cL_act 193 = .ok (.goto 5, 3) := by decide +kernel
theorem dL_act_196 : decode cL_act 196 = .ok (.iload 7, 2) := by decide +kernel
theorem dL_act_198 : decode cL_act 198 = .ok (.ireturn, 1) := by decide +kernel
theorem dL_act_199 : decode cL_act 199 = .ok (.iload_n 3, 1) := by decide +kernel
theorem dL_act_200 : decode cL_act 200 = .ok (.bipush 10, 2) := by decide +kernel
theorem dL_act_202 : decode cL_act 202 = .ok (.if_icmp .ne 31, 3) := by decide +kernel
theorem dL_act_205 : decode cL_act 205 = .ok (.iload_n 2, 1) := by decide +kernel
theorem dL_act_206 : decode cL_act 206 = .ok (.iconst 2, 1) := by decide +kernel
theorem dL_act_207 : decode cL_act 207 = .ok (.invokestatic 41, 3) := by decide +kernel
theorem dL_act_210 : decode cL_act 210 = .ok (.ifCond .ne 14, 3) := by decide +kernel
theorem dL_act_213 : decode cL_act 213 = .ok (.aload_n 0, 1) := by decide +kernel
theorem dL_act_214 : decode cL_act 214 = .ok (.iload 4, 2) := by decide +kernel
theorem dL_act_216 : decode cL_act 216 = .ok (.iload 6, 2) := by decide +kernel
theorem dL_act_218 : decode cL_act 218 = .ok (.invokevirtual 56, 3) := by decide +kernel
theorem dL_act_221 : decode cL_act 221 = .ok (.goto 11, 3) := by decide +kernel
theorem dL_act_224 : decode cL_act 224 = .ok (.aload_n 0, 1) := by decide +kernel
theorem dL_act_225 : decode cL_act 225 = .ok (.iload 4, 2) := by decide +kernel
theorem dL_act_227 : decode cL_act 227 = .ok (.iload 6, 2) := by decide +kernel
theorem dL_act_229 : decode cL_act 229 = .ok (.invokevirtual 59, 3) := by decide +kernel
theorem dL_act_232 : decode cL_act 232 = .ok (.ireturn, 1) := by decide +kernel
theorem dL_act_233 : decode cL_act 233 = .ok (.iload_n 3, 1) := by decide +kernel
theorem dL_act_234 : decode cL_act 234 = .ok (.bipush 11, 2) := by decide +kernel
theorem dL_act_236 : decode cL_act 236 = .ok (.if_icmp .ne 27, 3) := by decide +kernel
theorem dL_act_239 : decode cL_act 239 = .ok (.iload_n 2, 1) := by decide +kernel
theorem dL_act_240 : decode cL_act 240 = .ok (.iconst 3, 1) := by decide +kernel
theorem dL_act_241 : decode cL_act 241 = .ok (.invokestatic 41, 3) := by decide +kernel
theorem dL_act_244 : decode cL_act 244 = .ok (.ifCond .ne 12, 3) := by decide +kernel
theorem dL_act_247 : decode cL_act 247 = .ok (.aload_n 0, 1) := by decide +kernel
theorem dL_act_248 : decode cL_act 248 = .ok (.iload 5, 2) := by decide +kernel
theorem dL_act_250 : decode cL_act 250 = .ok (.invokevirtual 62, 3) := by decide +kernel
theorem dL_act_253 : decode cL_act 253 = .ok (.goto 9, 3) := by decide +kernel
theorem dL_act_256 : decode cL_act 256 = .ok (.aload_n 0, 1) := by decide +kernel
theorem dL_act_257 : decode cL_act 257 = .ok (.iload 5, 2) := by decide +kernel
theorem dL_act_259 : decode cL_act 259 = .ok (.invokevirtual 65, 3) := by decide +kernel
theorem dL_act_262 : decode cL_act 262 = .ok (.ireturn, 1) := by decide +kernel
theorem dL_act_263 : decode cL_act 263 = .ok (.iload_n 3, 1) := by decide +kernel
theorem dL_act_264 : decode cL_act 264 = .ok (.bipush 12, 2) := by decide +kernel
theorem dL_act_266 : decode cL_act 266 = .ok (.if_icmp .ne 12, 3) := by decide +kernel
theorem dL_act_269 : decode cL_act 269 = .ok (.aload_n 0, 1) := by decide +kernel
theorem dL_act_270 : decode cL_act 270 = .ok (.iload 4, 2) := by decide +kernel
theorem dL_act_272 : decode cL_act 272 = .ok (.iload 5, 2) := by decide +kernel
theorem dL_act_274 : decode cL_act 274 = .ok (.invokevirtual 68, 3) := by decide +kernel
theorem dL_act_277 : decode cL_act 277 = .ok (.ireturn, 1) := by decide +kernel
theorem dL_act_278 : decode cL_act 278 = .ok (.iload_n 3, 1) := by decide +kernel
theorem dL_act_279 : decode cL_act 279 = .ok (.bipush 13, 2) := by decide +kernel
theorem dL_act_281 : decode cL_act 281 = .ok (.if_icmp .ne 37, 3) := by decide +kernel
theorem dL_act_284 : decode cL_act 284 = .ok (.iload_n 2, 1) := by decide +kernel
theorem dL_act_285 : decode cL_act 285 = .ok (.iconst 3, 1) := by decide +kernel
theorem dL_act_286 : decode cL_act 286 = .ok (.invokestatic 41, 3) := by decide +kernel
theorem dL_act_289 : decode cL_act 289 = .ok (.ifCond .ne 12, 3) := by decide +kernel
theorem dL_act_292 : decode cL_act 292 = .ok (.aload_n 0, 1) := by decide +kernel
theorem dL_act_293 : decode cL_act 293 = .ok (.iload 4, 2) := by decide +kernel
theorem dL_act_295 : decode cL_act 295 = .ok (.invokevirtual 71, 3) := by decide +kernel
theorem dL_act_298 : decode cL_act 298 = .ok (.goto 19, 3) := by decide +kernel
theorem dL_act_301 : decode cL_act 301 = .ok (.aload_n 0, 1) := by decide +kernel
theorem dL_act_302 : decode cL_act 302 = .ok (.iload 4, 2) := by decide +kernel
theorem dL_act_304 : decode cL_act 304 = .ok (.iconst 1, 1) := by decide +kernel
theorem dL_act_305 : decode cL_act 305 = .ok (.iload_n 2, 1) := by decide +kernel
theorem dL_act_306 : decode cL_act 306 = .ok (.iconst 4, 1) := by decide +kernel
theorem dL_act_307 : decode cL_act 307 = .ok (.ishr, 1) := by decide +kernel
theorem dL_act_308 : decode cL_act 308 = .ok (.bipush 40, 2) := by decide +kernel
theorem dL_act_310 : decode cL_act 310 = .ok (.invokestatic 41, 3) := by decide +kernel
theorem dL_act_313 : decode cL_act 313 = .ok (.iadd, 1) := by decide +kernel
theorem dL_act_314 : decode cL_act 314 = .ok (.invokevirtual 74, 3) := by decide +kernel
theorem dL_act_317 : decode cL_act 317 = .ok (.ireturn, 1) := by decide +kernel
theorem dL_act_318 : decode cL_act 318 = .ok (.iload_n 3, 1) := by decide +kernel
theorem dL_act_319 : decode cL_act 319 = .ok (.bipush 14, 2) := by decide +kernel
theorem dL_act_321 : decode cL_act 321 = .ok (.if_icmp .ne 22, 3) := by decide +kernel
theorem dL_act_324 : decode cL_act 324 = .ok (.aload_n 0, 1) := by decide +kernel
theorem dL_act_325 : decode cL_act 325 = .ok (.iload 4, 2) := by decide +kernel
theorem dL_act_327 : decode cL_act 327 = .ok (.iload 6, 2) := by decide +kernel
theorem dL_act_329 : decode cL_act 329 = .ok (.iload_n 1, 1) := by decide +kernel
theorem dL_act_330 : decode cL_act 330 = .ok (.bipush 8, 2) := by decide +kernel
theorem dL_act_332 : decode cL_act 332 = .ok (.ishr, 1) := by decide +kernel
theorem dL_act_333 : decode cL_act 333 = .ok (.sipush 300, 3) := by decide +kernel
theorem dL_act_336 : decode cL_act 336 = .ok (.invokestatic 41, 3) := by decide +kernel
theorem dL_act_339 : decode cL_act 339 = .ok (.invokevirtual 77, 3) := by decide +kernel
theorem dL_act_342 : decode cL_act 342 = .ok (.ireturn, 1) := by decide +kernel
theorem dL_act_343 : decode cL_act 343 = .ok (.iload_n 3, 1) := by decide +kernel
theorem dL_act_344 : decode cL_act 344 = .ok (.bipush 15, 2) := by decide +kernel
theorem dL_act_346 : decode cL_act 346 = .ok (.if_icmp .ne 21, 3) := by decide +kernel
theorem dL_act_349 : decode cL_act 349 = .ok (.aload_n 0, 1) := by decide +kernel
theorem dL_act_350 : decode cL_act 350 = .ok (.iload_n 2, 1) := by decide +kernel
theorem dL_act_351 : decode cL_act 351 = .ok (.iconst 5, 1) := by decide +kernel
theorem dL_act_352 : decode cL_act 352 = .ok (.invokestatic 41, 3) := by decide +kernel
theorem dL_act_355 : decode cL_act 355 = .ok (.iload_n 2, 1) := by decide +kernel
theorem dL_act_356 : decode cL_act 356 = .ok (.iconst 3, 1) := by decide +kernel
theorem dL_act_357 : decode cL_act 357 = .ok (.ishr, 1) := by decide +kernel
theorem dL_act_358 : decode cL_act 358 = .ok (.bipush 13, 2) := by decide +kernel
theorem dL_act_360 : decode cL_act 360 = .ok (.invokestatic 41, 3) := by decide +kernel
theorem dL_act_363 : decode cL_act 363 = .ok (.invokevirtual 80, 3) := by decide +kernel
theorem dL_act_366 : decode cL_act 366 = .ok (.ireturn, 1) := by decide +kernel
theorem dL_act_367 : decode cL_act 367 = .ok (.iload_n 3, 1) := by decide +kernel
theorem dL_act_368 : decode cL_act 368 = .ok (.bipush 16, 2) := by decide +kernel
theorem dL_act_370 : decode cL_act 370 = .ok (.if_icmp .ne 18, 3) := by decide +kernel
theorem dL_act_373 : decode cL_act 373 = .ok (.aload_n 0, 1) := by decide +kernel
theorem dL_act_374 : decode cL_act 374 = .ok (.iconst 1, 1) := by decide +kernel
theorem dL_act_375 : decode cL_act 375 = .ok (.iload_n 2, 1) := by decide +kernel
theorem dL_act_376 : decode cL_act 376 = .ok (.bipush 8, 2) := by decide +kernel
theorem dL_act_378 : decode cL_act 378 = .ok (.invokestatic 41, 3) := by decide +kernel
theorem dL_act_381 : decode cL_act 381 = .ok (.iadd, 1) := by decide +kernel
theorem dL_act_382 : decode cL_act 382 = .ok (.invokevirtual 83, 3) := by decide +kernel
theorem dL_act_385 : decode cL_act 385 = .ok (.goto 9, 3) := by decide +kernel
theorem dL_act_388 : decode cL_act 388 = .ok (.aload_n 0, 1) := by decide +kernel
theorem dL_act_389 : decode cL_act 389 = .ok (.iload 5, 2) := by decide +kernel
theorem dL_act_391 : decode cL_act 391 = .ok (.invokevirtual 65, 3) := by decide +kernel
theorem dL_act_394 : decode cL_act 394 = .ok (.ireturn, 1) := by decide +kernel
set_option maxRecDepth 20000 in
theorem wi_L : Cond.initialized RL ∈ zB := List.mem_filter.mpr ⟨List.mem_of_getElem? (i := 6) (by decide +kernel), by decide +kernel⟩
set_option maxRecDepth 20000 in
theorem wc_L_low : Cond.code yL_low cL_low 2 (some .int) ∈ zB := List.mem_filter.mpr ⟨List.mem_of_getElem? (i := 436) (by decide +kernel), by decide +kernel⟩
set_option maxRecDepth 20000 in
theorem wm_L_41 : Cond.methodLink RL 41 yL_low ∈ zB := List.mem_filter.mpr ⟨List.mem_of_getElem? (i := 434) (by decide +kernel), by decide +kernel⟩
theorem k_L_41 : zCal RL 41 yL_low cL_low 2 (some .int) 2 := ⟨wm_L_41, wi_L, wc_L_low, by decide +kernel, by decide +kernel, by decide +kernel⟩
set_option maxRecDepth 20000 in
theorem wt_L_low : Cond.static yL_low ∈ zB := List.mem_filter.mpr ⟨List.mem_of_getElem? (i := 435) (by decide +kernel), by decide +kernel⟩
set_option maxRecDepth 20000 in
theorem wc_X7_fill : Cond.code yX7_fill cX7_fill 3 (some .int) ∈ zB := List.mem_filter.mpr ⟨List.mem_of_getElem? (i := 593) (by decide +kernel), by decide +kernel⟩
set_option maxRecDepth 20000 in
theorem wm_L_65 : Cond.methodLink RL 65 yX7_fill ∈ zB := List.mem_filter.mpr ⟨List.mem_of_getElem? (i := 590) (by decide +kernel), by decide +kernel⟩
theorem k_L_65 : zCal RL 65 yX7_fill cX7_fill 3 (some .int) 1 := ⟨wm_L_65, wi_X7, wc_X7_fill, by decide +kernel, by decide +kernel, by decide +kernel⟩
set_option maxRecDepth 20000 in
theorem wn_X7_fill : Cond.instanceMethod yX7_fill ∈ zB := List.mem_filter.mpr ⟨List.mem_of_getElem? (i := 591) (by decide +kernel), by decide +kernel⟩
set_option maxRecDepth 20000 in
theorem ws_X7_fill : Cond.selects RX7 yX7_fill yX7_fill ∈ zB := List.mem_filter.mpr ⟨List.mem_of_getElem? (i := 592) (by decide +kernel), by decide +kernel⟩
theorem v_X7_fill : zVir yX7_fill 7 := ⟨wn_X7_fill, ws_X7_fill, TX7, 6, rfl⟩
set_option maxRecDepth 20000 in
theorem wc_X7_pass : Cond.code yX7_pass cX7_pass 2 (some .int) ∈ zB := List.mem_filter.mpr ⟨List.mem_of_getElem? (i := 653) (by decide +kernel), by decide +kernel⟩
set_option maxRecDepth 20000 in
theorem wm_L_83 : Cond.methodLink RL 83 yX7_pass ∈ zB := List.mem_filter.mpr ⟨List.mem_of_getElem? (i := 650) (by decide +kernel), by decide +kernel⟩
theorem k_L_83 : zCal RL 83 yX7_pass cX7_pass 2 (some .int) 1 := ⟨wm_L_83, wi_X7, wc_X7_pass, by decide +kernel, by decide +kernel, by decide +kernel⟩
set_option maxRecDepth 20000 in
theorem wn_X7_pass : Cond.instanceMethod yX7_pass ∈ zB := List.mem_filter.mpr ⟨List.mem_of_getElem? (i := 651) (by decide +kernel), by decide +kernel⟩
set_option maxRecDepth 20000 in
theorem ws_X7_pass : Cond.selects RX7 yX7_pass yX7_pass ∈ zB := List.mem_filter.mpr ⟨List.mem_of_getElem? (i := 652) (by decide +kernel), by decide +kernel⟩
theorem v_X7_pass : zVir yX7_pass 7 := ⟨wn_X7_pass, ws_X7_pass, TX7, 6, rfl⟩
set_option maxRecDepth 20000 in
theorem wc_X7_set : Cond.code yX7_set cX7_set 4 (some .int) ∈ zB := List.mem_filter.mpr ⟨List.mem_of_getElem? (i := 642) (by decide +kernel), by decide +kernel⟩
set_option maxRecDepth 20000 in
theorem wm_L_80 : Cond.methodLink RL 80 yX7_set ∈ zB := List.mem_filter.mpr ⟨List.mem_of_getElem? (i := 639) (by decide +kernel), by decide +kernel⟩
theorem k_L_80 : zCal RL 80 yX7_set cX7_set 4 (some .int) 2 := ⟨wm_L_80, wi_X7, wc_X7_set, by decide +kernel, by decide +kernel, by decide +kernel⟩
set_option maxRecDepth 20000 in
theorem wn_X7_set : Cond.instanceMethod yX7_set ∈ zB := List.mem_filter.mpr ⟨List.mem_of_getElem? (i := 640) (by decide +kernel), by decide +kernel⟩
set_option maxRecDepth 20000 in
theorem ws_X7_set : Cond.selects RX7 yX7_set yX7_set ∈ zB := List.mem_filter.mpr ⟨List.mem_of_getElem? (i := 641) (by decide +kernel), by decide +kernel⟩
theorem v_X7_set : zVir yX7_set 7 := ⟨wn_X7_set, ws_X7_set, TX7, 6, rfl⟩
set_option maxRecDepth 20000 in
theorem wc_X7_certify : Cond.code yX7_certify cX7_certify 5 (some .int) ∈ zB := List.mem_filter.mpr ⟨List.mem_of_getElem? (i := 632) (by decide +kernel), by decide +kernel⟩
set_option maxRecDepth 20000 in
theorem wm_L_77 : Cond.methodLink RL 77 yX7_certify ∈ zB := List.mem_filter.mpr ⟨List.mem_of_getElem? (i := 629) (by decide +kernel), by decide +kernel⟩
theorem k_L_77 : zCal RL 77 yX7_certify cX7_certify 5 (some .int) 3 := ⟨wm_L_77, wi_X7, wc_X7_certify, by decide +kernel, by decide +kernel, by decide +kernel⟩
set_option maxRecDepth 20000 in
theorem wn_X7_certify : Cond.instanceMethod yX7_certify ∈ zB := List.mem_filter.mpr ⟨List.mem_of_getElem? (i := 630) (by decide +kernel), by decide +kernel⟩
set_option maxRecDepth 20000 in
theorem ws_X7_certify : Cond.selects RX7 yX7_certify yX7_certify ∈ zB := List.mem_filter.mpr ⟨List.mem_of_getElem? (i := 631) (by decide +kernel), by decide +kernel⟩
theorem v_X7_certify : zVir yX7_certify 7 := ⟨wn_X7_certify, ws_X7_certify, TX7, 6, rfl⟩
set_option maxRecDepth 20000 in
theorem wc_X7_sick : Cond.code yX7_sick cX7_sick 3 (some .int) ∈ zB := List.mem_filter.mpr ⟨List.mem_of_getElem? (i := 623) (by decide +kernel), by decide +kernel⟩
set_option maxRecDepth 20000 in
theorem wm_L_74 : Cond.methodLink RL 74 yX7_sick ∈ zB := List.mem_filter.mpr ⟨List.mem_of_getElem? (i := 620) (by decide +kernel), by decide +kernel⟩
theorem k_L_74 : zCal RL 74 yX7_sick cX7_sick 3 (some .int) 2 := ⟨wm_L_74, wi_X7, wc_X7_sick, by decide +kernel, by decide +kernel, by decide +kernel⟩
set_option maxRecDepth 20000 in
theorem wn_X7_sick : Cond.instanceMethod yX7_sick ∈ zB := List.mem_filter.mpr ⟨List.mem_of_getElem? (i := 621) (by decide +kernel), by decide +kernel⟩
set_option maxRecDepth 20000 in
theorem ws_X7_sick : Cond.selects RX7 yX7_sick yX7_sick ∈ zB := List.mem_filter.mpr ⟨List.mem_of_getElem? (i := 622) (by decide +kernel), by decide +kernel⟩
theorem v_X7_sick : zVir yX7_sick 7 := ⟨wn_X7_sick, ws_X7_sick, TX7, 6, rfl⟩
set_option maxRecDepth 20000 in
theorem wc_X7_well : Cond.code yX7_well cX7_well 4 (some .int) ∈ zB := List.mem_filter.mpr ⟨List.mem_of_getElem? (i := 619) (by decide +kernel), by decide +kernel⟩
set_option maxRecDepth 20000 in
theorem wm_L_71 : Cond.methodLink RL 71 yX7_well ∈ zB := List.mem_filter.mpr ⟨List.mem_of_getElem? (i := 616) (by decide +kernel), by decide +kernel⟩
theorem k_L_71 : zCal RL 71 yX7_well cX7_well 4 (some .int) 1 := ⟨wm_L_71, wi_X7, wc_X7_well, by decide +kernel, by decide +kernel, by decide +kernel⟩
set_option maxRecDepth 20000 in
theorem wn_X7_well : Cond.instanceMethod yX7_well ∈ zB := List.mem_filter.mpr ⟨List.mem_of_getElem? (i := 617) (by decide +kernel), by decide +kernel⟩
set_option maxRecDepth 20000 in
theorem ws_X7_well : Cond.selects RX7 yX7_well yX7_well ∈ zB := List.mem_filter.mpr ⟨List.mem_of_getElem? (i := 618) (by decide +kernel), by decide +kernel⟩
theorem v_X7_well : zVir yX7_well 7 := ⟨wn_X7_well, ws_X7_well, TX7, 6, rfl⟩
set_option maxRecDepth 20000 in
theorem wc_X7_giveUp : Cond.code yX7_giveUp cX7_giveUp 4 (some .int) ∈ zB := List.mem_filter.mpr ⟨List.mem_of_getElem? (i := 609) (by decide +kernel), by decide +kernel⟩
set_option maxRecDepth 20000 in
theorem wm_L_68 : Cond.methodLink RL 68 yX7_giveUp ∈ zB := List.mem_filter.mpr ⟨List.mem_of_getElem? (i := 606) (by decide +kernel), by decide +kernel⟩
theorem k_L_68 : zCal RL 68 yX7_giveUp cX7_giveUp 4 (some .int) 2 := ⟨wm_L_68, wi_X7, wc_X7_giveUp, by decide +kernel, by decide +kernel, by decide +kernel⟩
set_option maxRecDepth 20000 in
theorem wn_X7_giveUp : Cond.instanceMethod yX7_giveUp ∈ zB := List.mem_filter.mpr ⟨List.mem_of_getElem? (i := 607) (by decide +kernel), by decide +kernel⟩
set_option maxRecDepth 20000 in
theorem ws_X7_giveUp : Cond.selects RX7 yX7_giveUp yX7_giveUp ∈ zB := List.mem_filter.mpr ⟨List.mem_of_getElem? (i := 608) (by decide +kernel), by decide +kernel⟩
theorem v_X7_giveUp : zVir yX7_giveUp 7 := ⟨wn_X7_giveUp, ws_X7_giveUp, TX7, 6, rfl⟩
set_option maxRecDepth 20000 in
theorem wc_X7_cancel : Cond.code yX7_cancel cX7_cancel 3 (some .int) ∈ zB := List.mem_filter.mpr ⟨List.mem_of_getElem? (i := 584) (by decide +kernel), by decide +kernel⟩
set_option maxRecDepth 20000 in
theorem wm_L_62 : Cond.methodLink RL 62 yX7_cancel ∈ zB := List.mem_filter.mpr ⟨List.mem_of_getElem? (i := 581) (by decide +kernel), by decide +kernel⟩
theorem k_L_62 : zCal RL 62 yX7_cancel cX7_cancel 3 (some .int) 1 := ⟨wm_L_62, wi_X7, wc_X7_cancel, by decide +kernel, by decide +kernel, by decide +kernel⟩
set_option maxRecDepth 20000 in
theorem wn_X7_cancel : Cond.instanceMethod yX7_cancel ∈ zB := List.mem_filter.mpr ⟨List.mem_of_getElem? (i := 582) (by decide +kernel), by decide +kernel⟩
set_option maxRecDepth 20000 in
theorem ws_X7_cancel : Cond.selects RX7 yX7_cancel yX7_cancel ∈ zB := List.mem_filter.mpr ⟨List.mem_of_getElem? (i := 583) (by decide +kernel), by decide +kernel⟩
theorem v_X7_cancel : zVir yX7_cancel 7 := ⟨wn_X7_cancel, ws_X7_cancel, TX7, 6, rfl⟩
set_option maxRecDepth 20000 in
theorem wc_X7_leave : Cond.code yX7_leave cX7_leave 4 (some .int) ∈ zB := List.mem_filter.mpr ⟨List.mem_of_getElem? (i := 574) (by decide +kernel), by decide +kernel⟩
set_option maxRecDepth 20000 in
theorem wm_L_59 : Cond.methodLink RL 59 yX7_leave ∈ zB := List.mem_filter.mpr ⟨List.mem_of_getElem? (i := 571) (by decide +kernel), by decide +kernel⟩
theorem k_L_59 : zCal RL 59 yX7_leave cX7_leave 4 (some .int) 2 := ⟨wm_L_59, wi_X7, wc_X7_leave, by decide +kernel, by decide +kernel, by decide +kernel⟩
set_option maxRecDepth 20000 in
theorem wn_X7_leave : Cond.instanceMethod yX7_leave ∈ zB := List.mem_filter.mpr ⟨List.mem_of_getElem? (i := 572) (by decide +kernel), by decide +kernel⟩
set_option maxRecDepth 20000 in
theorem ws_X7_leave : Cond.selects RX7 yX7_leave yX7_leave ∈ zB := List.mem_filter.mpr ⟨List.mem_of_getElem? (i := 573) (by decide +kernel), by decide +kernel⟩
theorem v_X7_leave : zVir yX7_leave 7 := ⟨wn_X7_leave, ws_X7_leave, TX7, 6, rfl⟩
set_option maxRecDepth 20000 in
theorem wc_X7_climb : Cond.code yX7_climb cX7_climb 4 (some .int) ∈ zB := List.mem_filter.mpr ⟨List.mem_of_getElem? (i := 569) (by decide +kernel), by decide +kernel⟩
set_option maxRecDepth 20000 in
theorem wm_L_56 : Cond.methodLink RL 56 yX7_climb ∈ zB := List.mem_filter.mpr ⟨List.mem_of_getElem? (i := 566) (by decide +kernel), by decide +kernel⟩
theorem k_L_56 : zCal RL 56 yX7_climb cX7_climb 4 (some .int) 2 := ⟨wm_L_56, wi_X7, wc_X7_climb, by decide +kernel, by decide +kernel, by decide +kernel⟩
set_option maxRecDepth 20000 in
theorem wn_X7_climb : Cond.instanceMethod yX7_climb ∈ zB := List.mem_filter.mpr ⟨List.mem_of_getElem? (i := 567) (by decide +kernel), by decide +kernel⟩
set_option maxRecDepth 20000 in
theorem ws_X7_climb : Cond.selects RX7 yX7_climb yX7_climb ∈ zB := List.mem_filter.mpr ⟨List.mem_of_getElem? (i := 568) (by decide +kernel), by decide +kernel⟩
theorem v_X7_climb : zVir yX7_climb 7 := ⟨wn_X7_climb, ws_X7_climb, TX7, 6, rfl⟩
set_option maxRecDepth 20000 in
theorem wc_X7_member : Cond.code yX7_member cX7_member 3 (some .int) ∈ zB := List.mem_filter.mpr ⟨List.mem_of_getElem? (i := 539) (by decide +kernel), by decide +kernel⟩
set_option maxRecDepth 20000 in
theorem wm_L_50 : Cond.methodLink RL 50 yX7_member ∈ zB := List.mem_filter.mpr ⟨List.mem_of_getElem? (i := 536) (by decide +kernel), by decide +kernel⟩
theorem k_L_50 : zCal RL 50 yX7_member cX7_member 3 (some .int) 2 := ⟨wm_L_50, wi_X7, wc_X7_member, by decide +kernel, by decide +kernel, by decide +kernel⟩
set_option maxRecDepth 20000 in
theorem wn_X7_member : Cond.instanceMethod yX7_member ∈ zB := List.mem_filter.mpr ⟨List.mem_of_getElem? (i := 537) (by decide +kernel), by decide +kernel⟩
set_option maxRecDepth 20000 in
theorem ws_X7_member : Cond.selects RX7 yX7_member yX7_member ∈ zB := List.mem_filter.mpr ⟨List.mem_of_getElem? (i := 538) (by decide +kernel), by decide +kernel⟩
theorem v_X7_member : zVir yX7_member 7 := ⟨wn_X7_member, ws_X7_member, TX7, 6, rfl⟩
set_option maxRecDepth 20000 in
theorem wc_X7_sailing : Cond.code yX7_sailing cX7_sailing 6 (some .int) ∈ zB := List.mem_filter.mpr ⟨List.mem_of_getElem? (i := 506) (by decide +kernel), by decide +kernel⟩
set_option maxRecDepth 20000 in
theorem wm_L_46 : Cond.methodLink RL 46 yX7_sailing ∈ zB := List.mem_filter.mpr ⟨List.mem_of_getElem? (i := 503) (by decide +kernel), by decide +kernel⟩
theorem k_L_46 : zCal RL 46 yX7_sailing cX7_sailing 6 (some .int) 4 := ⟨wm_L_46, wi_X7, wc_X7_sailing, by decide +kernel, by decide +kernel, by decide +kernel⟩
set_option maxRecDepth 20000 in
theorem wn_X7_sailing : Cond.instanceMethod yX7_sailing ∈ zB := List.mem_filter.mpr ⟨List.mem_of_getElem? (i := 504) (by decide +kernel), by decide +kernel⟩
set_option maxRecDepth 20000 in
theorem ws_X7_sailing : Cond.selects RX7 yX7_sailing yX7_sailing ∈ zB := List.mem_filter.mpr ⟨List.mem_of_getElem? (i := 505) (by decide +kernel), by decide +kernel⟩
theorem v_X7_sailing : zVir yX7_sailing 7 := ⟨wn_X7_sailing, ws_X7_sailing, TX7, 6, rfl⟩
set_option maxRecDepth 20000 in
theorem wc_X7_give : Cond.code yX7_give cX7_give 6 (some .int) ∈ zB := List.mem_filter.mpr ⟨List.mem_of_getElem? (i := 561) (by decide +kernel), by decide +kernel⟩
set_option maxRecDepth 20000 in
theorem wm_L_53 : Cond.methodLink RL 53 yX7_give ∈ zB := List.mem_filter.mpr ⟨List.mem_of_getElem? (i := 558) (by decide +kernel), by decide +kernel⟩
theorem k_L_53 : zCal RL 53 yX7_give cX7_give 6 (some .int) 3 := ⟨wm_L_53, wi_X7, wc_X7_give, by decide +kernel, by decide +kernel, by decide +kernel⟩
set_option maxRecDepth 20000 in
theorem wn_X7_give : Cond.instanceMethod yX7_give ∈ zB := List.mem_filter.mpr ⟨List.mem_of_getElem? (i := 559) (by decide +kernel), by decide +kernel⟩
set_option maxRecDepth 20000 in
theorem ws_X7_give : Cond.selects RX7 yX7_give yX7_give ∈ zB := List.mem_filter.mpr ⟨List.mem_of_getElem? (i := 560) (by decide +kernel), by decide +kernel⟩
theorem v_X7_give : zVir yX7_give 7 := ⟨wn_X7_give, ws_X7_give, TX7, 6, rfl⟩
def rm_L_act : Room := { frames := 8, cells := 0, slots := 0, locals := 189 }
set_option maxHeartbeats 4000000 in
set_option maxRecDepth 20000 in
theorem t_L_act_180 {p : Program} {l : Launch} {e : Env} {s : State} {m : MethodId} {args : Array Value} {below : List Frame} {meth : Method} {c : Code} {G : zG} (Z : zF p s m args c meth cL_act 8 RL G) (hr : meth.sig.returnType = (some .int)) {out : Int32 × zHp} {s0 : Int32} {s1 : Int32} {s2 : Int32} {s3 : Nat} {h : zHp} {H : Heap} {locs : List Loc} {ls : Array Slot} (hf : f_L_act_180 s0 s1 s2 s3 h = some out) (E : zE G s h H locs) (hl : lv_has ls 8 []) : W p l e rm_L_act s m args below meth c H locs 0 0 (MQ below (zQi G out.1 out.2) args s 0 0 (zA G)) (F0 m 180 ls [.int s0, .int s1, .int s2, .ref s3]) := by
  unfold f_L_act_180 at hf
  refine z_Vi (As := [.int s2, .int s1, .int s0]) Z E hl.1 k_L_53 v_X7_give hf (fun r h' e => c_X7_give l G h h' s3 s2 s1 s0 r e) rfl rfl (Nat.le_of_ble_eq_true rfl) (zRm_of rfl (Nat.zero_le _) (Nat.zero_le _)) dL_act_180 (fun v1 h2 H locs hf E => ?_)
  refine lv_istore (lv' := [(7, .int v1)]) Z.x Z.b dL_act_183 hl (by decide) rfl (fun ls hl => ?_)
  refine lv_iload Z.x Z.b dL_act_185 (lv_at hl 0 rfl) ?_
  refine lv_if_le (tgt := 196) Z.x Z.b dL_act_187 (by decide) (fun c => ?_) (fun c => ?_)
  · have hf := zit hf c
    refine lv_iload Z.x Z.b dL_act_196 (lv_at hl 0 rfl) ?_
    exact z_iret Z E hr dL_act_198 hf
  · have hf := zif_ hf c
    refine lv_iload Z.x Z.b dL_act_190 (lv_at hl 0 rfl) ?_
    refine lv_ineg Z.x Z.b dL_act_192 ?_
    refine lv_goto (tgt := 198) Z.x Z.b dL_act_193 (by decide) ?_
    exact z_iret Z E hr dL_act_198 hf
set_option maxHeartbeats 4000000 in
set_option maxRecDepth 20000 in
theorem t_L_act {p : Program} {l : Launch} {e : Env} {s : State} {m : MethodId} {args : Array Value} {below : List Frame} {meth : Method} {c : Code} {G : zG} (Z : zF p s m args c meth cL_act 8 RL G) (hr : meth.sig.returnType = (some .int)) {out : Int32 × zHp} {a0 : Nat} {a1 : Int32} {a2 : Int32} {h : zHp} {H : Heap} {locs : List Loc} {ls : Array Slot} (hf : f_L_act a0 a1 a2 h = some out) (E : zE G s h H locs) (hl : lv_has ls 8 [(0, .ref a0), (1, .int a1), (2, .int a2)]) : W p l e rm_L_act s m args below meth c H locs 0 0 (MQ below (zQi G out.1 out.2) args s 0 0 (zA G)) (F0 m 0 ls []) := by
  unfold f_L_act at hf
  refine lv_iload_n Z.x Z.b dL_act_0 rfl (lv_at hl 1 rfl) ?_
  refine lv_iconst (v := 3) Z.x Z.b dL_act_1 (by decide) ?_
  refine lv_ishr Z.x Z.b dL_act_2 ?_
  refine lv_bipush (v := 18) Z.x Z.b dL_act_3 (by decide) ?_
  refine z_Si (As := [.int (a1 >>> (3 &&& 31)), .int 18]) Z E hl.1 k_L_41 wt_L_low hf (fun r h' e => c_L_low l G h h' (a1 >>> (3 &&& 31)) 18 r e) rfl rfl (Nat.le_of_ble_eq_true rfl) (zRm_of rfl (Nat.zero_le _) (Nat.zero_le _)) dL_act_5 (fun v1 h2 H locs hf E => ?_)
  refine lv_istore_n (lv' := [(3, .int v1), (0, .ref a0), (1, .int a1), (2, .int a2)]) Z.x Z.b dL_act_8 rfl hl (by decide) rfl (fun ls hl => ?_)
  refine lv_iload_n Z.x Z.b dL_act_9 rfl (lv_at hl 3 rfl) ?_
  refine lv_aload_n Z.x Z.b dL_act_10 rfl (lv_at hl 1 rfl) ?_
  refine lv_iconst (v := 5) Z.x Z.b dL_act_11 (by decide) ?_
  refine z_Vi (As := [.int 5]) Z E hl.1 k_L_9 v_X7_count hf (fun r h' e => c_X7_count l G h2 h' a0 5 r e) rfl rfl (Nat.le_of_ble_eq_true rfl) (zRm_of rfl (Nat.zero_le _) (Nat.zero_le _)) dL_act_12 (fun v3 h4 H locs hf E => ?_)
  refine lv_iconst (v := 1) Z.x Z.b dL_act_15 (by decide) ?_
  refine lv_iadd Z.x Z.b dL_act_16 ?_
  refine z_Si (As := [.int a2, .int (v3 + 1)]) Z E hl.1 k_L_41 wt_L_low hf (fun r h' e => c_L_low l G h4 h' a2 (v3 + 1) r e) rfl rfl (Nat.le_of_ble_eq_true rfl) (zRm_of rfl (Nat.zero_le _) (Nat.zero_le _)) dL_act_17 (fun v5 h6 H locs hf E => ?_)
  refine lv_istore (lv' := [(4, .int v5), (3, .int v1), (0, .ref a0), (1, .int a1), (2, .int a2)]) Z.x Z.b dL_act_20 hl (by decide) rfl (fun ls hl => ?_)
  refine lv_iload_n Z.x Z.b dL_act_22 rfl (lv_at hl 4 rfl) ?_
  refine lv_iconst (v := 3) Z.x Z.b dL_act_23 (by decide) ?_
  refine lv_ishr Z.x Z.b dL_act_24 ?_
  refine lv_aload_n Z.x Z.b dL_act_25 rfl (lv_at hl 2 rfl) ?_
  refine lv_iconst (v := 1) Z.x Z.b dL_act_26 (by decide) ?_
  refine z_Vi (As := [.int 1]) Z E hl.1 k_L_9 v_X7_count hf (fun r h' e => c_X7_count l G h6 h' a0 1 r e) rfl rfl (Nat.le_of_ble_eq_true rfl) (zRm_of rfl (Nat.zero_le _) (Nat.zero_le _)) dL_act_27 (fun v7 h8 H locs hf E => ?_)
  refine lv_iconst (v := 1) Z.x Z.b dL_act_30 (by decide) ?_
  refine lv_iadd Z.x Z.b dL_act_31 ?_
  refine z_Si (As := [.int (a2 >>> (3 &&& 31)), .int (v7 + 1)]) Z E hl.1 k_L_41 wt_L_low hf (fun r h' e => c_L_low l G h8 h' (a2 >>> (3 &&& 31)) (v7 + 1) r e) rfl rfl (Nat.le_of_ble_eq_true rfl) (zRm_of rfl (Nat.zero_le _) (Nat.zero_le _)) dL_act_32 (fun v9 h10 H locs hf E => ?_)
  refine lv_istore (lv' := [(5, .int v9), (4, .int v5), (3, .int v1), (0, .ref a0), (1, .int a1), (2, .int a2)]) Z.x Z.b dL_act_35 hl (by decide) rfl (fun ls hl => ?_)
  refine lv_iload_n Z.x Z.b dL_act_37 rfl (lv_at hl 5 rfl) ?_
  refine lv_bipush (v := 7) Z.x Z.b dL_act_38 (by decide) ?_
  refine lv_ishr Z.x Z.b dL_act_40 ?_
  refine lv_iconst (v := 4) Z.x Z.b dL_act_41 (by decide) ?_
  refine z_Si (As := [.int (a2 >>> (7 &&& 31)), .int 4]) Z E hl.1 k_L_41 wt_L_low hf (fun r h' e => c_L_low l G h10 h' (a2 >>> (7 &&& 31)) 4 r e) rfl rfl (Nat.le_of_ble_eq_true rfl) (zRm_of rfl (Nat.zero_le _) (Nat.zero_le _)) dL_act_42 (fun v11 h12 H locs hf E => ?_)
  refine lv_istore (lv' := [(6, .int v11), (5, .int v9), (4, .int v5), (3, .int v1), (0, .ref a0), (1, .int a1), (2, .int a2)]) Z.x Z.b dL_act_45 hl (by decide) rfl (fun ls hl => ?_)
  refine lv_iload_n Z.x Z.b dL_act_47 rfl (lv_at hl 3 rfl) ?_
  refine lv_iconst (v := 4) Z.x Z.b dL_act_48 (by decide) ?_
  refine lv_icmp_ge (tgt := 119) Z.x Z.b dL_act_49 (by decide) (fun c => ?_) (fun c => ?_)
  · have hf := zit hf c
    refine lv_iload_n Z.x Z.b dL_act_119 rfl (lv_at hl 3 rfl) ?_
    refine lv_bipush (v := 6) Z.x Z.b dL_act_120 (by decide) ?_
    refine lv_icmp_ge (tgt := 145) Z.x Z.b dL_act_122 (by decide) (fun c => ?_) (fun c => ?_)
    · have hf := zit hf c
      refine lv_iload_n Z.x Z.b dL_act_145 rfl (lv_at hl 3 rfl) ?_
      refine lv_bipush (v := 10) Z.x Z.b dL_act_146 (by decide) ?_
      refine lv_icmp_ge (tgt := 199) Z.x Z.b dL_act_148 (by decide) (fun c => ?_) (fun c => ?_)
      · have hf := zit hf c
        refine lv_iload_n Z.x Z.b dL_act_199 rfl (lv_at hl 3 rfl) ?_
        refine lv_bipush (v := 10) Z.x Z.b dL_act_200 (by decide) ?_
        refine lv_icmp_ne (tgt := 233) Z.x Z.b dL_act_202 (by decide) (fun c => ?_) (fun c => ?_)
        · have hf := zif_ hf c
          refine lv_iload_n Z.x Z.b dL_act_233 rfl (lv_at hl 3 rfl) ?_
          refine lv_bipush (v := 11) Z.x Z.b dL_act_234 (by decide) ?_
          refine lv_icmp_ne (tgt := 263) Z.x Z.b dL_act_236 (by decide) (fun c => ?_) (fun c => ?_)
          · have hf := zif_ hf c
            refine lv_iload_n Z.x Z.b dL_act_263 rfl (lv_at hl 3 rfl) ?_
            refine lv_bipush (v := 12) Z.x Z.b dL_act_264 (by decide) ?_
            refine lv_icmp_ne (tgt := 278) Z.x Z.b dL_act_266 (by decide) (fun c => ?_) (fun c => ?_)
            · have hf := zif_ hf c
              refine lv_iload_n Z.x Z.b dL_act_278 rfl (lv_at hl 3 rfl) ?_
              refine lv_bipush (v := 13) Z.x Z.b dL_act_279 (by decide) ?_
              refine lv_icmp_ne (tgt := 318) Z.x Z.b dL_act_281 (by decide) (fun c => ?_) (fun c => ?_)
              · have hf := zif_ hf c
                refine lv_iload_n Z.x Z.b dL_act_318 rfl (lv_at hl 3 rfl) ?_
                refine lv_bipush (v := 14) Z.x Z.b dL_act_319 (by decide) ?_
                refine lv_icmp_ne (tgt := 343) Z.x Z.b dL_act_321 (by decide) (fun c => ?_) (fun c => ?_)
                · have hf := zif_ hf c
                  refine lv_iload_n Z.x Z.b dL_act_343 rfl (lv_at hl 3 rfl) ?_
                  refine lv_bipush (v := 15) Z.x Z.b dL_act_344 (by decide) ?_
                  refine lv_icmp_ne (tgt := 367) Z.x Z.b dL_act_346 (by decide) (fun c => ?_) (fun c => ?_)
                  · have hf := zif_ hf c
                    refine lv_iload_n Z.x Z.b dL_act_367 rfl (lv_at hl 3 rfl) ?_
                    refine lv_bipush (v := 16) Z.x Z.b dL_act_368 (by decide) ?_
                    refine lv_icmp_ne (tgt := 388) Z.x Z.b dL_act_370 (by decide) (fun c => ?_) (fun c => ?_)
                    · have hf := zif_ hf c
                      refine lv_aload_n Z.x Z.b dL_act_388 rfl (lv_at hl 4 rfl) ?_
                      refine lv_iload Z.x Z.b dL_act_389 (lv_at hl 1 rfl) ?_
                      refine z_Vi (As := [.int v9]) Z E hl.1 k_L_65 v_X7_fill hf (fun r h' e => c_X7_fill l G h12 h' a0 v9 r e) rfl rfl (Nat.le_of_ble_eq_true rfl) (zRm_of rfl (Nat.zero_le _) (Nat.zero_le _)) dL_act_391 (fun v13 h14 H locs hf E => ?_)
                      exact z_iret Z E hr dL_act_394 hf
                    · have hf := zit hf c
                      refine lv_aload_n Z.x Z.b dL_act_373 rfl (lv_at hl 4 rfl) ?_
                      refine lv_iconst (v := 1) Z.x Z.b dL_act_374 (by decide) ?_
                      refine lv_iload_n Z.x Z.b dL_act_375 rfl (lv_at hl 6 rfl) ?_
                      refine lv_bipush (v := 8) Z.x Z.b dL_act_376 (by decide) ?_
                      refine z_Si (As := [.int a2, .int 8]) Z E hl.1 k_L_41 wt_L_low hf (fun r h' e => c_L_low l G h12 h' a2 8 r e) rfl rfl (Nat.le_of_ble_eq_true rfl) (zRm_of rfl (Nat.zero_le _) (Nat.zero_le _)) dL_act_378 (fun v15 h16 H locs hf E => ?_)
                      refine lv_iadd Z.x Z.b dL_act_381 ?_
                      refine z_Vi (As := [.int (1 + v15)]) Z E hl.1 k_L_83 v_X7_pass hf (fun r h' e => c_X7_pass l G h16 h' a0 (1 + v15) r e) rfl rfl (Nat.le_of_ble_eq_true rfl) (zRm_of rfl (Nat.zero_le _) (Nat.zero_le _)) dL_act_382 (fun v17 h18 H locs hf E => ?_)
                      refine lv_goto (tgt := 394) Z.x Z.b dL_act_385 (by decide) ?_
                      exact z_iret Z E hr dL_act_394 hf
                  · have hf := zit hf c
                    refine lv_aload_n Z.x Z.b dL_act_349 rfl (lv_at hl 4 rfl) ?_
                    refine lv_iload_n Z.x Z.b dL_act_350 rfl (lv_at hl 6 rfl) ?_
                    refine lv_iconst (v := 5) Z.x Z.b dL_act_351 (by decide) ?_
                    refine z_Si (As := [.int a2, .int 5]) Z E hl.1 k_L_41 wt_L_low hf (fun r h' e => c_L_low l G h12 h' a2 5 r e) rfl rfl (Nat.le_of_ble_eq_true rfl) (zRm_of rfl (Nat.zero_le _) (Nat.zero_le _)) dL_act_352 (fun v19 h20 H locs hf E => ?_)
                    refine lv_iload_n Z.x Z.b dL_act_355 rfl (lv_at hl 6 rfl) ?_
                    refine lv_iconst (v := 3) Z.x Z.b dL_act_356 (by decide) ?_
                    refine lv_ishr Z.x Z.b dL_act_357 ?_
                    refine lv_bipush (v := 13) Z.x Z.b dL_act_358 (by decide) ?_
                    refine z_Si (As := [.int (a2 >>> (3 &&& 31)), .int 13]) Z E hl.1 k_L_41 wt_L_low hf (fun r h' e => c_L_low l G h20 h' (a2 >>> (3 &&& 31)) 13 r e) rfl rfl (Nat.le_of_ble_eq_true rfl) (zRm_of rfl (Nat.zero_le _) (Nat.zero_le _)) dL_act_360 (fun v21 h22 H locs hf E => ?_)
                    refine z_Vi (As := [.int v19, .int v21]) Z E hl.1 k_L_80 v_X7_set hf (fun r h' e => c_X7_set l G h22 h' a0 v19 v21 r e) rfl rfl (Nat.le_of_ble_eq_true rfl) (zRm_of rfl (Nat.zero_le _) (Nat.zero_le _)) dL_act_363 (fun v23 h24 H locs hf E => ?_)
                    exact z_iret Z E hr dL_act_366 hf
                · have hf := zit hf c
                  refine lv_aload_n Z.x Z.b dL_act_324 rfl (lv_at hl 4 rfl) ?_
                  refine lv_iload Z.x Z.b dL_act_325 (lv_at hl 2 rfl) ?_
                  refine lv_iload Z.x Z.b dL_act_327 (lv_at hl 0 rfl) ?_
                  refine lv_iload_n Z.x Z.b dL_act_329 rfl (lv_at hl 5 rfl) ?_
                  refine lv_bipush (v := 8) Z.x Z.b dL_act_330 (by decide) ?_
                  refine lv_ishr Z.x Z.b dL_act_332 ?_
                  refine lv_sipush (v := 300) Z.x Z.b dL_act_333 (by decide) ?_
                  refine z_Si (As := [.int (a1 >>> (8 &&& 31)), .int 300]) Z E hl.1 k_L_41 wt_L_low hf (fun r h' e => c_L_low l G h12 h' (a1 >>> (8 &&& 31)) 300 r e) rfl rfl (Nat.le_of_ble_eq_true rfl) (zRm_of rfl (Nat.zero_le _) (Nat.zero_le _)) dL_act_336 (fun v25 h26 H locs hf E => ?_)
                  refine z_Vi (As := [.int v5, .int v11, .int v25]) Z E hl.1 k_L_77 v_X7_certify hf (fun r h' e => c_X7_certify l G h26 h' a0 v5 v11 v25 r e) rfl rfl (Nat.le_of_ble_eq_true rfl) (zRm_of rfl (Nat.zero_le _) (Nat.zero_le _)) dL_act_339 (fun v27 h28 H locs hf E => ?_)
                  exact z_iret Z E hr dL_act_342 hf
              · have hf := zit hf c
                refine lv_iload_n Z.x Z.b dL_act_284 rfl (lv_at hl 6 rfl) ?_
                refine lv_iconst (v := 3) Z.x Z.b dL_act_285 (by decide) ?_
                refine z_Si (As := [.int a2, .int 3]) Z E hl.1 k_L_41 wt_L_low hf (fun r h' e => c_L_low l G h12 h' a2 3 r e) rfl rfl (Nat.le_of_ble_eq_true rfl) (zRm_of rfl (Nat.zero_le _) (Nat.zero_le _)) dL_act_286 (fun v29 h30 H locs hf E => ?_)
                refine lv_if_ne (tgt := 301) Z.x Z.b dL_act_289 (by decide) (fun c => ?_) (fun c => ?_)
                · have hf := zif_ hf c
                  refine lv_aload_n Z.x Z.b dL_act_301 rfl (lv_at hl 4 rfl) ?_
                  refine lv_iload Z.x Z.b dL_act_302 (lv_at hl 2 rfl) ?_
                  refine lv_iconst (v := 1) Z.x Z.b dL_act_304 (by decide) ?_
                  refine lv_iload_n Z.x Z.b dL_act_305 rfl (lv_at hl 6 rfl) ?_
                  refine lv_iconst (v := 4) Z.x Z.b dL_act_306 (by decide) ?_
                  refine lv_ishr Z.x Z.b dL_act_307 ?_
                  refine lv_bipush (v := 40) Z.x Z.b dL_act_308 (by decide) ?_
                  refine z_Si (As := [.int (a2 >>> (4 &&& 31)), .int 40]) Z E hl.1 k_L_41 wt_L_low hf (fun r h' e => c_L_low l G h30 h' (a2 >>> (4 &&& 31)) 40 r e) rfl rfl (Nat.le_of_ble_eq_true rfl) (zRm_of rfl (Nat.zero_le _) (Nat.zero_le _)) dL_act_310 (fun v31 h32 H locs hf E => ?_)
                  refine lv_iadd Z.x Z.b dL_act_313 ?_
                  refine z_Vi (As := [.int v5, .int (1 + v31)]) Z E hl.1 k_L_74 v_X7_sick hf (fun r h' e => c_X7_sick l G h32 h' a0 v5 (1 + v31) r e) rfl rfl (Nat.le_of_ble_eq_true rfl) (zRm_of rfl (Nat.zero_le _) (Nat.zero_le _)) dL_act_314 (fun v33 h34 H locs hf E => ?_)
                  exact z_iret Z E hr dL_act_317 hf
                · have hf := zit hf c
                  refine lv_aload_n Z.x Z.b dL_act_292 rfl (lv_at hl 4 rfl) ?_
                  refine lv_iload Z.x Z.b dL_act_293 (lv_at hl 2 rfl) ?_
                  refine z_Vi (As := [.int v5]) Z E hl.1 k_L_71 v_X7_well hf (fun r h' e => c_X7_well l G h30 h' a0 v5 r e) rfl rfl (Nat.le_of_ble_eq_true rfl) (zRm_of rfl (Nat.zero_le _) (Nat.zero_le _)) dL_act_295 (fun v35 h36 H locs hf E => ?_)
                  refine lv_goto (tgt := 317) Z.x Z.b dL_act_298 (by decide) ?_
                  exact z_iret Z E hr dL_act_317 hf
            · have hf := zit hf c
              refine lv_aload_n Z.x Z.b dL_act_269 rfl (lv_at hl 4 rfl) ?_
              refine lv_iload Z.x Z.b dL_act_270 (lv_at hl 2 rfl) ?_
              refine lv_iload Z.x Z.b dL_act_272 (lv_at hl 1 rfl) ?_
              refine z_Vi (As := [.int v5, .int v9]) Z E hl.1 k_L_68 v_X7_giveUp hf (fun r h' e => c_X7_giveUp l G h12 h' a0 v5 v9 r e) rfl rfl (Nat.le_of_ble_eq_true rfl) (zRm_of rfl (Nat.zero_le _) (Nat.zero_le _)) dL_act_274 (fun v37 h38 H locs hf E => ?_)
              exact z_iret Z E hr dL_act_277 hf
          · have hf := zit hf c
            refine lv_iload_n Z.x Z.b dL_act_239 rfl (lv_at hl 6 rfl) ?_
            refine lv_iconst (v := 3) Z.x Z.b dL_act_240 (by decide) ?_
            refine z_Si (As := [.int a2, .int 3]) Z E hl.1 k_L_41 wt_L_low hf (fun r h' e => c_L_low l G h12 h' a2 3 r e) rfl rfl (Nat.le_of_ble_eq_true rfl) (zRm_of rfl (Nat.zero_le _) (Nat.zero_le _)) dL_act_241 (fun v39 h40 H locs hf E => ?_)
            refine lv_if_ne (tgt := 256) Z.x Z.b dL_act_244 (by decide) (fun c => ?_) (fun c => ?_)
            · have hf := zif_ hf c
              refine lv_aload_n Z.x Z.b dL_act_256 rfl (lv_at hl 4 rfl) ?_
              refine lv_iload Z.x Z.b dL_act_257 (lv_at hl 1 rfl) ?_
              refine z_Vi (As := [.int v9]) Z E hl.1 k_L_65 v_X7_fill hf (fun r h' e => c_X7_fill l G h40 h' a0 v9 r e) rfl rfl (Nat.le_of_ble_eq_true rfl) (zRm_of rfl (Nat.zero_le _) (Nat.zero_le _)) dL_act_259 (fun v41 h42 H locs hf E => ?_)
              exact z_iret Z E hr dL_act_262 hf
            · have hf := zit hf c
              refine lv_aload_n Z.x Z.b dL_act_247 rfl (lv_at hl 4 rfl) ?_
              refine lv_iload Z.x Z.b dL_act_248 (lv_at hl 1 rfl) ?_
              refine z_Vi (As := [.int v9]) Z E hl.1 k_L_62 v_X7_cancel hf (fun r h' e => c_X7_cancel l G h40 h' a0 v9 r e) rfl rfl (Nat.le_of_ble_eq_true rfl) (zRm_of rfl (Nat.zero_le _) (Nat.zero_le _)) dL_act_250 (fun v43 h44 H locs hf E => ?_)
              refine lv_goto (tgt := 262) Z.x Z.b dL_act_253 (by decide) ?_
              exact z_iret Z E hr dL_act_262 hf
        · have hf := zit hf c
          refine lv_iload_n Z.x Z.b dL_act_205 rfl (lv_at hl 6 rfl) ?_
          refine lv_iconst (v := 2) Z.x Z.b dL_act_206 (by decide) ?_
          refine z_Si (As := [.int a2, .int 2]) Z E hl.1 k_L_41 wt_L_low hf (fun r h' e => c_L_low l G h12 h' a2 2 r e) rfl rfl (Nat.le_of_ble_eq_true rfl) (zRm_of rfl (Nat.zero_le _) (Nat.zero_le _)) dL_act_207 (fun v45 h46 H locs hf E => ?_)
          refine lv_if_ne (tgt := 224) Z.x Z.b dL_act_210 (by decide) (fun c => ?_) (fun c => ?_)
          · have hf := zif_ hf c
            refine lv_aload_n Z.x Z.b dL_act_224 rfl (lv_at hl 4 rfl) ?_
            refine lv_iload Z.x Z.b dL_act_225 (lv_at hl 2 rfl) ?_
            refine lv_iload Z.x Z.b dL_act_227 (lv_at hl 0 rfl) ?_
            refine z_Vi (As := [.int v5, .int v11]) Z E hl.1 k_L_59 v_X7_leave hf (fun r h' e => c_X7_leave l G h46 h' a0 v5 v11 r e) rfl rfl (Nat.le_of_ble_eq_true rfl) (zRm_of rfl (Nat.zero_le _) (Nat.zero_le _)) dL_act_229 (fun v47 h48 H locs hf E => ?_)
            exact z_iret Z E hr dL_act_232 hf
          · have hf := zit hf c
            refine lv_aload_n Z.x Z.b dL_act_213 rfl (lv_at hl 4 rfl) ?_
            refine lv_iload Z.x Z.b dL_act_214 (lv_at hl 2 rfl) ?_
            refine lv_iload Z.x Z.b dL_act_216 (lv_at hl 0 rfl) ?_
            refine z_Vi (As := [.int v5, .int v11]) Z E hl.1 k_L_56 v_X7_climb hf (fun r h' e => c_X7_climb l G h46 h' a0 v5 v11 r e) rfl rfl (Nat.le_of_ble_eq_true rfl) (zRm_of rfl (Nat.zero_le _) (Nat.zero_le _)) dL_act_218 (fun v49 h50 H locs hf E => ?_)
            refine lv_goto (tgt := 232) Z.x Z.b dL_act_221 (by decide) ?_
            exact z_iret Z E hr dL_act_232 hf
      · have hf := zif_ hf c
        refine lv_aload_n Z.x Z.b dL_act_151 rfl (lv_at hl 4 rfl) ?_
        refine lv_iload Z.x Z.b dL_act_152 (lv_at hl 2 rfl) ?_
        refine lv_iload Z.x Z.b dL_act_154 (lv_at hl 1 rfl) ?_
        refine lv_iload_n Z.x Z.b dL_act_156 rfl (lv_at hl 5 rfl) ?_
        refine lv_bipush (v := 7) Z.x Z.b dL_act_157 (by decide) ?_
        refine lv_ishr Z.x Z.b dL_act_159 ?_
        refine lv_iconst (v := 3) Z.x Z.b dL_act_160 (by decide) ?_
        refine z_Si (As := [.int (a1 >>> (7 &&& 31)), .int 3]) Z E hl.1 k_L_41 wt_L_low hf (fun r h' e => c_L_low l G h12 h' (a1 >>> (7 &&& 31)) 3 r e) rfl rfl (Nat.le_of_ble_eq_true rfl) (zRm_of rfl (Nat.zero_le _) (Nat.zero_le _)) dL_act_161 (fun v51 h52 H locs hf E => ?_)
        refine lv_if_le (tgt := 178) Z.x Z.b dL_act_164 (by decide) (fun c => ?_) (fun c => ?_)
        · have hf := zit hf c
          refine lv_iload Z.x Z.b dL_act_178 (lv_at hl 0 rfl) ?_
          exact t_L_act_180 Z hr hf E (lv_sub hl [] rfl)
        · have hf := zif_ hf c
          refine lv_iload_n Z.x Z.b dL_act_167 rfl (lv_at hl 6 rfl) ?_
          refine lv_bipush (v := 7) Z.x Z.b dL_act_168 (by decide) ?_
          refine lv_ishr Z.x Z.b dL_act_170 ?_
          refine lv_iconst (v := 2) Z.x Z.b dL_act_171 (by decide) ?_
          refine z_Si (As := [.int (a2 >>> (7 &&& 31)), .int 2]) Z E hl.1 k_L_41 wt_L_low hf (fun r h' e => c_L_low l G h52 h' (a2 >>> (7 &&& 31)) 2 r e) rfl rfl (Nat.le_of_ble_eq_true rfl) (zRm_of rfl (Nat.zero_le _) (Nat.zero_le _)) dL_act_172 (fun v53 h54 H locs hf E => ?_)
          refine lv_goto (tgt := 180) Z.x Z.b dL_act_175 (by decide) ?_
          exact t_L_act_180 Z hr hf E (lv_sub hl [] rfl)
    · have hf := zif_ hf c
      refine lv_aload_n Z.x Z.b dL_act_125 rfl (lv_at hl 4 rfl) ?_
      refine lv_iload Z.x Z.b dL_act_126 (lv_at hl 0 rfl) ?_
      refine lv_bipush (v := 20) Z.x Z.b dL_act_128 (by decide) ?_
      refine lv_iload_n Z.x Z.b dL_act_130 rfl (lv_at hl 5 rfl) ?_
      refine lv_bipush (v := 8) Z.x Z.b dL_act_131 (by decide) ?_
      refine lv_ishr Z.x Z.b dL_act_133 ?_
      refine lv_sipush (v := 200) Z.x Z.b dL_act_134 (by decide) ?_
      refine z_Si (As := [.int (a1 >>> (8 &&& 31)), .int 200]) Z E hl.1 k_L_41 wt_L_low hf (fun r h' e => c_L_low l G h12 h' (a1 >>> (8 &&& 31)) 200 r e) rfl rfl (Nat.le_of_ble_eq_true rfl) (zRm_of rfl (Nat.zero_le _) (Nat.zero_le _)) dL_act_137 (fun v55 h56 H locs hf E => ?_)
      refine lv_iadd Z.x Z.b dL_act_140 ?_
      refine z_Vi (As := [.int v11, .int (20 + v55)]) Z E hl.1 k_L_50 v_X7_member hf (fun r h' e => c_X7_member l G h56 h' a0 v11 (20 + v55) r e) rfl rfl (Nat.le_of_ble_eq_true rfl) (zRm_of rfl (Nat.zero_le _) (Nat.zero_le _)) dL_act_141 (fun v57 h58 H locs hf E => ?_)
      exact z_iret Z E hr dL_act_144 hf
  · have hf := zif_ hf c
    refine lv_aload_n Z.x Z.b dL_act_52 rfl (lv_at hl 4 rfl) ?_
    refine lv_iload_n Z.x Z.b dL_act_53 rfl (lv_at hl 6 rfl) ?_
    refine lv_iconst (v := 3) Z.x Z.b dL_act_54 (by decide) ?_
    refine z_Si (As := [.int a2, .int 3]) Z E hl.1 k_L_41 wt_L_low hf (fun r h' e => c_L_low l G h12 h' a2 3 r e) rfl rfl (Nat.le_of_ble_eq_true rfl) (zRm_of rfl (Nat.zero_le _) (Nat.zero_le _)) dL_act_55 (fun v59 h60 H locs hf E => ?_)
    refine lv_aload_n Z.x Z.b dL_act_58 rfl (lv_at hl 4 rfl) ?_
    refine lv_iconst (v := 0) Z.x Z.b dL_act_59 (by decide) ?_
    refine z_Vi (As := [.int 0]) Z E hl.1 k_L_9 v_X7_count hf (fun r h' e => c_X7_count l G h60 h' a0 0 r e) rfl rfl (Nat.le_of_ble_eq_true rfl) (zRm_of rfl (Nat.zero_le _) (Nat.zero_le _)) dL_act_60 (fun v61 h62 H locs hf E => ?_)
    refine lv_iload_n Z.x Z.b dL_act_63 rfl (lv_at hl 6 rfl) ?_
    refine lv_iconst (v := 2) Z.x Z.b dL_act_64 (by decide) ?_
    refine lv_ishr Z.x Z.b dL_act_65 ?_
    refine lv_bipush (v := 40) Z.x Z.b dL_act_66 (by decide) ?_
    refine z_Si (As := [.int (a2 >>> (2 &&& 31)), .int 40]) Z E hl.1 k_L_41 wt_L_low hf (fun r h' e => c_L_low l G h62 h' (a2 >>> (2 &&& 31)) 40 r e) rfl rfl (Nat.le_of_ble_eq_true rfl) (zRm_of rfl (Nat.zero_le _) (Nat.zero_le _)) dL_act_68 (fun v63 h64 H locs hf E => ?_)
    refine lv_iadd Z.x Z.b dL_act_71 ?_
    refine lv_iconst (v := 1) Z.x Z.b dL_act_72 (by decide) ?_
    refine lv_iload_n Z.x Z.b dL_act_73 rfl (lv_at hl 6 rfl) ?_
    refine lv_iconst (v := 5) Z.x Z.b dL_act_74 (by decide) ?_
    refine lv_ishr Z.x Z.b dL_act_75 ?_
    refine lv_bipush (v := 12) Z.x Z.b dL_act_76 (by decide) ?_
    refine z_Si (As := [.int (a2 >>> (5 &&& 31)), .int 12]) Z E hl.1 k_L_41 wt_L_low hf (fun r h' e => c_L_low l G h64 h' (a2 >>> (5 &&& 31)) 12 r e) rfl rfl (Nat.le_of_ble_eq_true rfl) (zRm_of rfl (Nat.zero_le _) (Nat.zero_le _)) dL_act_78 (fun v65 h66 H locs hf E => ?_)
    refine lv_iadd Z.x Z.b dL_act_81 ?_
    refine lv_sipush (v := 1000) Z.x Z.b dL_act_82 (by decide) ?_
    refine lv_iload_n Z.x Z.b dL_act_85 rfl (lv_at hl 6 rfl) ?_
    refine lv_bipush (v := 8) Z.x Z.b dL_act_86 (by decide) ?_
    refine lv_ishr Z.x Z.b dL_act_88 ?_
    refine lv_iconst (v := 3) Z.x Z.b dL_act_89 (by decide) ?_
    refine z_Si (As := [.int (a2 >>> (8 &&& 31)), .int 3]) Z E hl.1 k_L_41 wt_L_low hf (fun r h' e => c_L_low l G h66 h' (a2 >>> (8 &&& 31)) 3 r e) rfl rfl (Nat.le_of_ble_eq_true rfl) (zRm_of rfl (Nat.zero_le _) (Nat.zero_le _)) dL_act_90 (fun v67 h68 H locs hf E => ?_)
    refine lv_imul Z.x Z.b dL_act_93 ?_
    refine lv_bipush (v := 100) Z.x Z.b dL_act_94 (by decide) ?_
    refine lv_iload_n Z.x Z.b dL_act_96 rfl (lv_at hl 6 rfl) ?_
    refine lv_bipush (v := 10) Z.x Z.b dL_act_97 (by decide) ?_
    refine lv_ishr Z.x Z.b dL_act_99 ?_
    refine lv_iconst (v := 2) Z.x Z.b dL_act_100 (by decide) ?_
    refine z_Si (As := [.int (a2 >>> (10 &&& 31)), .int 2]) Z E hl.1 k_L_41 wt_L_low hf (fun r h' e => c_L_low l G h68 h' (a2 >>> (10 &&& 31)) 2 r e) rfl rfl (Nat.le_of_ble_eq_true rfl) (zRm_of rfl (Nat.zero_le _) (Nat.zero_le _)) dL_act_101 (fun v69 h70 H locs hf E => ?_)
    refine lv_imul Z.x Z.b dL_act_104 ?_
    refine lv_iadd Z.x Z.b dL_act_105 ?_
    refine lv_iload_n Z.x Z.b dL_act_106 rfl (lv_at hl 6 rfl) ?_
    refine lv_bipush (v := 12) Z.x Z.b dL_act_107 (by decide) ?_
    refine lv_ishr Z.x Z.b dL_act_109 ?_
    refine lv_iconst (v := 2) Z.x Z.b dL_act_110 (by decide) ?_
    refine z_Si (As := [.int (a2 >>> (12 &&& 31)), .int 2]) Z E hl.1 k_L_41 wt_L_low hf (fun r h' e => c_L_low l G h70 h' (a2 >>> (12 &&& 31)) 2 r e) rfl rfl (Nat.le_of_ble_eq_true rfl) (zRm_of rfl (Nat.zero_le _) (Nat.zero_le _)) dL_act_111 (fun v71 h72 H locs hf E => ?_)
    refine lv_iadd Z.x Z.b dL_act_114 ?_
    refine z_Vi (As := [.int v59, .int (v61 + v63), .int (1 + v65), .int (((1000 * v67) + (100 * v69)) + v71)]) Z E hl.1 k_L_46 v_X7_sailing hf (fun r h' e => c_X7_sailing l G h72 h' a0 v59 (v61 + v63) (1 + v65) (((1000 * v67) + (100 * v69)) + v71) r e) rfl rfl (Nat.le_of_ble_eq_true rfl) (zRm_of rfl (Nat.zero_le _) (Nat.zero_le _)) dL_act_115 (fun v73 h74 H locs hf E => ?_)
    exact z_iret Z E hr dL_act_118 hf
set_option maxHeartbeats 4000000 in
set_option maxRecDepth 20000 in
theorem c_L_act (l : Launch) (G : zG) (h : zHp) (h' : zHp) (a0 : Nat) (a1 : Int32) (a2 : Int32) (r : Int32) (hf : f_L_act a0 a1 a2 h = some (r, h')) : zM0 l yL_act cL_act 8 (some .int) rm_L_act G [.ref a0, .int a1, .int a2] h (zQi G r h') := by
  refine Met.ofW (cc := cL_act) (maxL := 8) (ret := (some .int)) (by decide) rfl ?_
  intro p e s m args below meth c s₁ B hml hv
  obtain ⟨rfl, hW⟩ := hv
  obtain ⟨Z, E, hr⟩ := zEnter (own := RL) B hml rfl hW
  have hl := lv_entry ([.ref a0, .int a1, .int a2]) (n := 8) (Nat.le_of_ble_eq_true rfl)
  rw [lg_entry_eq]
  generalize (lg_sl ([.ref a0, .int a1, .int a2]) ++ List.replicate (8 - (lg_sl ([.ref a0, .int a1, .int a2])).length) Slot.unset).toArray = ls at hl ⊢
  have hl : lv_has ls 8 [(0, .ref a0), (1, .int a1), (2, .int a2)] := hl
  exact t_L_act (out := (r, h')) Z hr hf E hl
theorem dL_cell_0 : decode cL_cell 0 = .ok (.iload_n 1, 1) := by decide +kernel
theorem dL_cell_1 : decode cL_cell 1 = .ok (.aload_n 0, 1) := by decide +kernel
theorem dL_cell_2 : decode cL_cell 2 = .ok (.arraylength, 1) := by decide +kernel
theorem dL_cell_3 : decode cL_cell 3 = .ok (.if_icmp .ge 9, 3) := by decide +kernel
theorem dL_cell_6 : decode cL_cell 6 = .ok (.aload_n 0, 1) := by decide +kernel
theorem dL_cell_7 : decode cL_cell 7 = .ok (.iload_n 1, 1) := by decide +kernel
theorem dL_cell_8 : decode cL_cell 8 = .ok (.iaload, 1) := by decide +kernel
theorem dL_cell_9 : decode cL_cell 9 = .ok (.goto 11, 3) := by decide +kernel
theorem dL_cell_12 : decode cL_cell 12 = .ok (.ldc 7, 2) := by decide +kernel
theorem dL_cell_14 : decode cL_cell 14 = .ok (.iload_n 1, 1) := by decide +kernel
theorem dL_cell_15 : decode cL_cell 15 = .ok (.imul, 1) := by decide +kernel
theorem dL_cell_16 : decode cL_cell 16 = .ok (.sipush 1997, 3) := by decide +kernel
theorem dL_cell_19 : decode cL_cell 19 = .ok (.iadd, 1) := by decide +kernel
theorem dL_cell_20 : decode cL_cell 20 = .ok (.ireturn, 1) := by decide +kernel
set_option maxRecDepth 20000 in
theorem wd_L_7 : Cond.constant RL 7 2751541 ∈ zB := List.mem_filter.mpr ⟨List.mem_of_getElem? (i := 433) (by decide +kernel), by decide +kernel⟩
set_option maxRecDepth 20000 in
theorem wc_L_cell : Cond.code yL_cell cL_cell 2 (some .int) ∈ zB := List.mem_filter.mpr ⟨List.mem_of_getElem? (i := 432) (by decide +kernel), by decide +kernel⟩
def rm_L_cell : Room := { frames := 0, cells := 0, slots := 0, locals := 0 }
set_option maxHeartbeats 4000000 in
set_option maxRecDepth 20000 in
theorem c_L_cell (l : Launch) (G : zG) (h : zHp) (b L : Nat) (xs : Nat → Int32) (a1 : Int32) (h' : zHp) (r : Int32) (hf : f_L_cell L xs a1 h = some (r, h')) : Met l yL_cell (Cond.code yL_cell cL_cell 2 (some .int) :: zB) rm_L_cell (va_Pc [.ref b, .int a1] (fun U => zW G h U ∧ zX b L xs G U)) (zQi G r h') 0 0 (zA G) := by
  refine Met.ofW (cc := cL_cell) (maxL := 2) (ret := (some .int)) (by decide) rfl ?_
  intro p e s m args below meth c s₁ B hml hv
  obtain ⟨rfl, hW, hX1⟩ := hv
  have hX : zX b L xs G s ∧ True := ⟨hX1, trivial⟩
  obtain ⟨Z, E, hr⟩ := zEnter (own := RL) B hml rfl hW
  have hl := lv_entry ([.ref b, .int a1]) (n := 2) (Nat.le_of_ble_eq_true rfl)
  rw [lg_entry_eq]
  generalize (lg_sl ([.ref b, .int a1]) ++ List.replicate (2 - (lg_sl ([.ref b, .int a1])).length) Slot.unset).toArray = ls at hl ⊢
  have hl : lv_has ls 2 [(0, .ref b), (1, .int a1)] := hl
  generalize ho : (r, h') = o at hf
  have hr1 : o.1 = r := by rw [← ho]
  have hh1 : o.2 = h' := by rw [← ho]
  rw [← hr1, ← hh1]
  unfold f_L_cell at hf
  refine lv_iload_n Z.x Z.b dL_cell_0 rfl (lv_at hl 1 rfl) ?_
  refine lv_aload_n Z.x Z.b dL_cell_1 rfl (lv_at hl 0 rfl) ?_
  refine va_slen Z.x Z.b hX.1.1 hX.1.2.1 hX.1.2.2 E.2 dL_cell_2 ?_
  refine lv_icmp_ge (tgt := 12) Z.x Z.b dL_cell_3 (by decide) (fun c => ?_) (fun c => ?_)
  · have hf := zit hf c
    refine lv_ldc (v := 2751541) Z.x Z.b Z.ow (Z.ts _ wd_L_7) dL_cell_12 ?_
    refine lv_iload_n Z.x Z.b dL_cell_14 rfl (lv_at hl 1 rfl) ?_
    refine lv_imul Z.x Z.b dL_cell_15 ?_
    refine lv_sipush (v := 1997) Z.x Z.b dL_cell_16 (by decide) ?_
    refine lv_iadd Z.x Z.b dL_cell_19 ?_
    exact z_iret Z E hr dL_cell_20 hf
  · have hf := zif_ hf c
    refine lv_aload_n Z.x Z.b dL_cell_6 rfl (lv_at hl 0 rfl) ?_
    refine lv_iload_n Z.x Z.b dL_cell_7 rfl (lv_at hl 1 rfl) ?_
    refine z_sld Z E hX.1 dL_cell_8 hf (fun v1 hf => ?_)
    refine lv_goto (tgt := 20) Z.x Z.b dL_cell_9 (by decide) ?_
    exact z_iret Z E hr dL_cell_20 hf
section ZC
variable {p : Program} {l : Launch} {e : Env} {R : Room} {s : State} {m : MethodId} {args : Array Value} {below : List Frame} {meth : Method} {c : Code} {H : Heap} {locs : List Loc} {cells slots : Nat} {Q : State → Prop}
variable {cc : ByteArray} {nL : Nat} {own : String} {G : zG} {h : zHp} {pc idx : Nat} {ls : Array Slot} {rest : List Value} {α : Type} {out : α} {b L : Nat} {xs : Nat → Int32}
/-- a call of cell -/
theorem z_Scell (Z : zF p s m args c meth cc nL own G) (E : zE G s h H locs) (hls : ls.size = nL) (K : zCal own idx yL_cell cL_cell 2 (some .int) 2) (V : Cond.static yL_cell ∈ zB) (hX : zX b L xs G s) {a1 : Int32} {st : List Value} {F : Int32 → zHp → Option α} (hf : zb2 (f_L_cell L xs a1 h) F = some out) (hst : st = .int a1 :: .ref b :: rest) (hrest : (rest.map fun v => v.category).sum ≤ 8) (hR1 : 1 ≤ R.frames) (hR2 : 21 ≤ R.locals) (hR3 : cells ≤ R.cells) (hR4 : slots ≤ R.slots) (hdg : decode cc pc = .ok (.invokestatic idx, 3))
    (kk : ∀ (r : Int32) (h1 : zHp) (H1 : Heap) (locs1 : List Loc), F r h1 = some out → zE G s h1 H1 locs1 → W p l e R s m args below meth c H1 locs1 cells slots Q (F0 m (pc + 3) ls (.int r :: rest))) : W p l e R s m args below meth c H locs cells slots Q (F0 m pc ls st) := by
  obtain ⟨r, h1, ho, hf⟩ := zbind2 hf
  refine z_bi E (va_runS (As := [.ref b, .int a1]) (rest := rest) Z.fix (c_L_cell l G h b L xs a1 h1 r ho) ⟨callB_of 2 Z.ts (zGood K.2.2.1) rfl rfl rfl (Z.ts _ K.2.1) (Z.ts _ K.1) ⟨K.2.2.2.1, K.2.2.2.2.1, K.2.2.2.2.2⟩ ⟨hR1, hR2⟩, Z.ts _ V⟩ ⟨fun a U g mk q => ⟨q.1, q.2.1.calling, q.2.2.calling⟩, fun U hU hW => ⟨rfl, E.at_ Z hU hW, hX.at_ E hU hW⟩⟩ rfl rfl hls hst (lv_room hrest) hdg ⟨hR3, hR4⟩) (fun H1 locs1 E1 => kk r h1 H1 locs1 hf E1)
end ZC

