/-! THE CLAIM OUT OF ONE WALK OF THE LAW'S BODY. Your part is whole_start (and what it stands on); all else here is the same for every law, but numbers. -/
def R_law : String := "FerryCrewsLaw"
def lw_P (b : Addr) (xs : List Int32) (args : Array Value) (s : State) : Prop := args = #[.ref b] ∧ s.IntsAt b xs ∧ xs.length ≤ 260 ∧ (Jvm.Cond.and given_1 narrow_1).before args s = true
def lw_Q (_ : Array Value) (s : State) (o : Outcome) (t : State) : Prop := o = .returned (some (.int 1)) ∧ Framed s o t [] 600000 7302250
def lw_Z (below : List Frame) (a : Array Value) (s : State) : State → Prop := fun t => ∃ o, t.status = .running ∧ Ended t below o ∧ lw_Q a s o t
/-- the law's own end, with 1 on the stack, nothing written that was there before, its room as the claim has it -/
theorem lw_ret {p : Program} {l : Launch} {e : Env} {s : State} {m : MethodId} {below : List Frame} {meth : Method} {c : Code} {b : Nat} (hx : p.tables.exec = Jvm.exec) (hb : c.code = code) (hr : meth.sig.returnType = ret) (hlocks : meth.locks = false) {pc : Nat} {H : Heap} {ls : Array Slot} (hdg : decode code pc = .ok (.ireturn, 1)) : W p l e room_1 s m #[Value.ref b] below meth c H [] 600000 7302250 (lw_Z below #[Value.ref b] s) (F0 m pc ls [.int 1]) := by
  intro T hT X
  obtain ⟨fs, hret, hrun, hended, hW, hframe⟩ := X.leave (v := some (.int 1)) (hlocks := hlocks) (fun h => by rw [hr] at h; cases h)
  have hmeth' : T.vm.method? m = some meth := X.method'
  refine ⟨T.setFrames fs, ?_, .returned (some (.int 1)), hrun, hended, rfl, ⟨_, rfl⟩, hW, hframe⟩
  jvm_step X.here [X.here.top, hx, hb, hdg, hmeth', hr, ret, narrow_b1]
  (try refine ⟨rfl, ?_⟩); (try refine ⟨rfl, ?_⟩)
  first | (intro acts; rw [hret _ acts rfl rfl rfl]) | rw [hret _ _ rfl rfl rfl]
  exact Steps.refl _
/-- what holds at the law's entry: the machine, the code, the tables' words (any of lw_tbl by 'hts w (by decide +kernel)'), the script of L ints xs at the cell b, what the Statement gives of the start (any of its parts by flat_of_before) -/
def lw_At (p : Program) (s : State) (m : MethodId) (meth : Method) (c : Code) (b L : Nat) (xs : Nat → Int32) : Prop :=
  p.tables.exec = Jvm.exec ∧ c.code = code ∧ meth.sig.returnType = ret ∧ c.maxLocals = 10 ∧ s.vm.findClass R_law = some m.cls ∧ (∀ w ∈ lw_tbl, w.before #[Value.ref b] s = true) ∧ va_X b L xs s s.heap ∧ b < s.heap.size ∧ meth.locks = false ∧ (Jvm.Cond.and given_1 narrow_1).before #[Value.ref b] s = true
section ZL
variable {p : Program} {l : Launch} {e : Env} {R : Room} {s : State} {m : MethodId} {args : Array Value} {below : List Frame} {meth : Method} {c : Code} {H : Heap} {locs : List Loc} {cells slots : Nat} {Q : State → Prop}
variable {cc : ByteArray} {nL : Nat} {own : String} {G : zG} {h : zHp} {pc : Nat} {ls : Array Slot} {rest : List Value} {α : Type} {out : α} {b L : Nat} {xs : Nat → Int32}
theorem z_lret (Z : zF p s m #[Value.ref b] c meth code nL own G) (hr : meth.sig.returnType = ret) (hlo : G.2.2 = s.heap.size) (E : zE G s h H locs) (hc : cells ≤ 600000) (hs : slots ≤ 7302250) (hdg : decode code pc = .ok (.ireturn, 1)) : W p l e room_1 s m #[Value.ref b] below meth c H locs cells slots (lw_Z below #[Value.ref b] s) (F0 m pc ls [.int 1]) := by
  refine va_forget (fun q hq => by rw [← hlo]; exact E.2.2.2 q hq) ?_
  refine W.widen (k := 600000) (n := 7302250) hc hs ?_
  exact lw_ret Z.x Z.b hr Z.lk hdg
end ZL
theorem dL_law_0 : decode cL_law 0 = .ok (.new 10, 3) := by decide +kernel
theorem dL_law_3 : decode cL_law 3 = .ok (.dup, 1) := by decide +kernel
theorem dL_law_4 : decode cL_law 4 = .ok (.invokespecial 86, 3) := by decide +kernel
theorem dL_law_7 : decode cL_law 7 = .ok (.astore_n 1, 1) := by decide +kernel
theorem dL_law_8 : decode cL_law 8 = .ok (.iconst 0, 1) := by decide +kernel
theorem dL_law_9 : decode cL_law 9 = .ok (.istore_n 2, 1) := by decide +kernel
theorem dL_law_10 : decode cL_law 10 = .ok (.iload_n 2, 1) := by decide +kernel
theorem dL_law_11 : decode cL_law 11 = .ok (.bipush 26, 2) := by decide +kernel
theorem dL_law_13 : decode cL_law 13 = .ok (.if_icmp .ge 182, 3) := by decide +kernel
theorem dL_law_16 : decode cL_law 16 = .ok (.aload_n 0, 1) := by decide +kernel
theorem dL_law_17 : decode cL_law 17 = .ok (.iconst 2, 1) := by decide +kernel
theorem dL_law_18 : decode cL_law 18 = .ok (.iload_n 2, 1) := by decide +kernel
theorem dL_law_19 : decode cL_law 19 = .ok (.imul, 1) := by decide +kernel
theorem dL_law_20 : decode cL_law 20 = .ok (.invokestatic 87, 3) := by decide +kernel
theorem dL_law_23 : decode cL_law 23 = .ok (.istore_n 3, 1) := by decide +kernel
theorem dL_law_24 : decode cL_law 24 = .ok (.aload_n 0, 1) := by decide +kernel
theorem dL_law_25 : decode cL_law 25 = .ok (.iconst 2, 1) := by decide +kernel
theorem dL_law_26 : decode cL_law 26 = .ok (.iload_n 2, 1) := by decide +kernel
theorem dL_law_27 : decode cL_law 27 = .ok (.imul, 1) := by decide +kernel
theorem dL_law_28 : decode cL_law 28 = .ok (.iconst 1, 1) := by decide +kernel
theorem dL_law_29 : decode cL_law 29 = .ok (.iadd, 1) := by decide +kernel
theorem dL_law_30 : decode cL_law 30 = .ok (.invokestatic 87, 3) := by decide +kernel
theorem dL_law_33 : decode cL_law 33 = .ok (.istore 4, 2) := by decide +kernel
theorem dL_law_35 : decode cL_law 35 = .ok (.aload_n 1, 1) := by decide +kernel
theorem dL_law_36 : decode cL_law 36 = .ok (.invokestatic 91, 3) := by decide +kernel
theorem dL_law_39 : decode cL_law 39 = .ok (.astore 5, 2) := by decide +kernel
theorem dL_law_41 : decode cL_law 41 = .ok (.aload_n 1, 1) := by decide +kernel
theorem dL_law_42 : decode cL_law 42 = .ok (.bipush 11, 2) := by decide +kernel
theorem dL_law_44 : decode cL_law 44 = .ok (.invokevirtual 9, 3) := by decide +kernel
theorem dL_law_47 : decode cL_law 47 = .ok (.istore 6, 2) := by decide +kernel
theorem dL_law_49 : decode cL_law 49 = .ok (.aload_n 1, 1) := by decide +kernel
theorem dL_law_50 : decode cL_law 50 = .ok (.iload_n 3, 1) := by decide +kernel
theorem dL_law_51 : decode cL_law 51 = .ok (.iload 4, 2) := by decide +kernel
theorem dL_law_53 : decode cL_law 53 = .ok (.invokestatic 95, 3) := by decide +kernel
theorem dL_law_56 : decode cL_law 56 = .ok (.istore 7, 2) := by decide +kernel
theorem dL_law_58 : decode cL_law 58 = .ok (.aload_n 1, 1) := by decide +kernel
theorem dL_law_59 : decode cL_law 59 = .ok (.invokestatic 91, 3) := by decide +kernel
theorem dL_law_62 : decode cL_law 62 = .ok (.astore 8, 2) := by decide +kernel
theorem dL_law_64 : decode cL_law 64 = .ok (.iload 7, 2) := by decide +kernel
theorem dL_law_66 : decode cL_law 66 = .ok (.ifCond .ge 26, 3) := by decide +kernel
theorem dL_law_69 : decode cL_law 69 = .ok (.aload 5, 2) := by decide +kernel
theorem dL_law_71 : decode cL_law 71 = .ok (.aload 8, 2) := by decide +kernel
theorem dL_law_73 : decode cL_law 73 = .ok (.invokestatic 99, 3) := by decide +kernel
theorem dL_law_76 : decode cL_law 76 = .ok (.ifCond .eq 14, 3) := by decide +kernel
theorem dL_law_79 : decode cL_law 79 = .ok (.aload_n 1, 1) := by decide +kernel
theorem dL_law_80 : decode cL_law 80 = .ok (.bipush 11, 2) := by decide +kernel
theorem dL_law_82 : decode cL_law 82 = .ok (.invokevirtual 9, 3) := by decide +kernel
theorem dL_law_85 : decode cL_law 85 = .ok (.iload 6, 2) := by decide +kernel
theorem dL_law_87 : decode cL_law 87 = .ok (.if_icmp .eq 5, 3) := by decide +kernel
theorem dL_law_90 : decode cL_law 90 = .ok (.iconst 0, 1) := by decide +kernel
theorem dL_law_91 : decode cL_law 91 = .ok (.ireturn, 1) := by decide +kernel
theorem dL_law_92 : decode cL_law 92 = .ok (.iload 7, 2) := by decide +kernel
theorem dL_law_94 : decode cL_law 94 = .ok (.ifCond .lt 72, 3) := by decide +kernel
theorem dL_law_97 : decode cL_law 97 = .ok (.iload_n 3, 1) := by decide +kernel
theorem dL_law_98 : decode cL_law 98 = .ok (.iconst 4, 1) := by decide +kernel
theorem dL_law_99 : decode cL_law 99 = .ok (.invokestatic 41, 3) := by decide +kernel
theorem dL_law_102 : decode cL_law 102 = .ok (.ifCond .ne 64, 3) := by decide +kernel
theorem dL_law_105 : decode cL_law 105 = .ok (.aload_n 1, 1) := by decide +kernel
theorem dL_law_106 : decode cL_law 106 = .ok (.invokevirtual 103, 3) := by decide +kernel
theorem dL_law_109 : decode cL_law 109 = .ok (.istore 9, 2) := by decide +kernel
theorem dL_law_111 : decode cL_law 111 = .ok (.aload_n 1, 1) := by decide +kernel
theorem dL_law_112 : decode cL_law 112 = .ok (.invokestatic 91, 3) := by decide +kernel
theorem dL_law_115 : decode cL_law 115 = .ok (.aload 5, 2) := by decide +kernel
theorem dL_law_117 : decode cL_law 117 = .ok (.invokestatic 99, 3) := by decide +kernel
theorem dL_law_120 : decode cL_law 120 = .ok (.ifCond .eq 44, 3) := by decide +kernel
theorem dL_law_123 : decode cL_law 123 = .ok (.iload 9, 2) := by decide +kernel
theorem dL_law_125 : decode cL_law 125 = .ok (.iload 6, 2) := by decide +kernel
theorem dL_law_127 : decode cL_law 127 = .ok (.iconst 4, 1) := by decide +kernel
theorem dL_law_128 : decode cL_law 128 = .ok (.if_icmp .ne 7, 3) := by decide +kernel
theorem dL_law_131 : decode cL_law 131 = .ok (.iconst 3, 1) := by decide +kernel
theorem dL_law_132 : decode cL_law 132 = .ok (.goto 5, 3) := by decide +kernel
theorem dL_law_135 : decode cL_law 135 = .ok (.iload 6, 2) := by decide +kernel
theorem dL_law_137 : decode cL_law 137 = .ok (.if_icmp .ne 27, 3) := by decide +kernel
theorem dL_law_140 : decode cL_law 140 = .ok (.aload_n 1, 1) := by decide +kernel
theorem dL_law_141 : decode cL_law 141 = .ok (.iload_n 3, 1) := by decide +kernel
theorem dL_law_142 : decode cL_law 142 = .ok (.iload 4, 2) := by decide +kernel
theorem dL_law_144 : decode cL_law 144 = .ok (.invokestatic 95, 3) := by decide +kernel
theorem dL_law_147 : decode cL_law 147 = .ok (.iload 7, 2) := by decide +kernel
theorem dL_law_149 : decode cL_law 149 = .ok (.if_icmp .ne 15, 3) := by decide +kernel
theorem dL_law_152 : decode cL_law 152 = .ok (.aload_n 1, 1) := by decide +kernel
theorem dL_law_153 : decode cL_law 153 = .ok (.invokestatic 91, 3) := by decide +kernel
theorem dL_law_156 : decode cL_law 156 = .ok (.aload 8, 2) := by decide +kernel
theorem dL_law_158 : decode cL_law 158 = .ok (.invokestatic 99, 3) := by decide +kernel
theorem dL_law_161 : decode cL_law 161 = .ok (.ifCond .ne 5, 3) := by decide +kernel
theorem dL_law_164 : decode cL_law 164 = .ok (.iconst 0, 1) := by decide +kernel
theorem dL_law_165 : decode cL_law 165 = .ok (.ireturn, 1) := by decide +kernel
theorem dL_law_166 : decode cL_law 166 = .ok (.iload_n 2, 1) := by decide +kernel
theorem dL_law_167 : decode cL_law 167 = .ok (.iconst 2, 1) := by decide +kernel
theorem dL_law_168 : decode cL_law 168 = .ok (.irem, 1) := by decide +kernel
theorem dL_law_169 : decode cL_law 169 = .ok (.iconst 1, 1) := by decide +kernel
theorem dL_law_170 : decode cL_law 170 = .ok (.if_icmp .ne 19, 3) := by decide +kernel
theorem dL_law_173 : decode cL_law 173 = .ok (.aload_n 1, 1) := by decide +kernel
theorem dL_law_174 : decode cL_law 174 = .ok (.invokestatic 107, 3) := by decide +kernel
theorem dL_law_177 : decode cL_law 177 = .ok (.ifCond .eq 10, 3) := by decide +kernel
theorem dL_law_180 : decode cL_law 180 = .ok (.aload_n 1, 1) := by decide +kernel
theorem dL_law_181 : decode cL_law 181 = .ok (.invokestatic 111, 3) := by decide +kernel
theorem dL_law_184 : decode cL_law 184 = .ok (.ifCond .ne 5, 3) := by decide +kernel
theorem dL_law_187 : decode cL_law 187 = .ok (.iconst 0, 1) := by decide +kernel
theorem dL_law_188 : decode cL_law 188 = .ok (.ireturn, 1) := by decide +kernel
theorem dL_law_189 : decode cL_law 189 = .ok (.iinc 2 1, 3) := by decide +kernel
theorem dL_law_192 : decode cL_law 192 = .ok (.goto (-182), 3) := by decide +kernel
theorem dL_law_195 : decode cL_law 195 = .ok (.aload_n 1, 1) := by decide +kernel
theorem dL_law_196 : decode cL_law 196 = .ok (.iconst (-1), 1) := by decide +kernel
theorem dL_law_197 : decode cL_law 197 = .ok (.iconst 0, 1) := by decide +kernel
theorem dL_law_198 : decode cL_law 198 = .ok (.iconst 0, 1) := by decide +kernel
theorem dL_law_199 : decode cL_law 199 = .ok (.invokevirtual 29, 3) := by decide +kernel
theorem dL_law_202 : decode cL_law 202 = .ok (.iconst (-1), 1) := by decide +kernel
theorem dL_law_203 : decode cL_law 203 = .ok (.if_icmp .ne 30, 3) := by decide +kernel
theorem dL_law_206 : decode cL_law 206 = .ok (.aload_n 1, 1) := by decide +kernel
theorem dL_law_207 : decode cL_law 207 = .ok (.bipush 12, 2) := by decide +kernel
theorem dL_law_209 : decode cL_law 209 = .ok (.iconst 0, 1) := by decide +kernel
theorem dL_law_210 : decode cL_law 210 = .ok (.iconst 1, 1) := by decide +kernel
theorem dL_law_211 : decode cL_law 211 = .ok (.invokevirtual 32, 3) := by decide +kernel
theorem dL_law_214 : decode cL_law 214 = .ok (.iconst (-1), 1) := by decide +kernel
theorem dL_law_215 : decode cL_law 215 = .ok (.if_icmp .ne 18, 3) := by decide +kernel
theorem dL_law_218 : decode cL_law 218 = .ok (.aload_n 1, 1) := by decide +kernel
theorem dL_law_219 : decode cL_law 219 = .ok (.iconst 0, 1) := by decide +kernel
theorem dL_law_220 : decode cL_law 220 = .ok (.iconst (-1), 1) := by decide +kernel
theorem dL_law_221 : decode cL_law 221 = .ok (.invokevirtual 26, 3) := by decide +kernel
theorem dL_law_224 : decode cL_law 224 = .ok (.bipush (-2), 2) := by decide +kernel
theorem dL_law_226 : decode cL_law 226 = .ok (.if_icmp .ne 7, 3) := by decide +kernel
theorem dL_law_229 : decode cL_law 229 = .ok (.iconst 1, 1) := by decide +kernel
theorem dL_law_230 : decode cL_law 230 = .ok (.goto 4, 3) := by decide +kernel
theorem dL_law_233 : decode cL_law 233 = .ok (.iconst 0, 1) := by decide +kernel
theorem dL_law_234 : decode cL_law 234 = .ok (.ireturn, 1) := by decide +kernel
set_option maxRecDepth 20000 in
theorem wk_L_10 : Cond.classLink RL 10 RX7 ∈ zB := List.mem_filter.mpr ⟨List.mem_of_getElem? (i := 17) (by decide +kernel), by decide +kernel⟩
set_option maxRecDepth 20000 in
theorem wa_X7 : Cond.instantiable RX7 6 ∈ zB := List.mem_filter.mpr ⟨List.mem_of_getElem? (i := 18) (by decide +kernel), by decide +kernel⟩
set_option maxRecDepth 20000 in
theorem wc_X7_init : Cond.code yX7_init cX7_init 2 none ∈ zB := List.mem_filter.mpr ⟨List.mem_of_getElem? (i := 21) (by decide +kernel), by decide +kernel⟩
set_option maxRecDepth 20000 in
theorem wm_L_86 : Cond.methodLink RL 86 yX7_init ∈ zB := List.mem_filter.mpr ⟨List.mem_of_getElem? (i := 19) (by decide +kernel), by decide +kernel⟩
theorem k_L_86 : zCal RL 86 yX7_init cX7_init 2 none 0 := ⟨wm_L_86, wi_X7, wc_X7_init, by decide +kernel, by decide +kernel, by decide +kernel⟩
set_option maxRecDepth 20000 in
theorem wn_X7_init : Cond.instanceMethod yX7_init ∈ zB := List.mem_filter.mpr ⟨List.mem_of_getElem? (i := 20) (by decide +kernel), by decide +kernel⟩
set_option maxRecDepth 20000 in
theorem wm_L_87 : Cond.methodLink RL 87 yL_cell ∈ zB := List.mem_filter.mpr ⟨List.mem_of_getElem? (i := 430) (by decide +kernel), by decide +kernel⟩
theorem k_L_87 : zCal RL 87 yL_cell cL_cell 2 (some .int) 2 := ⟨wm_L_87, wi_L, wc_L_cell, by decide +kernel, by decide +kernel, by decide +kernel⟩
set_option maxRecDepth 20000 in
theorem wt_L_cell : Cond.static yL_cell ∈ zB := List.mem_filter.mpr ⟨List.mem_of_getElem? (i := 431) (by decide +kernel), by decide +kernel⟩
set_option maxRecDepth 20000 in
theorem wc_L_tell : Cond.code yL_tell cL_tell 3 (some (.array .int)) ∈ zB := List.mem_filter.mpr ⟨List.mem_of_getElem? (i := 440) (by decide +kernel), by decide +kernel⟩
set_option maxRecDepth 20000 in
theorem wm_L_91 : Cond.methodLink RL 91 yL_tell ∈ zB := List.mem_filter.mpr ⟨List.mem_of_getElem? (i := 438) (by decide +kernel), by decide +kernel⟩
theorem k_L_91 : zCal RL 91 yL_tell cL_tell 3 (some (.array .int)) 1 := ⟨wm_L_91, wi_L, wc_L_tell, by decide +kernel, by decide +kernel, by decide +kernel⟩
set_option maxRecDepth 20000 in
theorem wt_L_tell : Cond.static yL_tell ∈ zB := List.mem_filter.mpr ⟨List.mem_of_getElem? (i := 439) (by decide +kernel), by decide +kernel⟩
set_option maxRecDepth 20000 in
theorem wc_L_act : Cond.code yL_act cL_act 8 (some .int) ∈ zB := List.mem_filter.mpr ⟨List.mem_of_getElem? (i := 502) (by decide +kernel), by decide +kernel⟩
set_option maxRecDepth 20000 in
theorem wm_L_95 : Cond.methodLink RL 95 yL_act ∈ zB := List.mem_filter.mpr ⟨List.mem_of_getElem? (i := 500) (by decide +kernel), by decide +kernel⟩
theorem k_L_95 : zCal RL 95 yL_act cL_act 8 (some .int) 3 := ⟨wm_L_95, wi_L, wc_L_act, by decide +kernel, by decide +kernel, by decide +kernel⟩
set_option maxRecDepth 20000 in
theorem wt_L_act : Cond.static yL_act ∈ zB := List.mem_filter.mpr ⟨List.mem_of_getElem? (i := 501) (by decide +kernel), by decide +kernel⟩
set_option maxRecDepth 20000 in
theorem wc_L_same : Cond.code yL_same cL_same 3 (some .boolean) ∈ zB := List.mem_filter.mpr ⟨List.mem_of_getElem? (i := 475) (by decide +kernel), by decide +kernel⟩
set_option maxRecDepth 20000 in
theorem wm_L_99 : Cond.methodLink RL 99 yL_same ∈ zB := List.mem_filter.mpr ⟨List.mem_of_getElem? (i := 473) (by decide +kernel), by decide +kernel⟩
theorem k_L_99 : zCal RL 99 yL_same cL_same 3 (some .boolean) 2 := ⟨wm_L_99, wi_L, wc_L_same, by decide +kernel, by decide +kernel, by decide +kernel⟩
set_option maxRecDepth 20000 in
theorem wt_L_same : Cond.static yL_same ∈ zB := List.mem_filter.mpr ⟨List.mem_of_getElem? (i := 474) (by decide +kernel), by decide +kernel⟩
set_option maxRecDepth 20000 in
theorem wc_X7_undo : Cond.code yX7_undo cX7_undo 1 (some .int) ∈ zB := List.mem_filter.mpr ⟨List.mem_of_getElem? (i := 242) (by decide +kernel), by decide +kernel⟩
set_option maxRecDepth 20000 in
theorem wm_L_103 : Cond.methodLink RL 103 yX7_undo ∈ zB := List.mem_filter.mpr ⟨List.mem_of_getElem? (i := 239) (by decide +kernel), by decide +kernel⟩
theorem k_L_103 : zCal RL 103 yX7_undo cX7_undo 1 (some .int) 0 := ⟨wm_L_103, wi_X7, wc_X7_undo, by decide +kernel, by decide +kernel, by decide +kernel⟩
set_option maxRecDepth 20000 in
theorem wn_X7_undo : Cond.instanceMethod yX7_undo ∈ zB := List.mem_filter.mpr ⟨List.mem_of_getElem? (i := 240) (by decide +kernel), by decide +kernel⟩
set_option maxRecDepth 20000 in
theorem ws_X7_undo : Cond.selects RX7 yX7_undo yX7_undo ∈ zB := List.mem_filter.mpr ⟨List.mem_of_getElem? (i := 241) (by decide +kernel), by decide +kernel⟩
theorem v_X7_undo : zVir yX7_undo 7 := ⟨wn_X7_undo, ws_X7_undo, TX7, 6, rfl⟩
set_option maxRecDepth 20000 in
theorem wc_L_sailings : Cond.code yL_sailings cL_sailings 10 (some .boolean) ∈ zB := List.mem_filter.mpr ⟨List.mem_of_getElem? (i := 478) (by decide +kernel), by decide +kernel⟩
set_option maxRecDepth 20000 in
theorem wm_L_107 : Cond.methodLink RL 107 yL_sailings ∈ zB := List.mem_filter.mpr ⟨List.mem_of_getElem? (i := 476) (by decide +kernel), by decide +kernel⟩
theorem k_L_107 : zCal RL 107 yL_sailings cL_sailings 10 (some .boolean) 1 := ⟨wm_L_107, wi_L, wc_L_sailings, by decide +kernel, by decide +kernel, by decide +kernel⟩
set_option maxRecDepth 20000 in
theorem wt_L_sailings : Cond.static yL_sailings ∈ zB := List.mem_filter.mpr ⟨List.mem_of_getElem? (i := 477) (by decide +kernel), by decide +kernel⟩
set_option maxRecDepth 20000 in
theorem wc_L_members : Cond.code yL_members cL_members 10 (some .boolean) ∈ zB := List.mem_filter.mpr ⟨List.mem_of_getElem? (i := 481) (by decide +kernel), by decide +kernel⟩
set_option maxRecDepth 20000 in
theorem wm_L_111 : Cond.methodLink RL 111 yL_members ∈ zB := List.mem_filter.mpr ⟨List.mem_of_getElem? (i := 479) (by decide +kernel), by decide +kernel⟩
theorem k_L_111 : zCal RL 111 yL_members cL_members 10 (some .boolean) 1 := ⟨wm_L_111, wi_L, wc_L_members, by decide +kernel, by decide +kernel, by decide +kernel⟩
set_option maxRecDepth 20000 in
theorem wt_L_members : Cond.static yL_members ∈ zB := List.mem_filter.mpr ⟨List.mem_of_getElem? (i := 480) (by decide +kernel), by decide +kernel⟩
set_option maxHeartbeats 4000000 in
set_option maxRecDepth 20000 in
theorem t_L_233 {p : Program} {l : Launch} {e : Env} {s : State} {m : MethodId} {below : List Frame} {meth : Method} {c : Code} {G : zG} {b L : Nat} {xs : Nat → Int32} (Z : zF p s m #[Value.ref b] c meth cL_law 10 RL G) (hr : meth.sig.returnType = ret) (hX : zX b L xs G s ∧ G.2.2 = s.heap.size) {o : zHp} {h : zHp} {H : Heap} {locs : List Loc} {ls : Array Slot} {cells slots : Nat} (hf : f_L_233 L xs h = some (1, o)) (E : zE G s h H locs) (hl : lv_has ls 10 [(0, .ref b)]) (hc : cells + 0 ≤ 600000) (hs : slots + 0 ≤ 7302250) : W p l e room_1 s m #[Value.ref b] below meth c H locs cells slots (lw_Z below #[Value.ref b] s) (F0 m 233 ls []) := by
  unfold f_L_233 at hf
  refine lv_iconst (v := 0) Z.x Z.b dL_law_233 (by decide) ?_
  exact absurd (show (0 : Int32) = 1 from congrArg Prod.fst (Option.some.inj hf)) (by decide)
set_option maxHeartbeats 4000000 in
set_option maxRecDepth 20000 in
theorem t_L_189 {p : Program} {l : Launch} {e : Env} {s : State} {m : MethodId} {below : List Frame} {meth : Method} {c : Code} {G : zG} {b L : Nat} {xs : Nat → Int32} (Z : zF p s m #[Value.ref b] c meth cL_law 10 RL G) (hr : meth.sig.returnType = ret) (hX : zX b L xs G s ∧ G.2.2 = s.heap.size) {o : zHp} {n : Nat} {r10 : Nat → Int32 → zHp → Option (Int32 × zHp)} (k10 : ∀ {a1 : Nat} {a2 : Int32} {h : zHp} {H : Heap} {locs : List Loc} {ls : Array Slot} {cells slots : Nat}, r10 a1 a2 h = some (1, o) → zE G s h H locs → lv_has ls 10 [(0, .ref b), (1, .ref a1), (2, .int a2)] → cells + 4 * n ≤ 600000 → slots + 256 * n ≤ 7302250 → W p l e room_1 s m #[Value.ref b] below meth c H locs cells slots (lw_Z below #[Value.ref b] s) (F0 m 10 ls [])) {a1 : Nat} {a2 : Int32} {h : zHp} {H : Heap} {locs : List Loc} {ls : Array Slot} {cells slots : Nat} (hf : f_L_189 L xs r10 a1 a2 h = some (1, o)) (E : zE G s h H locs) (hl : lv_has ls 10 [(0, .ref b), (1, .ref a1), (2, .int a2)]) (hc : cells + 0 + 4 * n ≤ 600000) (hs : slots + 0 + 256 * n ≤ 7302250) : W p l e room_1 s m #[Value.ref b] below meth c H locs cells slots (lw_Z below #[Value.ref b] s) (F0 m 189 ls []) := by
  unfold f_L_189 at hf
  refine lv_iinc (v := (a2 + 1)) (lv' := [(2, .int (a2 + 1)), (0, .ref b), (1, .ref a1)]) Z.x Z.b dL_law_189 hl (k := 2) rfl rfl (by decide) rfl (fun ls hl => ?_)
  refine lv_goto (tgt := 10) Z.x Z.b dL_law_192 (by decide) ?_
  exact k10 hf E (lv_sub hl [1, 2, 0] rfl) (by omega) (by omega)
set_option maxHeartbeats 4000000 in
set_option maxRecDepth 20000 in
theorem t_L_166 {p : Program} {l : Launch} {e : Env} {s : State} {m : MethodId} {below : List Frame} {meth : Method} {c : Code} {G : zG} {b L : Nat} {xs : Nat → Int32} (Z : zF p s m #[Value.ref b] c meth cL_law 10 RL G) (hr : meth.sig.returnType = ret) (hX : zX b L xs G s ∧ G.2.2 = s.heap.size) {o : zHp} {n : Nat} {r10 : Nat → Int32 → zHp → Option (Int32 × zHp)} (k10 : ∀ {a1 : Nat} {a2 : Int32} {h : zHp} {H : Heap} {locs : List Loc} {ls : Array Slot} {cells slots : Nat}, r10 a1 a2 h = some (1, o) → zE G s h H locs → lv_has ls 10 [(0, .ref b), (1, .ref a1), (2, .int a2)] → cells + 4 * n ≤ 600000 → slots + 256 * n ≤ 7302250 → W p l e room_1 s m #[Value.ref b] below meth c H locs cells slots (lw_Z below #[Value.ref b] s) (F0 m 10 ls [])) {a1 : Nat} {a2 : Int32} {h : zHp} {H : Heap} {locs : List Loc} {ls : Array Slot} {cells slots : Nat} (hf : f_L_166 L xs r10 a1 a2 h = some (1, o)) (E : zE G s h H locs) (hl : lv_has ls 10 [(0, .ref b), (1, .ref a1), (2, .int a2)]) (hc : cells + 0 + 4 * n ≤ 600000) (hs : slots + 0 + 256 * n ≤ 7302250) : W p l e room_1 s m #[Value.ref b] below meth c H locs cells slots (lw_Z below #[Value.ref b] s) (F0 m 166 ls []) := by
  unfold f_L_166 at hf
  refine lv_iload_n Z.x Z.b dL_law_166 rfl (lv_at hl 2 rfl) ?_
  refine lv_iconst (v := 2) Z.x Z.b dL_law_167 (by decide) ?_
  refine z_irem Z dL_law_168 hf (fun v1 hf => ?_)
  refine lv_iconst (v := 1) Z.x Z.b dL_law_169 (by decide) ?_
  refine lv_icmp_ne (tgt := 189) Z.x Z.b dL_law_170 (by decide) (fun c => ?_) (fun c => ?_)
  · have hf := zif_ hf c
    exact t_L_189 Z hr hX k10 hf E (lv_sub hl [0, 1, 2] rfl) (by omega) (by omega)
  · have hf := zit hf c
    refine lv_aload_n Z.x Z.b dL_law_173 rfl (lv_at hl 1 rfl) ?_
    refine z_Si (As := [.ref a1]) Z E hl.1 k_L_107 wt_L_sailings hf (fun r h' e => c_L_sailings l G h h' a1 r e) rfl rfl (Nat.le_of_ble_eq_true rfl) (zRm_of rfl (show _ ≤ 600000 by omega) (show _ ≤ 7302250 by omega)) dL_law_174 (fun v2 h3 H locs hf E => ?_)
    refine lv_if_eq (tgt := 187) Z.x Z.b dL_law_177 (by decide) (fun c => ?_) (fun c => ?_)
    · have hf := zit hf c
      refine lv_iconst (v := 0) Z.x Z.b dL_law_187 (by decide) ?_
      exact absurd (show (0 : Int32) = 1 from congrArg Prod.fst (Option.some.inj hf)) (by decide)
    · have hf := zif_ hf c
      refine lv_aload_n Z.x Z.b dL_law_180 rfl (lv_at hl 1 rfl) ?_
      refine z_Si (As := [.ref a1]) Z E hl.1 k_L_111 wt_L_members hf (fun r h' e => c_L_members l G h3 h' a1 r e) rfl rfl (Nat.le_of_ble_eq_true rfl) (zRm_of rfl (show _ ≤ 600000 by omega) (show _ ≤ 7302250 by omega)) dL_law_181 (fun v4 h5 H locs hf E => ?_)
      refine lv_if_ne (tgt := 189) Z.x Z.b dL_law_184 (by decide) (fun c => ?_) (fun c => ?_)
      · have hf := zif_ hf c
        exact t_L_189 Z hr hX k10 hf E (lv_sub hl [0, 1, 2] rfl) (by omega) (by omega)
      · have hf := zit hf c
        refine lv_iconst (v := 0) Z.x Z.b dL_law_187 (by decide) ?_
        exact absurd (show (0 : Int32) = 1 from congrArg Prod.fst (Option.some.inj hf)) (by decide)
set_option maxHeartbeats 4000000 in
set_option maxRecDepth 20000 in
theorem t_L_137 {p : Program} {l : Launch} {e : Env} {s : State} {m : MethodId} {below : List Frame} {meth : Method} {c : Code} {G : zG} {b L : Nat} {xs : Nat → Int32} (Z : zF p s m #[Value.ref b] c meth cL_law 10 RL G) (hr : meth.sig.returnType = ret) (hX : zX b L xs G s ∧ G.2.2 = s.heap.size) {o : zHp} {n : Nat} {r10 : Nat → Int32 → zHp → Option (Int32 × zHp)} (k10 : ∀ {a1 : Nat} {a2 : Int32} {h : zHp} {H : Heap} {locs : List Loc} {ls : Array Slot} {cells slots : Nat}, r10 a1 a2 h = some (1, o) → zE G s h H locs → lv_has ls 10 [(0, .ref b), (1, .ref a1), (2, .int a2)] → cells + 4 * n ≤ 600000 → slots + 256 * n ≤ 7302250 → W p l e room_1 s m #[Value.ref b] below meth c H locs cells slots (lw_Z below #[Value.ref b] s) (F0 m 10 ls [])) {a1 : Nat} {a2 : Int32} {a3 : Int32} {a4 : Int32} {a7 : Int32} {a8 : Nat} {s0 : Int32} {s1 : Int32} {h : zHp} {H : Heap} {locs : List Loc} {ls : Array Slot} {cells slots : Nat} (hf : f_L_137 L xs r10 a1 a2 a3 a4 a7 a8 s0 s1 h = some (1, o)) (E : zE G s h H locs) (hl : lv_has ls 10 [(0, .ref b), (1, .ref a1), (2, .int a2), (3, .int a3), (4, .int a4), (7, .int a7), (8, .ref a8)]) (hc : cells + 1 + 4 * n ≤ 600000) (hs : slots + 64 + 256 * n ≤ 7302250) : W p l e room_1 s m #[Value.ref b] below meth c H locs cells slots (lw_Z below #[Value.ref b] s) (F0 m 137 ls [.int s0, .int s1]) := by
  unfold f_L_137 at hf
  refine lv_icmp_ne (tgt := 164) Z.x Z.b dL_law_137 (by decide) (fun c => ?_) (fun c => ?_)
  · have hf := zif_ hf c
    refine lv_iconst (v := 0) Z.x Z.b dL_law_164 (by decide) ?_
    exact absurd (show (0 : Int32) = 1 from congrArg Prod.fst (Option.some.inj hf)) (by decide)
  · have hf := zit hf c
    refine lv_aload_n Z.x Z.b dL_law_140 rfl (lv_at hl 1 rfl) ?_
    refine lv_iload_n Z.x Z.b dL_law_141 rfl (lv_at hl 3 rfl) ?_
    refine lv_iload Z.x Z.b dL_law_142 (lv_at hl 4 rfl) ?_
    refine z_Si (As := [.ref a1, .int a3, .int a4]) Z E hl.1 k_L_95 wt_L_act hf (fun r h' e => c_L_act l G h h' a1 a3 a4 r e) rfl rfl (Nat.le_of_ble_eq_true rfl) (zRm_of rfl (show _ ≤ 600000 by omega) (show _ ≤ 7302250 by omega)) dL_law_144 (fun v1 h2 H locs hf E => ?_)
    refine lv_iload Z.x Z.b dL_law_147 (lv_at hl 5 rfl) ?_
    refine lv_icmp_ne (tgt := 164) Z.x Z.b dL_law_149 (by decide) (fun c => ?_) (fun c => ?_)
    · have hf := zif_ hf c
      refine lv_iconst (v := 0) Z.x Z.b dL_law_164 (by decide) ?_
      exact absurd (show (0 : Int32) = 1 from congrArg Prod.fst (Option.some.inj hf)) (by decide)
    · have hf := zit hf c
      refine lv_aload_n Z.x Z.b dL_law_152 rfl (lv_at hl 1 rfl) ?_
      refine z_Sq (As := [.ref a1]) (mc := 1) (ms := 64) Z E hl.1 k_L_91 wt_L_tell hf (fun r h' e => c_L_tell l G h2 h' a1 r e) rfl rfl (Nat.le_of_ble_eq_true rfl) ⟨⟨by decide, by decide⟩, ⟨rfl, rfl⟩, (show _ ≤ 600000 by omega), (show _ ≤ 7302250 by omega)⟩ dL_law_153 (fun w3 h4 H locs hf E => ?_)
      obtain ⟨v5, ex, h8_153⟩ := zopt_inv hf
      subst ex
      have hf := h8_153
      refine lv_aload Z.x Z.b dL_law_156 (lv_at hl 6 rfl) ?_
      refine z_Si (As := [.ref v5, .ref a8]) Z E hl.1 k_L_99 wt_L_same hf (fun r h' e => c_L_same l G h4 h' v5 a8 r e) rfl rfl (Nat.le_of_ble_eq_true rfl) (zRm_of rfl (show _ ≤ 600000 by omega) (show _ ≤ 7302250 by omega)) dL_law_158 (fun v6 h7 H locs hf E => ?_)
      refine lv_if_ne (tgt := 166) Z.x Z.b dL_law_161 (by decide) (fun c => ?_) (fun c => ?_)
      · have hf := zif_ hf c
        exact t_L_166 Z hr hX k10 hf E (lv_sub hl [0, 1, 2] rfl) (by omega) (by omega)
      · have hf := zit hf c
        refine lv_iconst (v := 0) Z.x Z.b dL_law_164 (by decide) ?_
        exact absurd (show (0 : Int32) = 1 from congrArg Prod.fst (Option.some.inj hf)) (by decide)
set_option maxHeartbeats 4000000 in
set_option maxRecDepth 20000 in
theorem t_L_92 {p : Program} {l : Launch} {e : Env} {s : State} {m : MethodId} {below : List Frame} {meth : Method} {c : Code} {G : zG} {b L : Nat} {xs : Nat → Int32} (Z : zF p s m #[Value.ref b] c meth cL_law 10 RL G) (hr : meth.sig.returnType = ret) (hX : zX b L xs G s ∧ G.2.2 = s.heap.size) {o : zHp} {n : Nat} {r10 : Nat → Int32 → zHp → Option (Int32 × zHp)} (k10 : ∀ {a1 : Nat} {a2 : Int32} {h : zHp} {H : Heap} {locs : List Loc} {ls : Array Slot} {cells slots : Nat}, r10 a1 a2 h = some (1, o) → zE G s h H locs → lv_has ls 10 [(0, .ref b), (1, .ref a1), (2, .int a2)] → cells + 4 * n ≤ 600000 → slots + 256 * n ≤ 7302250 → W p l e room_1 s m #[Value.ref b] below meth c H locs cells slots (lw_Z below #[Value.ref b] s) (F0 m 10 ls [])) {a1 : Nat} {a2 : Int32} {a3 : Int32} {a4 : Int32} {a5 : Nat} {a6 : Int32} {a7 : Int32} {a8 : Nat} {h : zHp} {H : Heap} {locs : List Loc} {ls : Array Slot} {cells slots : Nat} (hf : f_L_92 L xs r10 a1 a2 a3 a4 a5 a6 a7 a8 h = some (1, o)) (E : zE G s h H locs) (hl : lv_has ls 10 [(0, .ref b), (1, .ref a1), (2, .int a2), (3, .int a3), (4, .int a4), (5, .ref a5), (6, .int a6), (7, .int a7), (8, .ref a8)]) (hc : cells + 2 + 4 * n ≤ 600000) (hs : slots + 128 + 256 * n ≤ 7302250) : W p l e room_1 s m #[Value.ref b] below meth c H locs cells slots (lw_Z below #[Value.ref b] s) (F0 m 92 ls []) := by
  unfold f_L_92 at hf
  refine lv_iload Z.x Z.b dL_law_92 (lv_at hl 7 rfl) ?_
  refine lv_if_lt (tgt := 166) Z.x Z.b dL_law_94 (by decide) (fun c => ?_) (fun c => ?_)
  · have hf := zit hf c
    exact t_L_166 Z hr hX k10 hf E (lv_sub hl [0, 1, 2] rfl) (by omega) (by omega)
  · have hf := zif_ hf c
    refine lv_iload_n Z.x Z.b dL_law_97 rfl (lv_at hl 3 rfl) ?_
    refine lv_iconst (v := 4) Z.x Z.b dL_law_98 (by decide) ?_
    refine z_Si (As := [.int a3, .int 4]) Z E hl.1 k_L_41 wt_L_low hf (fun r h' e => c_L_low l G h h' a3 4 r e) rfl rfl (Nat.le_of_ble_eq_true rfl) (zRm_of rfl (show _ ≤ 600000 by omega) (show _ ≤ 7302250 by omega)) dL_law_99 (fun v1 h2 H locs hf E => ?_)
    refine lv_if_ne (tgt := 166) Z.x Z.b dL_law_102 (by decide) (fun c => ?_) (fun c => ?_)
    · have hf := zif_ hf c
      exact t_L_166 Z hr hX k10 hf E (lv_sub hl [0, 1, 2] rfl) (by omega) (by omega)
    · have hf := zit hf c
      refine lv_aload_n Z.x Z.b dL_law_105 rfl (lv_at hl 1 rfl) ?_
      refine z_Vi (As := []) Z E hl.1 k_L_103 v_X7_undo hf (fun r h' e => c_X7_undo l G h2 h' a1 r e) rfl rfl (Nat.le_of_ble_eq_true rfl) (zRm_of rfl (show _ ≤ 600000 by omega) (show _ ≤ 7302250 by omega)) dL_law_106 (fun v3 h4 H locs hf E => ?_)
      refine lv_istore (lv' := [(9, .int v3), (0, .ref b), (1, .ref a1), (2, .int a2), (3, .int a3), (4, .int a4), (5, .ref a5), (6, .int a6), (7, .int a7), (8, .ref a8)]) Z.x Z.b dL_law_109 hl (by decide) rfl (fun ls hl => ?_)
      refine lv_aload_n Z.x Z.b dL_law_111 rfl (lv_at hl 2 rfl) ?_
      refine z_Sq (As := [.ref a1]) (mc := 1) (ms := 64) Z E hl.1 k_L_91 wt_L_tell hf (fun r h' e => c_L_tell l G h4 h' a1 r e) rfl rfl (Nat.le_of_ble_eq_true rfl) ⟨⟨by decide, by decide⟩, ⟨rfl, rfl⟩, (show _ ≤ 600000 by omega), (show _ ≤ 7302250 by omega)⟩ dL_law_112 (fun w5 h6 H locs hf E => ?_)
      obtain ⟨v7, ex, h8_112⟩ := zopt_inv hf
      subst ex
      have hf := h8_112
      refine lv_aload Z.x Z.b dL_law_115 (lv_at hl 6 rfl) ?_
      refine z_Si (As := [.ref v7, .ref a5]) Z E hl.1 k_L_99 wt_L_same hf (fun r h' e => c_L_same l G h6 h' v7 a5 r e) rfl rfl (Nat.le_of_ble_eq_true rfl) (zRm_of rfl (show _ ≤ 600000 by omega) (show _ ≤ 7302250 by omega)) dL_law_117 (fun v8 h9 H locs hf E => ?_)
      refine lv_if_eq (tgt := 164) Z.x Z.b dL_law_120 (by decide) (fun c => ?_) (fun c => ?_)
      · have hf := zit hf c
        refine lv_iconst (v := 0) Z.x Z.b dL_law_164 (by decide) ?_
        exact absurd (show (0 : Int32) = 1 from congrArg Prod.fst (Option.some.inj hf)) (by decide)
      · have hf := zif_ hf c
        refine lv_iload Z.x Z.b dL_law_123 (lv_at hl 0 rfl) ?_
        refine lv_iload Z.x Z.b dL_law_125 (lv_at hl 7 rfl) ?_
        refine lv_iconst (v := 4) Z.x Z.b dL_law_127 (by decide) ?_
        refine lv_icmp_ne (tgt := 135) Z.x Z.b dL_law_128 (by decide) (fun c => ?_) (fun c => ?_)
        · have hf := zif_ hf c
          refine lv_iload Z.x Z.b dL_law_135 (lv_at hl 7 rfl) ?_
          exact t_L_137 Z hr hX k10 hf E (lv_sub hl [1, 2, 3, 4, 5, 8, 9] rfl) (by omega) (by omega)
        · have hf := zit hf c
          refine lv_iconst (v := 3) Z.x Z.b dL_law_131 (by decide) ?_
          refine lv_goto (tgt := 137) Z.x Z.b dL_law_132 (by decide) ?_
          exact t_L_137 Z hr hX k10 hf E (lv_sub hl [1, 2, 3, 4, 5, 8, 9] rfl) (by omega) (by omega)
set_option maxHeartbeats 4000000 in
set_option maxRecDepth 20000 in
theorem t_L_10_body {p : Program} {l : Launch} {e : Env} {s : State} {m : MethodId} {below : List Frame} {meth : Method} {c : Code} {G : zG} {b L : Nat} {xs : Nat → Int32} (Z : zF p s m #[Value.ref b] c meth cL_law 10 RL G) (hr : meth.sig.returnType = ret) (hX : zX b L xs G s ∧ G.2.2 = s.heap.size) {o : zHp} {n : Nat} {r10 : Nat → Int32 → zHp → Option (Int32 × zHp)} (k10 : ∀ {a1 : Nat} {a2 : Int32} {h : zHp} {H : Heap} {locs : List Loc} {ls : Array Slot} {cells slots : Nat}, r10 a1 a2 h = some (1, o) → zE G s h H locs → lv_has ls 10 [(0, .ref b), (1, .ref a1), (2, .int a2)] → cells + 4 * n ≤ 600000 → slots + 256 * n ≤ 7302250 → W p l e room_1 s m #[Value.ref b] below meth c H locs cells slots (lw_Z below #[Value.ref b] s) (F0 m 10 ls [])) {a1 : Nat} {a2 : Int32} {h : zHp} {H : Heap} {locs : List Loc} {ls : Array Slot} {cells slots : Nat} (hf : f_L_10_body L xs r10 a1 a2 h = some (1, o)) (E : zE G s h H locs) (hl : lv_has ls 10 [(0, .ref b), (1, .ref a1), (2, .int a2)]) (hc : cells + 4 * (n + 1) ≤ 600000) (hs : slots + 256 * (n + 1) ≤ 7302250) : W p l e room_1 s m #[Value.ref b] below meth c H locs cells slots (lw_Z below #[Value.ref b] s) (F0 m 10 ls []) := by
  unfold f_L_10_body at hf
  refine lv_iload_n Z.x Z.b dL_law_10 rfl (lv_at hl 2 rfl) ?_
  refine lv_bipush (v := 26) Z.x Z.b dL_law_11 (by decide) ?_
  refine lv_icmp_ge (tgt := 195) Z.x Z.b dL_law_13 (by decide) (fun c => ?_) (fun c => ?_)
  · have hf := zit hf c
    refine lv_aload_n Z.x Z.b dL_law_195 rfl (lv_at hl 1 rfl) ?_
    refine lv_iconst (v := (-1)) Z.x Z.b dL_law_196 (by decide) ?_
    refine lv_iconst (v := 0) Z.x Z.b dL_law_197 (by decide) ?_
    refine lv_iconst (v := 0) Z.x Z.b dL_law_198 (by decide) ?_
    refine z_Vi (As := [.int (-1), .int 0, .int 0]) Z E hl.1 k_L_29 v_X7_why hf (fun r h' e => c_X7_why l G h h' a1 (-1) 0 0 r e) rfl rfl (Nat.le_of_ble_eq_true rfl) (zRm_of rfl (show _ ≤ 600000 by omega) (show _ ≤ 7302250 by omega)) dL_law_199 (fun v1 h2 H locs hf E => ?_)
    refine lv_iconst (v := (-1)) Z.x Z.b dL_law_202 (by decide) ?_
    refine lv_icmp_ne (tgt := 233) Z.x Z.b dL_law_203 (by decide) (fun c => ?_) (fun c => ?_)
    · have hf := zif_ hf c
      exact t_L_233 Z hr hX hf E (lv_sub hl [0] rfl) (by omega) (by omega)
    · have hf := zit hf c
      refine lv_aload_n Z.x Z.b dL_law_206 rfl (lv_at hl 1 rfl) ?_
      refine lv_bipush (v := 12) Z.x Z.b dL_law_207 (by decide) ?_
      refine lv_iconst (v := 0) Z.x Z.b dL_law_209 (by decide) ?_
      refine lv_iconst (v := 1) Z.x Z.b dL_law_210 (by decide) ?_
      refine z_Vi (As := [.int 12, .int 0, .int 1]) Z E hl.1 k_L_32 v_X7_rest hf (fun r h' e => c_X7_rest l G h2 h' a1 12 0 1 r e) rfl rfl (Nat.le_of_ble_eq_true rfl) (zRm_of rfl (show _ ≤ 600000 by omega) (show _ ≤ 7302250 by omega)) dL_law_211 (fun v3 h4 H locs hf E => ?_)
      refine lv_iconst (v := (-1)) Z.x Z.b dL_law_214 (by decide) ?_
      refine lv_icmp_ne (tgt := 233) Z.x Z.b dL_law_215 (by decide) (fun c => ?_) (fun c => ?_)
      · have hf := zif_ hf c
        exact t_L_233 Z hr hX hf E (lv_sub hl [0] rfl) (by omega) (by omega)
      · have hf := zit hf c
        refine lv_aload_n Z.x Z.b dL_law_218 rfl (lv_at hl 1 rfl) ?_
        refine lv_iconst (v := 0) Z.x Z.b dL_law_219 (by decide) ?_
        refine lv_iconst (v := (-1)) Z.x Z.b dL_law_220 (by decide) ?_
        refine z_Vi (As := [.int 0, .int (-1)]) Z E hl.1 k_L_26 v_X7_ladder hf (fun r h' e => c_X7_ladder l G h4 h' a1 0 (-1) r e) rfl rfl (Nat.le_of_ble_eq_true rfl) (zRm_of rfl (show _ ≤ 600000 by omega) (show _ ≤ 7302250 by omega)) dL_law_221 (fun v5 h6 H locs hf E => ?_)
        refine lv_bipush (v := (-2)) Z.x Z.b dL_law_224 (by decide) ?_
        refine lv_icmp_ne (tgt := 233) Z.x Z.b dL_law_226 (by decide) (fun c => ?_) (fun c => ?_)
        · have hf := zif_ hf c
          exact t_L_233 Z hr hX hf E (lv_sub hl [0] rfl) (by omega) (by omega)
        · have hf := zit hf c
          refine lv_iconst (v := 1) Z.x Z.b dL_law_229 (by decide) ?_
          refine lv_goto (tgt := 234) Z.x Z.b dL_law_230 (by decide) ?_
          exact z_lret Z hr hX.2 E (by omega) (by omega) dL_law_234
  · have hf := zif_ hf c
    refine lv_aload_n Z.x Z.b dL_law_16 rfl (lv_at hl 0 rfl) ?_
    refine lv_iconst (v := 2) Z.x Z.b dL_law_17 (by decide) ?_
    refine lv_iload_n Z.x Z.b dL_law_18 rfl (lv_at hl 2 rfl) ?_
    refine lv_imul Z.x Z.b dL_law_19 ?_
    refine z_Scell Z E hl.1 k_L_87 wt_L_cell hX.1 hf rfl (Nat.le_of_ble_eq_true rfl) (by decide) (by decide) (show _ ≤ 600000 by omega) (show _ ≤ 7302250 by omega) dL_law_20 (fun v7 h8 H locs hf E => ?_)
    refine lv_istore_n (lv' := [(3, .int v7), (0, .ref b), (1, .ref a1), (2, .int a2)]) Z.x Z.b dL_law_23 rfl hl (by decide) rfl (fun ls hl => ?_)
    refine lv_aload_n Z.x Z.b dL_law_24 rfl (lv_at hl 1 rfl) ?_
    refine lv_iconst (v := 2) Z.x Z.b dL_law_25 (by decide) ?_
    refine lv_iload_n Z.x Z.b dL_law_26 rfl (lv_at hl 3 rfl) ?_
    refine lv_imul Z.x Z.b dL_law_27 ?_
    refine lv_iconst (v := 1) Z.x Z.b dL_law_28 (by decide) ?_
    refine lv_iadd Z.x Z.b dL_law_29 ?_
    refine z_Scell Z E hl.1 k_L_87 wt_L_cell hX.1 hf rfl (Nat.le_of_ble_eq_true rfl) (by decide) (by decide) (show _ ≤ 600000 by omega) (show _ ≤ 7302250 by omega) dL_law_30 (fun v9 h10 H locs hf E => ?_)
    refine lv_istore (lv' := [(4, .int v9), (3, .int v7), (0, .ref b), (1, .ref a1), (2, .int a2)]) Z.x Z.b dL_law_33 hl (by decide) rfl (fun ls hl => ?_)
    refine lv_aload_n Z.x Z.b dL_law_35 rfl (lv_at hl 3 rfl) ?_
    refine z_Sq (As := [.ref a1]) (mc := 1) (ms := 64) Z E hl.1 k_L_91 wt_L_tell hf (fun r h' e => c_L_tell l G h10 h' a1 r e) rfl rfl (Nat.le_of_ble_eq_true rfl) ⟨⟨by decide, by decide⟩, ⟨rfl, rfl⟩, (show _ ≤ 600000 by omega), (show _ ≤ 7302250 by omega)⟩ dL_law_36 (fun w11 h12 H locs hf E => ?_)
    obtain ⟨v13, ex, h8_36⟩ := zopt_inv hf
    subst ex
    have hf := h8_36
    refine lv_astore (lv' := [(5, .ref v13), (4, .int v9), (3, .int v7), (0, .ref b), (1, .ref a1), (2, .int a2)]) Z.x Z.b dL_law_39 hl (by decide) rfl (fun ls hl => ?_)
    refine lv_aload_n Z.x Z.b dL_law_41 rfl (lv_at hl 4 rfl) ?_
    refine lv_bipush (v := 11) Z.x Z.b dL_law_42 (by decide) ?_
    refine z_Vi (As := [.int 11]) Z E hl.1 k_L_9 v_X7_count hf (fun r h' e => c_X7_count l G h12 h' a1 11 r e) rfl rfl (Nat.le_of_ble_eq_true rfl) (zRm_of rfl (show _ ≤ 600000 by omega) (show _ ≤ 7302250 by omega)) dL_law_44 (fun v14 h15 H locs hf E => ?_)
    refine lv_istore (lv' := [(6, .int v14), (5, .ref v13), (4, .int v9), (3, .int v7), (0, .ref b), (1, .ref a1), (2, .int a2)]) Z.x Z.b dL_law_47 hl (by decide) rfl (fun ls hl => ?_)
    refine lv_aload_n Z.x Z.b dL_law_49 rfl (lv_at hl 5 rfl) ?_
    refine lv_iload_n Z.x Z.b dL_law_50 rfl (lv_at hl 3 rfl) ?_
    refine lv_iload Z.x Z.b dL_law_51 (lv_at hl 2 rfl) ?_
    refine z_Si (As := [.ref a1, .int v7, .int v9]) Z E hl.1 k_L_95 wt_L_act hf (fun r h' e => c_L_act l G h15 h' a1 v7 v9 r e) rfl rfl (Nat.le_of_ble_eq_true rfl) (zRm_of rfl (show _ ≤ 600000 by omega) (show _ ≤ 7302250 by omega)) dL_law_53 (fun v16 h17 H locs hf E => ?_)
    refine lv_istore (lv' := [(7, .int v16), (6, .int v14), (5, .ref v13), (4, .int v9), (3, .int v7), (0, .ref b), (1, .ref a1), (2, .int a2)]) Z.x Z.b dL_law_56 hl (by decide) rfl (fun ls hl => ?_)
    refine lv_aload_n Z.x Z.b dL_law_58 rfl (lv_at hl 6 rfl) ?_
    refine z_Sq (As := [.ref a1]) (mc := 1) (ms := 64) Z E hl.1 k_L_91 wt_L_tell hf (fun r h' e => c_L_tell l G h17 h' a1 r e) rfl rfl (Nat.le_of_ble_eq_true rfl) ⟨⟨by decide, by decide⟩, ⟨rfl, rfl⟩, (show _ ≤ 600000 by omega), (show _ ≤ 7302250 by omega)⟩ dL_law_59 (fun w18 h19 H locs hf E => ?_)
    obtain ⟨v20, ex, h8_59⟩ := zopt_inv hf
    subst ex
    have hf := h8_59
    refine lv_astore (lv' := [(8, .ref v20), (7, .int v16), (6, .int v14), (5, .ref v13), (4, .int v9), (3, .int v7), (0, .ref b), (1, .ref a1), (2, .int a2)]) Z.x Z.b dL_law_62 hl (by decide) rfl (fun ls hl => ?_)
    refine lv_iload Z.x Z.b dL_law_64 (lv_at hl 1 rfl) ?_
    refine lv_if_ge (tgt := 92) Z.x Z.b dL_law_66 (by decide) (fun c => ?_) (fun c => ?_)
    · have hf := zit hf c
      exact t_L_92 Z hr hX k10 hf E (lv_sub hl [6, 7, 8, 5, 4, 3, 2, 1, 0] rfl) (by omega) (by omega)
    · have hf := zif_ hf c
      refine lv_aload Z.x Z.b dL_law_69 (lv_at hl 3 rfl) ?_
      refine lv_aload Z.x Z.b dL_law_71 (lv_at hl 0 rfl) ?_
      refine z_Si (As := [.ref v13, .ref v20]) Z E hl.1 k_L_99 wt_L_same hf (fun r h' e => c_L_same l G h19 h' v13 v20 r e) rfl rfl (Nat.le_of_ble_eq_true rfl) (zRm_of rfl (show _ ≤ 600000 by omega) (show _ ≤ 7302250 by omega)) dL_law_73 (fun v21 h22 H locs hf E => ?_)
      refine lv_if_eq (tgt := 90) Z.x Z.b dL_law_76 (by decide) (fun c => ?_) (fun c => ?_)
      · have hf := zit hf c
        refine lv_iconst (v := 0) Z.x Z.b dL_law_90 (by decide) ?_
        exact absurd (show (0 : Int32) = 1 from congrArg Prod.fst (Option.some.inj hf)) (by decide)
      · have hf := zif_ hf c
        refine lv_aload_n Z.x Z.b dL_law_79 rfl (lv_at hl 7 rfl) ?_
        refine lv_bipush (v := 11) Z.x Z.b dL_law_80 (by decide) ?_
        refine z_Vi (As := [.int 11]) Z E hl.1 k_L_9 v_X7_count hf (fun r h' e => c_X7_count l G h22 h' a1 11 r e) rfl rfl (Nat.le_of_ble_eq_true rfl) (zRm_of rfl (show _ ≤ 600000 by omega) (show _ ≤ 7302250 by omega)) dL_law_82 (fun v23 h24 H locs hf E => ?_)
        refine lv_iload Z.x Z.b dL_law_85 (lv_at hl 2 rfl) ?_
        refine lv_icmp_eq (tgt := 92) Z.x Z.b dL_law_87 (by decide) (fun c => ?_) (fun c => ?_)
        · have hf := zit hf c
          exact t_L_92 Z hr hX k10 hf E (lv_sub hl [6, 7, 8, 5, 4, 3, 2, 1, 0] rfl) (by omega) (by omega)
        · have hf := zif_ hf c
          refine lv_iconst (v := 0) Z.x Z.b dL_law_90 (by decide) ?_
          exact absurd (show (0 : Int32) = 1 from congrArg Prod.fst (Option.some.inj hf)) (by decide)
theorem t_L_10 {p : Program} {l : Launch} {e : Env} {s : State} {m : MethodId} {below : List Frame} {meth : Method} {c : Code} {G : zG} {b L : Nat} {xs : Nat → Int32} (Z : zF p s m #[Value.ref b] c meth cL_law 10 RL G) (hr : meth.sig.returnType = ret) (hX : zX b L xs G s ∧ G.2.2 = s.heap.size) {o : zHp} : ∀ (n : Nat), ∀ {a1 : Nat} {a2 : Int32} {h : zHp} {H : Heap} {locs : List Loc} {ls : Array Slot} {cells slots : Nat}, f_L_10 L xs n a1 a2 h = some (1, o) → zE G s h H locs → lv_has ls 10 [(0, .ref b), (1, .ref a1), (2, .int a2)] → cells + 4 * n ≤ 600000 → slots + 256 * n ≤ 7302250 → W p l e room_1 s m #[Value.ref b] below meth c H locs cells slots (lw_Z below #[Value.ref b] s) (F0 m 10 ls [])
  | 0 => fun hf => by cases hf
  | n + 1 => fun hf E hl hc hs => t_L_10_body Z hr hX (n := n) (r10 := f_L_10 L xs n) (t_L_10 Z hr hX n) hf E hl hc hs
set_option maxHeartbeats 4000000 in
set_option maxRecDepth 20000 in
theorem t_L {p : Program} {l : Launch} {e : Env} {s : State} {m : MethodId} {below : List Frame} {meth : Method} {c : Code} {G : zG} {b L : Nat} {xs : Nat → Int32} (Z : zF p s m #[Value.ref b] c meth cL_law 10 RL G) (hr : meth.sig.returnType = ret) (hX : zX b L xs G s ∧ G.2.2 = s.heap.size) {o : zHp} {h : zHp} {H : Heap} {locs : List Loc} {ls : Array Slot} {cells slots : Nat} (hf : f_L L xs h = some (1, o)) (E : zE G s h H locs) (hl : lv_has ls 10 [(0, .ref b)]) (hc : cells + 1386 ≤ 600000) (hs : slots + 18107 ≤ 7302250) : W p l e room_1 s m #[Value.ref b] below meth c H locs cells slots (lw_Z below #[Value.ref b] s) (F0 m 0 ls []) := by
  unfold f_L at hf
  refine z_new (ci := 7) (C := RX7) (T := TX7) (N := 6) (ty := tyX7) (fs := [.null, .null, .null, .null, .null, .int 0]) Z E rfl iX7 tyX7_ok wk_L_10 wa_X7 wi_X7 (fun j hj => by rcases (show j = 0 ∨ j = 1 ∨ j = 2 ∨ j = 3 ∨ j = 4 ∨ j = 5 by omega) with rfl | rfl | rfl | rfl | rfl | rfl <;> rfl) (show _ ≤ 600000 by omega) (show _ ≤ 7302250 by omega) dL_law_0 hf (fun q1 h2 H hf E => ?_)
  refine lv_dup Z.x Z.b dL_law_3 rfl ?_
  refine z_I (As := []) (mc := 1277) (ms := 11189) Z E hl.1 k_L_86 wn_X7_init rfl hf (fun h' e => c_X7_init l G h2 h' q1 e) rfl rfl (Nat.le_of_ble_eq_true rfl) ⟨⟨by decide, by decide⟩, ⟨rfl, rfl⟩, (show _ ≤ 600000 by omega), (show _ ≤ 7302250 by omega)⟩ dL_law_4 (fun h3 H locs hf E => ?_)
  refine lv_astore_n (lv' := [(1, .ref q1), (0, .ref b)]) Z.x Z.b dL_law_7 rfl hl (by decide) rfl (fun ls hl => ?_)
  refine lv_iconst (v := 0) Z.x Z.b dL_law_8 (by decide) ?_
  refine lv_istore_n (lv' := [(2, .int 0), (1, .ref q1), (0, .ref b)]) Z.x Z.b dL_law_9 rfl hl (by decide) rfl (fun ls hl => ?_)
  exact t_L_10 Z hr hX 27 hf E (lv_sub hl [2, 1, 0] rfl) (by omega) (by omega)
