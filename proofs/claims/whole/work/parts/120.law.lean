/-! THE CLAIM OUT OF ONE WALK OF THE LAW'S BODY. Your part is whole_start (and what it stands on); all else here is the same for every law, but numbers. -/
def R_law : String := "FerryCrewsLaw"
def lw_P (b : Addr) (xs : List Int32) (args : Array Value) (s : State) : Prop := args = #[.ref b] ∧ s.IntsAt b xs ∧ xs.length ≤ 2560 ∧ (Jvm.Cond.and given_1 narrow_1).before args s = true
def lw_Q (_ : Array Value) (s : State) (o : Outcome) (t : State) : Prop := o = .returned (some (.int 1)) ∧ Framed s o t [] 600000 7302250
def lw_Z (below : List Frame) (a : Array Value) (s : State) : State → Prop := fun t => ∃ o, t.status = .running ∧ Ended t below o ∧ lw_Q a s o t
/-- the law's own end, with 1 on the stack, nothing written that was there before, its room as the claim has it -/
theorem lw_ret {p : Program} {l : Launch} {e : Env} {s : State} {m : MethodId} {below : List Frame} {meth : Method} {c : Code} {b : Nat} (hx : p.tables.exec = Jvm.exec) (hb : c.code = code) (hr : meth.sig.returnType = ret) (hlocks : meth.locks = false) {pc : Nat} {H : Heap} {ls : Array Slot} (hdg : decode code pc = .ok (.ireturn, 1)) : W p l e room_1 s m #[Value.ref b] below meth c H [] 600000 7302250 (lw_Z below #[Value.ref b] s) (F0 m pc ls [.int 1]) := by
  intro T hT X
  obtain ⟨fs, hret, hrun, hended, hW, hframe⟩ := X.leave (v := some (.int 1)) (hlocks := hlocks) (fun h => by rw [hr] at h; cases h)
  have hmeth' : T.vm.method? m = some meth := X.method'
  refine ⟨T.setFrames fs, ?_, .returned (some (.int 1)), hrun, hended, rfl, ⟨_, rfl⟩, hW, hframe⟩
  jvm_step X.here [X.here.top, hx, hb, hdg, hmeth', hr, ret, narrow_b1]
  (try refine ⟨rfl, ?_⟩); (try refine ⟨rfl, ?_⟩)
  first | (intro acts; rw [hret _ acts rfl rfl rfl]) | rw [hret _ _ rfl rfl rfl]
  exact Steps.refl _
/-- what holds at the law's entry: the machine, the code, the tables' words (any of lw_tbl by 'hts w (by decide +kernel)'), the script of L ints xs at the cell b, what the Statement gives of the start (any of its parts by flat_of_before) -/
def lw_At (p : Program) (s : State) (m : MethodId) (meth : Method) (c : Code) (b L : Nat) (xs : Nat → Int32) : Prop :=
  p.tables.exec = Jvm.exec ∧ c.code = code ∧ meth.sig.returnType = ret ∧ c.maxLocals = 4 ∧ s.vm.findClass R_law = some m.cls ∧ (∀ w ∈ lw_tbl, w.before #[Value.ref b] s = true) ∧ va_X b L xs s s.heap ∧ b < s.heap.size ∧ meth.locks = false ∧ (Jvm.Cond.and given_1 narrow_1).before #[Value.ref b] s = true
/-- a place of the script -/
def zsc (L : Nat) (xs : Nat → Int32) (i : Int32) : Option Int32 := if i < 0 ∨ L ≤ i.toNatClampNeg then none else some (xs i.toNatClampNeg)
section ZL
variable {p : Program} {l : Launch} {e : Env} {R : Room} {s : State} {m : MethodId} {args : Array Value} {below : List Frame} {meth : Method} {c : Code} {H : Heap} {locs : List Loc} {cells slots : Nat} {Q : State → Prop}
variable {cc : ByteArray} {nL : Nat} {own : String} {G : zG} {h : zHp} {pc : Nat} {ls : Array Slot} {rest : List Value} {α : Type} {out : α} {b L : Nat} {xs : Nat → Int32}
theorem z_sld (Z : zF p s m args c meth cc nL own G) (E : zE G s h H locs) (hX : va_X b L xs s s.heap ∧ b < s.heap.size ∧ ¬ zA G b) {i : Int32} (hdg : decode cc pc = .ok (.iaload, 1)) {F : Int32 → Option α} (hf : (zsc L xs i).bind F = some out)
    (kk : ∀ v, F v = some out → W p l e R s m args below meth c H locs cells slots Q (F0 m (pc + 1) ls (.int v :: rest))) : W p l e R s m args below meth c H locs cells slots Q (F0 m pc ls (.int i :: .ref b :: rest)) := by
  obtain ⟨v, hv, hf⟩ := zbind hf
  unfold zsc at hv
  split at hv
  · cases hv
  · rename_i hin
    cases hv
    exact va_sld Z.x Z.b hX.1 hX.2.1 hX.2.2 E.2 hin hdg (kk _ hf)
theorem z_lret (Z : zF p s m #[Value.ref b] c meth code nL own G) (hr : meth.sig.returnType = ret) (hlo : G.2.2 = s.heap.size) (E : zE G s h H locs) (hc : cells ≤ 600000) (hs : slots ≤ 7302250) (hdg : decode code pc = .ok (.ireturn, 1)) : W p l e room_1 s m #[Value.ref b] below meth c H locs cells slots (lw_Z below #[Value.ref b] s) (F0 m pc ls [.int 1]) := by
  refine va_forget (fun q hq => by rw [← hlo]; exact E.2.2.2 q hq) ?_
  refine W.widen (k := 600000) (n := 7302250) hc hs ?_
  exact lw_ret Z.x Z.b hr Z.lk hdg
end ZL
noncomputable def f_L_1175 (L : Nat) (xs : Nat → Int32) (r18 : Nat → Nat → Int32 → zHp → Option (Int32 × zHp)) (a1 : Nat) (a2 : Nat) (a3 : Int32) (h : zHp) : Option (Int32 × zHp) :=
  r18 a1 a2 (a3 + 5) h
noncomputable def f_L_18_body (L : Nat) (xs : Nat → Int32) (r18 : Nat → Nat → Int32 → zHp → Option (Int32 × zHp)) (a1 : Nat) (a2 : Nat) (a3 : Int32) (h : zHp) : Option (Int32 × zHp) :=
  if ((Int32.ofNat L) - 5) < a3 then
    some (1, h)
  else
    (zsc L xs a3).bind fun v1 =>
    if (v1 &&& 63) = 0 then
      (zsc L xs (a3 + 1)).bind fun v2 =>
      (zsc L xs (a3 + 2)).bind fun v3 =>
      (zsc L xs (a3 + 3)).bind fun v4 =>
      (zsc L xs (a3 + 4)).bind fun v5 =>
      zb2 (zif (zis h a1 7) (f_X7_sailing a1 v2 v3 v4 v5 h)) fun v6 h7 =>
      (zsc L xs (a3 + 1)).bind fun v8 =>
      (zsc L xs (a3 + 2)).bind fun v9 =>
      (zsc L xs (a3 + 3)).bind fun v10 =>
      (zsc L xs (a3 + 4)).bind fun v11 =>
      zb2 (zif (zis h7 a2 8) (f_X8_sailing a2 v8 v9 v10 v11 h7)) fun v12 h13 =>
      if v6 = v12 then
        f_L_1175 L xs r18 a1 a2 a3 h13
      else
        some (0, h13)
    else if (v1 &&& 63) = 1 then
      zb2 (zif (zis h a1 7) (f_X7_sailings a1 h)) fun v14 h15 =>
      zb2 (zif (zis h15 a2 8) (f_X8_sailings a2 h15)) fun v16 h17 =>
      if v14 = v16 then
        f_L_1175 L xs r18 a1 a2 a3 h17
      else
        some (0, h17)
    else if (v1 &&& 63) = 2 then
      (zsc L xs (a3 + 1)).bind fun v18 =>
      zb2 (zif (zis h a1 7) (f_X7_cancel a1 v18 h)) fun v19 h20 =>
      (zsc L xs (a3 + 1)).bind fun v21 =>
      zb2 (zif (zis h20 a2 8) (f_X8_cancel a2 v21 h20)) fun v22 h23 =>
      if v19 = v22 then
        f_L_1175 L xs r18 a1 a2 a3 h23
      else
        some (0, h23)
    else if (v1 &&& 63) = 3 then
      (zsc L xs (a3 + 1)).bind fun v24 =>
      (zsc L xs (a3 + 2)).bind fun v25 =>
      zb2 (zif (zis h a1 7) (f_X7_member a1 v24 v25 h)) fun v26 h27 =>
      (zsc L xs (a3 + 1)).bind fun v28 =>
      (zsc L xs (a3 + 2)).bind fun v29 =>
      zb2 (zif (zis h27 a2 8) (f_X8_member a2 v28 v29 h27)) fun v30 h31 =>
      if v26 = v30 then
        f_L_1175 L xs r18 a1 a2 a3 h31
      else
        some (0, h31)
    else if (v1 &&& 63) = 4 then
      (zsc L xs (a3 + 1)).bind fun v32 =>
      (zsc L xs (a3 + 2)).bind fun v33 =>
      (zsc L xs (a3 + 3)).bind fun v34 =>
      zb2 (zif (zis h a1 7) (f_X7_certify a1 v32 v33 v34 h)) fun v35 h36 =>
      (zsc L xs (a3 + 1)).bind fun v37 =>
      (zsc L xs (a3 + 2)).bind fun v38 =>
      (zsc L xs (a3 + 3)).bind fun v39 =>
      zb2 (zif (zis h36 a2 8) (f_X8_certify a2 v37 v38 v39 h36)) fun v40 h41 =>
      if v35 = v40 then
        f_L_1175 L xs r18 a1 a2 a3 h41
      else
        some (0, h41)
    else if (v1 &&& 63) = 5 then
      (zsc L xs (a3 + 1)).bind fun v42 =>
      (zsc L xs (a3 + 2)).bind fun v43 =>
      zb2 (zif (zis h a1 7) (f_X7_climb a1 v42 v43 h)) fun v44 h45 =>
      (zsc L xs (a3 + 1)).bind fun v46 =>
      (zsc L xs (a3 + 2)).bind fun v47 =>
      zb2 (zif (zis h45 a2 8) (f_X8_climb a2 v46 v47 h45)) fun v48 h49 =>
      if v44 = v48 then
        f_L_1175 L xs r18 a1 a2 a3 h49
      else
        some (0, h49)
    else if (v1 &&& 63) = 6 then
      (zsc L xs (a3 + 1)).bind fun v50 =>
      (zsc L xs (a3 + 2)).bind fun v51 =>
      zb2 (zif (zis h a1 7) (f_X7_leave a1 v50 v51 h)) fun v52 h53 =>
      (zsc L xs (a3 + 1)).bind fun v54 =>
      (zsc L xs (a3 + 2)).bind fun v55 =>
      zb2 (zif (zis h53 a2 8) (f_X8_leave a2 v54 v55 h53)) fun v56 h57 =>
      if v52 = v56 then
        f_L_1175 L xs r18 a1 a2 a3 h57
      else
        some (0, h57)
    else if (v1 &&& 63) = 7 then
      (zsc L xs (a3 + 1)).bind fun v58 =>
      (zsc L xs (a3 + 2)).bind fun v59 =>
      zb2 (zif (zis h a1 7) (f_X7_sick a1 v58 v59 h)) fun v60 h61 =>
      (zsc L xs (a3 + 1)).bind fun v62 =>
      (zsc L xs (a3 + 2)).bind fun v63 =>
      zb2 (zif (zis h61 a2 8) (f_X8_sick a2 v62 v63 h61)) fun v64 h65 =>
      if v60 = v64 then
        f_L_1175 L xs r18 a1 a2 a3 h65
      else
        some (0, h65)
    else if (v1 &&& 63) = 8 then
      (zsc L xs (a3 + 1)).bind fun v66 =>
      zb2 (zif (zis h a1 7) (f_X7_well a1 v66 h)) fun v67 h68 =>
      (zsc L xs (a3 + 1)).bind fun v69 =>
      zb2 (zif (zis h68 a2 8) (f_X8_well a2 v69 h68)) fun v70 h71 =>
      if v67 = v70 then
        f_L_1175 L xs r18 a1 a2 a3 h71
      else
        some (0, h71)
    else if (v1 &&& 63) = 9 then
      (zsc L xs (a3 + 1)).bind fun v72 =>
      (zsc L xs (a3 + 2)).bind fun v73 =>
      (zsc L xs (a3 + 3)).bind fun v74 =>
      zb2 (zif (zis h a1 7) (f_X7_give a1 v72 v73 v74 h)) fun v75 h76 =>
      (zsc L xs (a3 + 1)).bind fun v77 =>
      (zsc L xs (a3 + 2)).bind fun v78 =>
      (zsc L xs (a3 + 3)).bind fun v79 =>
      zb2 (zif (zis h76 a2 8) (f_X8_give a2 v77 v78 v79 h76)) fun v80 h81 =>
      if v75 = v80 then
        f_L_1175 L xs r18 a1 a2 a3 h81
      else
        some (0, h81)
    else if (v1 &&& 63) = 10 then
      (zsc L xs (a3 + 1)).bind fun v82 =>
      (zsc L xs (a3 + 2)).bind fun v83 =>
      zb2 (zif (zis h a1 7) (f_X7_giveUp a1 v82 v83 h)) fun v84 h85 =>
      (zsc L xs (a3 + 1)).bind fun v86 =>
      (zsc L xs (a3 + 2)).bind fun v87 =>
      zb2 (zif (zis h85 a2 8) (f_X8_giveUp a2 v86 v87 h85)) fun v88 h89 =>
      if v84 = v88 then
        f_L_1175 L xs r18 a1 a2 a3 h89
      else
        some (0, h89)
    else if (v1 &&& 63) = 11 then
      (zsc L xs (a3 + 1)).bind fun v90 =>
      zb2 (zif (zis h a1 7) (f_X7_fill a1 v90 h)) fun v91 h92 =>
      (zsc L xs (a3 + 1)).bind fun v93 =>
      zb2 (zif (zis h92 a2 8) (f_X8_fill a2 v93 h92)) fun v94 h95 =>
      if v91 = v94 then
        f_L_1175 L xs r18 a1 a2 a3 h95
      else
        some (0, h95)
    else if (v1 &&& 63) = 12 then
      (zsc L xs (a3 + 1)).bind fun v96 =>
      zb2 (zif (zis h a1 7) (f_X7_pass a1 v96 h)) fun v97 h98 =>
      (zsc L xs (a3 + 1)).bind fun v99 =>
      zb2 (zif (zis h98 a2 8) (f_X8_pass a2 v99 h98)) fun v100 h101 =>
      if v97 = v100 then
        f_L_1175 L xs r18 a1 a2 a3 h101
      else
        some (0, h101)
    else if (v1 &&& 63) = 13 then
      (zsc L xs (a3 + 1)).bind fun v102 =>
      (zsc L xs (a3 + 2)).bind fun v103 =>
      zb2 (zif (zis h a1 7) (f_X7_set a1 v102 v103 h)) fun v104 h105 =>
      (zsc L xs (a3 + 1)).bind fun v106 =>
      (zsc L xs (a3 + 2)).bind fun v107 =>
      zb2 (zif (zis h105 a2 8) (f_X8_set a2 v106 v107 h105)) fun v108 h109 =>
      if v104 = v108 then
        f_L_1175 L xs r18 a1 a2 a3 h109
      else
        some (0, h109)
    else if (v1 &&& 63) = 14 then
      (zsc L xs (a3 + 1)).bind fun v110 =>
      zb2 (zif (zis h a1 7) (f_X7_type a1 ((v110.toUInt32 % 65536).toInt32) h)) fun v111 h112 =>
      (zsc L xs (a3 + 1)).bind fun v113 =>
      zb2 (zif (zis h112 a2 8) (f_X8_type a2 ((v113.toUInt32 % 65536).toInt32) h112)) fun v114 h115 =>
      if v111 = v114 then
        f_L_1175 L xs r18 a1 a2 a3 h115
      else
        some (0, h115)
    else if (v1 &&& 63) = 15 then
      zb2 (zif (zis h a1 7) (f_X7_clearText a1 h)) fun v116 h117 =>
      zb2 (zif (zis h117 a2 8) (f_X8_clearText a2 h117)) fun v118 h119 =>
      if v116 = v118 then
        f_L_1175 L xs r18 a1 a2 a3 h119
      else
        some (0, h119)
    else if (v1 &&& 63) = 16 then
      zb2 (zif (zis h a1 7) (f_X7_fault a1 h)) fun v120 h121 =>
      zb2 (zif (zis h121 a2 8) (f_X8_fault a2 h121)) fun v122 h123 =>
      if v120 = v122 then
        f_L_1175 L xs r18 a1 a2 a3 h123
      else
        some (0, h123)
    else if (v1 &&& 63) = 17 then
      zb2 (zif (zis h a1 7) (f_X7_undo a1 h)) fun v124 h125 =>
      zb2 (zif (zis h125 a2 8) (f_X8_undo a2 h125)) fun v126 h127 =>
      if v124 = v126 then
        f_L_1175 L xs r18 a1 a2 a3 h127
      else
        some (0, h127)
    else if (v1 &&& 63) = 18 then
      zb2 (zif (zis h a1 7) (f_X7_keep a1 h)) fun v128 h129 =>
      zb2 (zif (zis h129 a2 8) (f_X8_keep a2 h129)) fun v130 h131 =>
      if v128 = v130 then
        f_L_1175 L xs r18 a1 a2 a3 h131
      else
        some (0, h131)
    else if (v1 &&& 63) = 19 then
      zb2 (zif (zis h a1 7) (f_X7_restore a1 h)) fun v132 h133 =>
      zb2 (zif (zis h133 a2 8) (f_X8_restore a2 h133)) fun v134 h135 =>
      if v132 = v134 then
        f_L_1175 L xs r18 a1 a2 a3 h135
      else
        some (0, h135)
    else if (v1 &&& 63) = 20 then
      (zsc L xs (a3 + 1)).bind fun v136 =>
      (zsc L xs (a3 + 2)).bind fun v137 =>
      zb2 (zif (zis h a1 7) (f_X7_sailingOf a1 v136 v137 h)) fun v138 h139 =>
      (zsc L xs (a3 + 1)).bind fun v140 =>
      (zsc L xs (a3 + 2)).bind fun v141 =>
      zb2 (zif (zis h139 a2 8) (f_X8_sailingOf a2 v140 v141 h139)) fun v142 h143 =>
      if v138 = v142 then
        f_L_1175 L xs r18 a1 a2 a3 h143
      else
        some (0, h143)
    else if (v1 &&& 63) = 21 then
      (zsc L xs (a3 + 1)).bind fun v144 =>
      (zsc L xs (a3 + 2)).bind fun v145 =>
      (zsc L xs (a3 + 3)).bind fun v146 =>
      zb2 (zif (zis h a1 7) (f_X7_crew a1 v144 v145 v146 h)) fun v147 h148 =>
      (zsc L xs (a3 + 1)).bind fun v149 =>
      (zsc L xs (a3 + 2)).bind fun v150 =>
      (zsc L xs (a3 + 3)).bind fun v151 =>
      zb2 (zif (zis h148 a2 8) (f_X8_crew a2 v149 v150 v151 h148)) fun v152 h153 =>
      if v147 = v152 then
        f_L_1175 L xs r18 a1 a2 a3 h153
      else
        some (0, h153)
    else if (v1 &&& 63) = 22 then
      (zsc L xs (a3 + 1)).bind fun v154 =>
      (zsc L xs (a3 + 2)).bind fun v155 =>
      zb2 (zif (zis h a1 7) (f_X7_memberOf a1 v154 v155 h)) fun v156 h157 =>
      (zsc L xs (a3 + 1)).bind fun v158 =>
      (zsc L xs (a3 + 2)).bind fun v159 =>
      zb2 (zif (zis h157 a2 8) (f_X8_memberOf a2 v158 v159 h157)) fun v160 h161 =>
      if v156 = v160 then
        f_L_1175 L xs r18 a1 a2 a3 h161
      else
        some (0, h161)
    else if (v1 &&& 63) = 23 then
      (zsc L xs (a3 + 1)).bind fun v162 =>
      (zsc L xs (a3 + 2)).bind fun v163 =>
      zb2 (zif (zis h a1 7) (f_X7_ladder a1 v162 v163 h)) fun v164 h165 =>
      (zsc L xs (a3 + 1)).bind fun v166 =>
      (zsc L xs (a3 + 2)).bind fun v167 =>
      zb2 (zif (zis h165 a2 8) (f_X8_ladder a2 v166 v167 h165)) fun v168 h169 =>
      if v164 = v168 then
        f_L_1175 L xs r18 a1 a2 a3 h169
      else
        some (0, h169)
    else if (v1 &&& 63) = 24 then
      (zsc L xs (a3 + 1)).bind fun v170 =>
      (zsc L xs (a3 + 2)).bind fun v171 =>
      (zsc L xs (a3 + 3)).bind fun v172 =>
      zb2 (zif (zis h a1 7) (f_X7_rest a1 v170 v171 v172 h)) fun v173 h174 =>
      (zsc L xs (a3 + 1)).bind fun v175 =>
      (zsc L xs (a3 + 2)).bind fun v176 =>
      (zsc L xs (a3 + 3)).bind fun v177 =>
      zb2 (zif (zis h174 a2 8) (f_X8_rest a2 v175 v176 v177 h174)) fun v178 h179 =>
      if v173 = v178 then
        f_L_1175 L xs r18 a1 a2 a3 h179
      else
        some (0, h179)
    else if (v1 &&& 63) = 25 then
      (zsc L xs (a3 + 1)).bind fun v180 =>
      (zsc L xs (a3 + 2)).bind fun v181 =>
      zb2 (zif (zis h a1 7) (f_X7_leastRest a1 v180 v181 h)) fun v182 h183 =>
      (zsc L xs (a3 + 1)).bind fun v184 =>
      (zsc L xs (a3 + 2)).bind fun v185 =>
      zb2 (zif (zis h183 a2 8) (f_X8_leastRest a2 v184 v185 h183)) fun v186 h187 =>
      if v182 = v186 then
        f_L_1175 L xs r18 a1 a2 a3 h187
      else
        some (0, h187)
    else if (v1 &&& 63) = 26 then
      (zsc L xs (a3 + 1)).bind fun v188 =>
      (zsc L xs (a3 + 2)).bind fun v189 =>
      zb2 (zif (zis h a1 7) (f_X7_overtime a1 v188 v189 h)) fun v190 h191 =>
      (zsc L xs (a3 + 1)).bind fun v192 =>
      (zsc L xs (a3 + 2)).bind fun v193 =>
      zb2 (zif (zis h191 a2 8) (f_X8_overtime a2 v192 v193 h191)) fun v194 h195 =>
      if v190 = v194 then
        f_L_1175 L xs r18 a1 a2 a3 h195
      else
        some (0, h195)
    else if (v1 &&& 63) = 27 then
      (zsc L xs (a3 + 1)).bind fun v196 =>
      zb2 (zif (zis h a1 7) (f_X7_count a1 v196 h)) fun v197 h198 =>
      (zsc L xs (a3 + 1)).bind fun v199 =>
      zb2 (zif (zis h198 a2 8) (f_X8_count a2 v199 h198)) fun v200 h201 =>
      if v197 = v200 then
        f_L_1175 L xs r18 a1 a2 a3 h201
      else
        some (0, h201)
    else if (v1 &&& 63) = 28 then
      (zsc L xs (a3 + 1)).bind fun v202 =>
      (zsc L xs (a3 + 2)).bind fun v203 =>
      (zsc L xs (a3 + 3)).bind fun v204 =>
      zb2 (zif (zis h a1 7) (f_X7_why a1 v202 v203 v204 h)) fun v205 h206 =>
      (zsc L xs (a3 + 1)).bind fun v207 =>
      (zsc L xs (a3 + 2)).bind fun v208 =>
      (zsc L xs (a3 + 3)).bind fun v209 =>
      zb2 (zif (zis h206 a2 8) (f_X8_why a2 v207 v208 v209 h206)) fun v210 h211 =>
      if v205 = v210 then
        f_L_1175 L xs r18 a1 a2 a3 h211
      else
        some (0, h211)
    else if (v1 &&& 63) = 29 then
      (zsc L xs (a3 + 1)).bind fun v212 =>
      (zsc L xs (a3 + 2)).bind fun v213 =>
      zb2 (zif (zis h a1 7) (f_X7_able a1 v212 v213 h)) fun v214 h215 =>
      (zsc L xs (a3 + 1)).bind fun v216 =>
      (zsc L xs (a3 + 2)).bind fun v217 =>
      zb2 (zif (zis h215 a2 8) (f_X8_able a2 v216 v217 h215)) fun v218 h219 =>
      if v214 = v218 then
        f_L_1175 L xs r18 a1 a2 a3 h219
      else
        some (0, h219)
    else if (v1 &&& 63) = 30 then
      (zsc L xs (a3 + 1)).bind fun v220 =>
      (zsc L xs (a3 + 2)).bind fun v221 =>
      zb2 (zif (zis h a1 7) (f_X7_ifSick a1 v220 v221 h)) fun v222 h223 =>
      (zsc L xs (a3 + 1)).bind fun v224 =>
      (zsc L xs (a3 + 2)).bind fun v225 =>
      zb2 (zif (zis h223 a2 8) (f_X8_ifSick a2 v224 v225 h223)) fun v226 h227 =>
      if v222 = v226 then
        f_L_1175 L xs r18 a1 a2 a3 h227
      else
        some (0, h227)
    else if (v1 &&& 63) = 31 then
      (zsc L xs (a3 + 1)).bind fun v228 =>
      zb2 (zif (zis h a1 7) (f_X7_weakest a1 v228 h)) fun v229 h230 =>
      (zsc L xs (a3 + 1)).bind fun v231 =>
      zb2 (zif (zis h230 a2 8) (f_X8_weakest a2 v231 h230)) fun v232 h233 =>
      if v229 = v232 then
        f_L_1175 L xs r18 a1 a2 a3 h233
      else
        some (0, h233)
    else if (v1 &&& 63) = 32 then
      zb2 (zif (zis h a1 7) (f_X7_atRisk a1 h)) fun v234 h235 =>
      zb2 (zif (zis h235 a2 8) (f_X8_atRisk a2 h235)) fun v236 h237 =>
      if v234 = v236 then
        f_L_1175 L xs r18 a1 a2 a3 h237
      else
        some (0, h237)
    else if (v1 &&& 63) = 33 then
      (zsc L xs (a3 + 1)).bind fun v238 =>
      zb2 (zif (zis h a1 7) (f_X7_cancelledIn a1 v238 h)) fun v239 h240 =>
      (zsc L xs (a3 + 1)).bind fun v241 =>
      zb2 (zif (zis h240 a2 8) (f_X8_cancelledIn a2 v241 h240)) fun v242 h243 =>
      if v239 = v242 then
        f_L_1175 L xs r18 a1 a2 a3 h243
      else
        some (0, h243)
    else if (v1 &&& 63) = 34 then
      zb2 (zif (zis h a1 7) (f_X7_freshest a1 h)) fun v244 h245 =>
      zb2 (zif (zis h245 a2 8) (f_X8_freshest a2 h245)) fun v246 h247 =>
      if v244 = v246 then
        f_L_1175 L xs r18 a1 a2 a3 h247
      else
        some (0, h247)
    else 
      f_L_1175 L xs r18 a1 a2 a3 h
noncomputable def f_L_18 (L : Nat) (xs : Nat → Int32) : Nat → Nat → Nat → Int32 → zHp → Option (Int32 × zHp)
  | 0 => fun _ _ _ _ => none
  | n + 1 => fun a1 a2 a3 h => f_L_18_body L xs (f_L_18 L xs n) a1 a2 a3 h
noncomputable def f_L (L : Nat) (xs : Nat → Int32) (h : zHp) : Option (Int32 × zHp) :=
  znm h.1 fun q1 => znm (zadd h (.inr (.inr (7, [.null, .null, .null, .null, .null, .int 0])))) fun h2 =>
  (f_X7_init q1 h2).bind fun h3 =>
  znm h3.1 fun q4 => znm (zadd h3 (.inr (.inr (8, [.null, .null, .null, .null, .null, .null, .null, .null, .int 0, .int 0, .int 0, .int 0])))) fun h5 =>
  (f_X8_init q4 h5).bind fun h6 =>
  f_L_18 L xs zN q1 q4 0 h6
theorem dL_law_0 : decode cL_law 0 = .ok (.new 7, 3) := by decide +kernel
theorem dL_law_3 : decode cL_law 3 = .ok (.dup, 1) := by decide +kernel
theorem dL_law_4 : decode cL_law 4 = .ok (.invokespecial 9, 3) := by decide +kernel
theorem dL_law_7 : decode cL_law 7 = .ok (.astore_n 1, 1) := by decide +kernel
theorem dL_law_8 : decode cL_law 8 = .ok (.new 10, 3) := by decide +kernel
theorem dL_law_11 : decode cL_law 11 = .ok (.dup, 1) := by decide +kernel
theorem dL_law_12 : decode cL_law 12 = .ok (.invokespecial 12, 3) := by decide +kernel
theorem dL_law_15 : decode cL_law 15 = .ok (.astore_n 2, 1) := by decide +kernel
theorem dL_law_16 : decode cL_law 16 = .ok (.iconst 0, 1) := by decide +kernel
theorem dL_law_17 : decode cL_law 17 = .ok (.istore_n 3, 1) := by decide +kernel
theorem dL_law_18 : decode cL_law 18 = .ok (.iload_n 3, 1) := by decide +kernel
theorem dL_law_19 : decode cL_law 19 = .ok (.aload_n 0, 1) := by decide +kernel
theorem dL_law_20 : decode cL_law 20 = .ok (.arraylength, 1) := by decide +kernel
theorem dL_law_21 : decode cL_law 21 = .ok (.iconst 5, 1) := by decide +kernel
theorem dL_law_22 : decode cL_law 22 = .ok (.isub, 1) := by decide +kernel
theorem dL_law_23 : decode cL_law 23 = .ok (.if_icmp .gt 1158, 3) := by decide +kernel
theorem dL_law_26 : decode cL_law 26 = .ok (.aload_n 0, 1) := by decide +kernel
theorem dL_law_27 : decode cL_law 27 = .ok (.iload_n 3, 1) := by decide +kernel
theorem dL_law_28 : decode cL_law 28 = .ok (.iaload, 1) := by decide +kernel
theorem dL_law_29 : decode cL_law 29 = .ok (.bipush 63, 2) := by decide +kernel
theorem dL_law_31 : decode cL_law 31 = .ok (.iand, 1) := by decide +kernel
theorem dL_law_32 : decode cL_law 32 = .ok (.tableswitch 1143 0 34 #[156, 209, 222, 245, 278, 321, 354, 387, 420, 443, 486, 519, 542, 565, 598, 623, 636, 649, 662, 675, 688, 721, 764, 797, 830, 873, 906, 939, 962, 1005, 1038, 1071, 1094, 1107, 1130], 156) := by decide +kernel
theorem dL_law_188 : decode cL_law 188 = .ok (.aload_n 1, 1) := by decide +kernel
theorem dL_law_189 : decode cL_law 189 = .ok (.aload_n 0, 1) := by decide +kernel
theorem dL_law_190 : decode cL_law 190 = .ok (.iload_n 3, 1) := by decide +kernel
theorem dL_law_191 : decode cL_law 191 = .ok (.iconst 1, 1) := by decide +kernel
theorem dL_law_192 : decode cL_law 192 = .ok (.iadd, 1) := by decide +kernel
theorem dL_law_193 : decode cL_law 193 = .ok (.iaload, 1) := by decide +kernel
theorem dL_law_194 : decode cL_law 194 = .ok (.aload_n 0, 1) := by decide +kernel
theorem dL_law_195 : decode cL_law 195 = .ok (.iload_n 3, 1) := by decide +kernel
theorem dL_law_196 : decode cL_law 196 = .ok (.iconst 2, 1) := by decide +kernel
theorem dL_law_197 : decode cL_law 197 = .ok (.iadd, 1) := by decide +kernel
theorem dL_law_198 : decode cL_law 198 = .ok (.iaload, 1) := by decide +kernel
theorem dL_law_199 : decode cL_law 199 = .ok (.aload_n 0, 1) := by decide +kernel
theorem dL_law_200 : decode cL_law 200 = .ok (.iload_n 3, 1) := by decide +kernel
theorem dL_law_201 : decode cL_law 201 = .ok (.iconst 3, 1) := by decide +kernel
theorem dL_law_202 : decode cL_law 202 = .ok (.iadd, 1) := by decide +kernel
theorem dL_law_203 : decode cL_law 203 = .ok (.iaload, 1) := by decide +kernel
theorem dL_law_204 : decode cL_law 204 = .ok (.aload_n 0, 1) := by decide +kernel
theorem dL_law_205 : decode cL_law 205 = .ok (.iload_n 3, 1) := by decide +kernel
theorem dL_law_206 : decode cL_law 206 = .ok (.iconst 4, 1) := by decide +kernel
theorem dL_law_207 : decode cL_law 207 = .ok (.iadd, 1) := by decide +kernel
theorem dL_law_208 : decode cL_law 208 = .ok (.iaload, 1) := by decide +kernel
theorem dL_law_209 : decode cL_law 209 = .ok (.invokevirtual 13, 3) := by decide +kernel
theorem dL_law_212 : decode cL_law 212 = .ok (.aload_n 2, 1) := by decide +kernel
theorem dL_law_213 : decode cL_law 213 = .ok (.aload_n 0, 1) := by decide +kernel
theorem dL_law_214 : decode cL_law 214 = .ok (.iload_n 3, 1) := by decide +kernel
theorem dL_law_215 : decode cL_law 215 = .ok (.iconst 1, 1) := by decide +kernel
theorem dL_law_216 : decode cL_law 216 = .ok (.iadd, 1) := by decide +kernel
theorem dL_law_217 : decode cL_law 217 = .ok (.iaload, 1) := by decide +kernel
theorem dL_law_218 : decode cL_law 218 = .ok (.aload_n 0, 1) := by decide +kernel
theorem dL_law_219 : decode cL_law 219 = .ok (.iload_n 3, 1) := by decide +kernel
theorem dL_law_220 : decode cL_law 220 = .ok (.iconst 2, 1) := by decide +kernel
theorem dL_law_221 : decode cL_law 221 = .ok (.iadd, 1) := by decide +kernel
theorem dL_law_222 : decode cL_law 222 = .ok (.iaload, 1) := by decide +kernel
theorem dL_law_223 : decode cL_law 223 = .ok (.aload_n 0, 1) := by decide +kernel
theorem dL_law_224 : decode cL_law 224 = .ok (.iload_n 3, 1) := by decide +kernel
theorem dL_law_225 : decode cL_law 225 = .ok (.iconst 3, 1) := by decide +kernel
theorem dL_law_226 : decode cL_law 226 = .ok (.iadd, 1) := by decide +kernel
theorem dL_law_227 : decode cL_law 227 = .ok (.iaload, 1) := by decide +kernel
theorem dL_law_228 : decode cL_law 228 = .ok (.aload_n 0, 1) := by decide +kernel
theorem dL_law_229 : decode cL_law 229 = .ok (.iload_n 3, 1) := by decide +kernel
theorem dL_law_230 : decode cL_law 230 = .ok (.iconst 4, 1) := by decide +kernel
theorem dL_law_231 : decode cL_law 231 = .ok (.iadd, 1) := by decide +kernel
theorem dL_law_232 : decode cL_law 232 = .ok (.iaload, 1) := by decide +kernel
theorem dL_law_233 : decode cL_law 233 = .ok (.invokevirtual 17, 3) := by decide +kernel
theorem dL_law_236 : decode cL_law 236 = .ok (.if_icmp .eq 939, 3) := by decide +kernel
theorem dL_law_239 : decode cL_law 239 = .ok (.iconst 0, 1) := by decide +kernel
theorem dL_law_240 : decode cL_law 240 = .ok (.ireturn, 1) := by decide +kernel
theorem dL_law_241 : decode cL_law 241 = .ok (.aload_n 1, 1) := by decide +kernel
theorem dL_law_242 : decode cL_law 242 = .ok (.invokevirtual 18, 3) := by decide +kernel
theorem dL_law_245 : decode cL_law 245 = .ok (.aload_n 2, 1) := by decide +kernel
theorem dL_law_246 : decode cL_law 246 = .ok (.invokevirtual 22, 3) := by decide +kernel
theorem dL_law_249 : decode cL_law 249 = .ok (.if_icmp .eq 926, 3) := by decide +kernel
theorem dL_law_252 : decode cL_law 252 = .ok (.iconst 0, 1) := by decide +kernel
theorem dL_law_253 : decode cL_law 253 = .ok (.ireturn, 1) := by decide +kernel
theorem dL_law_254 : decode cL_law 254 = .ok (.aload_n 1, 1) := by decide +kernel
theorem dL_law_255 : decode cL_law 255 = .ok (.aload_n 0, 1) := by decide +kernel
theorem dL_law_256 : decode cL_law 256 = .ok (.iload_n 3, 1) := by decide +kernel
theorem dL_law_257 : decode cL_law 257 = .ok (.iconst 1, 1) := by decide +kernel
theorem dL_law_258 : decode cL_law 258 = .ok (.iadd, 1) := by decide +kernel
theorem dL_law_259 : decode cL_law 259 = .ok (.iaload, 1) := by decide +kernel
theorem dL_law_260 : decode cL_law 260 = .ok (.invokevirtual 23, 3) := by decide +kernel
theorem dL_law_263 : decode cL_law 263 = .ok (.aload_n 2, 1) := by decide +kernel
theorem dL_law_264 : decode cL_law 264 = .ok (.aload_n 0, 1) := by decide +kernel
theorem dL_law_265 : decode cL_law 265 = .ok (.iload_n 3, 1) := by decide +kernel
theorem dL_law_266 : decode cL_law 266 = .ok (.iconst 1, 1) := by decide +kernel
theorem dL_law_267 : decode cL_law 267 = .ok (.iadd, 1) := by decide +kernel
theorem dL_law_268 : decode cL_law 268 = .ok (.iaload, 1) := by decide +kernel
theorem dL_law_269 : decode cL_law 269 = .ok (.invokevirtual 27, 3) := by decide +kernel
theorem dL_law_272 : decode cL_law 272 = .ok (.if_icmp .eq 903, 3) := by decide +kernel
theorem dL_law_275 : decode cL_law 275 = .ok (.iconst 0, 1) := by decide +kernel
theorem dL_law_276 : decode cL_law 276 = .ok (.ireturn, 1) := by decide +kernel
theorem dL_law_277 : decode cL_law 277 = .ok (.aload_n 1, 1) := by decide +kernel
theorem dL_law_278 : decode cL_law 278 = .ok (.aload_n 0, 1) := by decide +kernel
theorem dL_law_279 : decode cL_law 279 = .ok (.iload_n 3, 1) := by decide +kernel
theorem dL_law_280 : decode cL_law 280 = .ok (.iconst 1, 1) := by decide +kernel
theorem dL_law_281 : decode cL_law 281 = .ok (.iadd, 1) := by decide +kernel
theorem dL_law_282 : decode cL_law 282 = .ok (.iaload, 1) := by decide +kernel
theorem dL_law_283 : decode cL_law 283 = .ok (.aload_n 0, 1) := by decide +kernel
theorem dL_law_284 : decode cL_law 284 = .ok (.iload_n 3, 1) := by decide +kernel
theorem dL_law_285 : decode cL_law 285 = .ok (.iconst 2, 1) := by decide +kernel
theorem dL_law_286 : decode cL_law 286 = .ok (.iadd, 1) := by decide +kernel
theorem dL_law_287 : decode cL_law 287 = .ok (.iaload, 1) := by decide +kernel
theorem dL_law_288 : decode cL_law 288 = .ok (.invokevirtual 28, 3) := by decide +kernel
theorem dL_law_291 : decode cL_law 291 = .ok (.aload_n 2, 1) := by decide +kernel
theorem dL_law_292 : decode cL_law 292 = .ok (.aload_n 0, 1) := by decide +kernel
theorem dL_law_293 : decode cL_law 293 = .ok (.iload_n 3, 1) := by decide +kernel
theorem dL_law_294 : decode cL_law 294 = .ok (.iconst 1, 1) := by decide +kernel
theorem dL_law_295 : decode cL_law 295 = .ok (.iadd, 1) := by decide +kernel
theorem dL_law_296 : decode cL_law 296 = .ok (.iaload, 1) := by decide +kernel
theorem dL_law_297 : decode cL_law 297 = .ok (.aload_n 0, 1) := by decide +kernel
theorem dL_law_298 : decode cL_law 298 = .ok (.iload_n 3, 1) := by decide +kernel
theorem dL_law_299 : decode cL_law 299 = .ok (.iconst 2, 1) := by decide +kernel
theorem dL_law_300 : decode cL_law 300 = .ok (.iadd, 1) := by decide +kernel
theorem dL_law_301 : decode cL_law 301 = .ok (.iaload, 1) := by decide +kernel
theorem dL_law_302 : decode cL_law 302 = .ok (.invokevirtual 32, 3) := by decide +kernel
theorem dL_law_305 : decode cL_law 305 = .ok (.if_icmp .eq 870, 3) := by decide +kernel
theorem dL_law_308 : decode cL_law 308 = .ok (.iconst 0, 1) := by decide +kernel
theorem dL_law_309 : decode cL_law 309 = .ok (.ireturn, 1) := by decide +kernel
theorem dL_law_310 : decode cL_law 310 = .ok (.aload_n 1, 1) := by decide +kernel
theorem dL_law_311 : decode cL_law 311 = .ok (.aload_n 0, 1) := by decide +kernel
theorem dL_law_312 : decode cL_law 312 = .ok (.iload_n 3, 1) := by decide +kernel
theorem dL_law_313 : decode cL_law 313 = .ok (.iconst 1, 1) := by decide +kernel
theorem dL_law_314 : decode cL_law 314 = .ok (.iadd, 1) := by decide +kernel
theorem dL_law_315 : decode cL_law 315 = .ok (.iaload, 1) := by decide +kernel
theorem dL_law_316 : decode cL_law 316 = .ok (.aload_n 0, 1) := by decide +kernel
theorem dL_law_317 : decode cL_law 317 = .ok (.iload_n 3, 1) := by decide +kernel
theorem dL_law_318 : decode cL_law 318 = .ok (.iconst 2, 1) := by decide +kernel
theorem dL_law_319 : decode cL_law 319 = .ok (.iadd, 1) := by decide +kernel
theorem dL_law_320 : decode cL_law 320 = .ok (.iaload, 1) := by decide +kernel
theorem dL_law_321 : decode cL_law 321 = .ok (.aload_n 0, 1) := by decide +kernel
theorem dL_law_322 : decode cL_law 322 = .ok (.iload_n 3, 1) := by decide +kernel
theorem dL_law_323 : decode cL_law 323 = .ok (.iconst 3, 1) := by decide +kernel
theorem dL_law_324 : decode cL_law 324 = .ok (.iadd, 1) := by decide +kernel
theorem dL_law_325 : decode cL_law 325 = .ok (.iaload, 1) := by decide +kernel
theorem dL_law_326 : decode cL_law 326 = .ok (.invokevirtual 33, 3) := by decide +kernel
theorem dL_law_329 : decode cL_law 329 = .ok (.aload_n 2, 1) := by decide +kernel
theorem dL_law_330 : decode cL_law 330 = .ok (.aload_n 0, 1) := by decide +kernel
theorem dL_law_331 : decode cL_law 331 = .ok (.iload_n 3, 1) := by decide +kernel
theorem dL_law_332 : decode cL_law 332 = .ok (.iconst 1, 1) := by decide +kernel
theorem dL_law_333 : decode cL_law 333 = .ok (.iadd, 1) := by decide +kernel
theorem dL_law_334 : decode cL_law 334 = .ok (.iaload, 1) := by decide +kernel
theorem dL_law_335 : decode cL_law 335 = .ok (.aload_n 0, 1) := by decide +kernel
theorem dL_law_336 : decode cL_law 336 = .ok (.iload_n 3, 1) := by decide +kernel
theorem dL_law_337 : decode cL_law 337 = .ok (.iconst 2, 1) := by decide +kernel
theorem dL_law_338 : decode cL_law 338 = .ok (.iadd, 1) := by decide +kernel
theorem dL_law_339 : decode cL_law 339 = .ok (.iaload, 1) := by decide +kernel
theorem dL_law_340 : decode cL_law 340 = .ok (.aload_n 0, 1) := by decide +kernel
theorem dL_law_341 : decode cL_law 341 = .ok (.iload_n 3, 1) := by decide +kernel
theorem dL_law_342 : decode cL_law 342 = .ok (.iconst 3, 1) := by decide +kernel
theorem dL_law_343 : decode cL_law 343 = .ok (.iadd, 1) := by decide +kernel
theorem dL_law_344 : decode cL_law 344 = .ok (.iaload, 1) := by decide +kernel
theorem dL_law_345 : decode cL_law 345 = .ok (.invokevirtual 37, 3) := by decide +kernel
theorem dL_law_348 : decode cL_law 348 = .ok (.if_icmp .eq 827, 3) := by decide +kernel
theorem dL_law_351 : decode cL_law 351 = .ok (.iconst 0, 1) := by decide +kernel
theorem dL_law_352 : decode cL_law 352 = .ok (.ireturn, 1) := by decide +kernel
theorem dL_law_353 : decode cL_law 353 = .ok (.aload_n 1, 1) := by decide +kernel
theorem dL_law_354 : decode cL_law 354 = .ok (.aload_n 0, 1) := by decide +kernel
theorem dL_law_355 : decode cL_law 355 = .ok (.iload_n 3, 1) := by decide +kernel
theorem dL_law_356 : decode cL_law 356 = .ok (.iconst 1, 1) := by decide +kernel
theorem dL_law_357 : decode cL_law 357 = .ok (.iadd, 1) := by decide +kernel
theorem dL_law_358 : decode cL_law 358 = .ok (.iaload, 1) := by decide +kernel
theorem dL_law_359 : decode cL_law 359 = .ok (.aload_n 0, 1) := by decide +kernel
theorem dL_law_360 : decode cL_law 360 = .ok (.iload_n 3, 1) := by decide +kernel
theorem dL_law_361 : decode cL_law 361 = .ok (.iconst 2, 1) := by decide +kernel
theorem dL_law_362 : decode cL_law 362 = .ok (.iadd, 1) := by decide +kernel
theorem dL_law_363 : decode cL_law 363 = .ok (.iaload, 1) := by decide +kernel
theorem dL_law_364 : decode cL_law 364 = .ok (.invokevirtual 38, 3) := by decide +kernel
theorem dL_law_367 : decode cL_law 367 = .ok (.aload_n 2, 1) := by decide +kernel
theorem dL_law_368 : decode cL_law 368 = .ok (.aload_n 0, 1) := by decide +kernel
theorem dL_law_369 : decode cL_law 369 = .ok (.iload_n 3, 1) := by decide +kernel
theorem dL_law_370 : decode cL_law 370 = .ok (.iconst 1, 1) := by decide +kernel
theorem dL_law_371 : decode cL_law 371 = .ok (.iadd, 1) := by decide +kernel
theorem dL_law_372 : decode cL_law 372 = .ok (.iaload, 1) := by decide +kernel
theorem dL_law_373 : decode cL_law 373 = .ok (.aload_n 0, 1) := by decide +kernel
theorem dL_law_374 : decode cL_law 374 = .ok (.iload_n 3, 1) := by decide +kernel
theorem dL_law_375 : decode cL_law 375 = .ok (.iconst 2, 1) := by decide +kernel
theorem dL_law_376 : decode cL_law 376 = .ok (.iadd, 1) := by decide +kernel
theorem dL_law_377 : decode cL_law 377 = .ok (.iaload, 1) := by decide +kernel
theorem dL_law_378 : decode cL_law 378 = .ok (.invokevirtual 41, 3) := by decide +kernel
theorem dL_law_381 : decode cL_law 381 = .ok (.if_icmp .eq 794, 3) := by decide +kernel
theorem dL_law_384 : decode cL_law 384 = .ok (.iconst 0, 1) := by decide +kernel
theorem dL_law_385 : decode cL_law 385 = .ok (.ireturn, 1) := by decide +kernel
theorem dL_law_386 : decode cL_law 386 = .ok (.aload_n 1, 1) := by decide +kernel
theorem dL_law_387 : decode cL_law 387 = .ok (.aload_n 0, 1) := by decide +kernel
theorem dL_law_388 : decode cL_law 388 = .ok (.iload_n 3, 1) := by decide +kernel
theorem dL_law_389 : decode cL_law 389 = .ok (.iconst 1, 1) := by decide +kernel
theorem dL_law_390 : decode cL_law 390 = .ok (.iadd, 1) := by decide +kernel
theorem dL_law_391 : decode cL_law 391 = .ok (.iaload, 1) := by decide +kernel
theorem dL_law_392 : decode cL_law 392 = .ok (.aload_n 0, 1) := by decide +kernel
theorem dL_law_393 : decode cL_law 393 = .ok (.iload_n 3, 1) := by decide +kernel
theorem dL_law_394 : decode cL_law 394 = .ok (.iconst 2, 1) := by decide +kernel
theorem dL_law_395 : decode cL_law 395 = .ok (.iadd, 1) := by decide +kernel
theorem dL_law_396 : decode cL_law 396 = .ok (.iaload, 1) := by decide +kernel
theorem dL_law_397 : decode cL_law 397 = .ok (.invokevirtual 42, 3) := by decide +kernel
theorem dL_law_400 : decode cL_law 400 = .ok (.aload_n 2, 1) := by decide +kernel
theorem dL_law_401 : decode cL_law 401 = .ok (.aload_n 0, 1) := by decide +kernel
theorem dL_law_402 : decode cL_law 402 = .ok (.iload_n 3, 1) := by decide +kernel
theorem dL_law_403 : decode cL_law 403 = .ok (.iconst 1, 1) := by decide +kernel
theorem dL_law_404 : decode cL_law 404 = .ok (.iadd, 1) := by decide +kernel
theorem dL_law_405 : decode cL_law 405 = .ok (.iaload, 1) := by decide +kernel
theorem dL_law_406 : decode cL_law 406 = .ok (.aload_n 0, 1) := by decide +kernel
theorem dL_law_407 : decode cL_law 407 = .ok (.iload_n 3, 1) := by decide +kernel
theorem dL_law_408 : decode cL_law 408 = .ok (.iconst 2, 1) := by decide +kernel
theorem dL_law_409 : decode cL_law 409 = .ok (.iadd, 1) := by decide +kernel
theorem dL_law_410 : decode cL_law 410 = .ok (.iaload, 1) := by decide +kernel
theorem dL_law_411 : decode cL_law 411 = .ok (.invokevirtual 45, 3) := by decide +kernel
theorem dL_law_414 : decode cL_law 414 = .ok (.if_icmp .eq 761, 3) := by decide +kernel
theorem dL_law_417 : decode cL_law 417 = .ok (.iconst 0, 1) := by decide +kernel
theorem dL_law_418 : decode cL_law 418 = .ok (.ireturn, 1) := by decide +kernel
theorem dL_law_419 : decode cL_law 419 = .ok (.aload_n 1, 1) := by decide +kernel
theorem dL_law_420 : decode cL_law 420 = .ok (.aload_n 0, 1) := by decide +kernel
theorem dL_law_421 : decode cL_law 421 = .ok (.iload_n 3, 1) := by decide +kernel
theorem dL_law_422 : decode cL_law 422 = .ok (.iconst 1, 1) := by decide +kernel
theorem dL_law_423 : decode cL_law 423 = .ok (.iadd, 1) := by decide +kernel
theorem dL_law_424 : decode cL_law 424 = .ok (.iaload, 1) := by decide +kernel
theorem dL_law_425 : decode cL_law 425 = .ok (.aload_n 0, 1) := by decide +kernel
theorem dL_law_426 : decode cL_law 426 = .ok (.iload_n 3, 1) := by decide +kernel
theorem dL_law_427 : decode cL_law 427 = .ok (.iconst 2, 1) := by decide +kernel
theorem dL_law_428 : decode cL_law 428 = .ok (.iadd, 1) := by decide +kernel
theorem dL_law_429 : decode cL_law 429 = .ok (.iaload, 1) := by decide +kernel
theorem dL_law_430 : decode cL_law 430 = .ok (.invokevirtual 46, 3) := by decide +kernel
theorem dL_law_433 : decode cL_law 433 = .ok (.aload_n 2, 1) := by decide +kernel
theorem dL_law_434 : decode cL_law 434 = .ok (.aload_n 0, 1) := by decide +kernel
theorem dL_law_435 : decode cL_law 435 = .ok (.iload_n 3, 1) := by decide +kernel
theorem dL_law_436 : decode cL_law 436 = .ok (.iconst 1, 1) := by decide +kernel
theorem dL_law_437 : decode cL_law 437 = .ok (.iadd, 1) := by decide +kernel
theorem dL_law_438 : decode cL_law 438 = .ok (.iaload, 1) := by decide +kernel
theorem dL_law_439 : decode cL_law 439 = .ok (.aload_n 0, 1) := by decide +kernel
theorem dL_law_440 : decode cL_law 440 = .ok (.iload_n 3, 1) := by decide +kernel
theorem dL_law_441 : decode cL_law 441 = .ok (.iconst 2, 1) := by decide +kernel
theorem dL_law_442 : decode cL_law 442 = .ok (.iadd, 1) := by decide +kernel
theorem dL_law_443 : decode cL_law 443 = .ok (.iaload, 1) := by decide +kernel
theorem dL_law_444 : decode cL_law 444 = .ok (.invokevirtual 49, 3) := by decide +kernel
theorem dL_law_447 : decode cL_law 447 = .ok (.if_icmp .eq 728, 3) := by decide +kernel
theorem dL_law_450 : decode cL_law 450 = .ok (.iconst 0, 1) := by decide +kernel
theorem dL_law_451 : decode cL_law 451 = .ok (.ireturn, 1) := by decide +kernel
theorem dL_law_452 : decode cL_law 452 = .ok (.aload_n 1, 1) := by decide +kernel
theorem dL_law_453 : decode cL_law 453 = .ok (.aload_n 0, 1) := by decide +kernel
theorem dL_law_454 : decode cL_law 454 = .ok (.iload_n 3, 1) := by decide +kernel
theorem dL_law_455 : decode cL_law 455 = .ok (.iconst 1, 1) := by decide +kernel
theorem dL_law_456 : decode cL_law 456 = .ok (.iadd, 1) := by decide +kernel
theorem dL_law_457 : decode cL_law 457 = .ok (.iaload, 1) := by decide +kernel
theorem dL_law_458 : decode cL_law 458 = .ok (.invokevirtual 50, 3) := by decide +kernel
theorem dL_law_461 : decode cL_law 461 = .ok (.aload_n 2, 1) := by decide +kernel
theorem dL_law_462 : decode cL_law 462 = .ok (.aload_n 0, 1) := by decide +kernel
theorem dL_law_463 : decode cL_law 463 = .ok (.iload_n 3, 1) := by decide +kernel
theorem dL_law_464 : decode cL_law 464 = .ok (.iconst 1, 1) := by decide +kernel
theorem dL_law_465 : decode cL_law 465 = .ok (.iadd, 1) := by decide +kernel
theorem dL_law_466 : decode cL_law 466 = .ok (.iaload, 1) := by decide +kernel
theorem dL_law_467 : decode cL_law 467 = .ok (.invokevirtual 53, 3) := by decide +kernel
theorem dL_law_470 : decode cL_law 470 = .ok (.if_icmp .eq 705, 3) := by decide +kernel
theorem dL_law_473 : decode cL_law 473 = .ok (.iconst 0, 1) := by decide +kernel
theorem dL_law_474 : decode cL_law 474 = .ok (.ireturn, 1) := by decide +kernel
theorem dL_law_475 : decode cL_law 475 = .ok (.aload_n 1, 1) := by decide +kernel
theorem dL_law_476 : decode cL_law 476 = .ok (.aload_n 0, 1) := by decide +kernel
theorem dL_law_477 : decode cL_law 477 = .ok (.iload_n 3, 1) := by decide +kernel
theorem dL_law_478 : decode cL_law 478 = .ok (.iconst 1, 1) := by decide +kernel
theorem dL_law_479 : decode cL_law 479 = .ok (.iadd, 1) := by decide +kernel
theorem dL_law_480 : decode cL_law 480 = .ok (.iaload, 1) := by decide +kernel
theorem dL_law_481 : decode cL_law 481 = .ok (.aload_n 0, 1) := by decide +kernel
theorem dL_law_482 : decode cL_law 482 = .ok (.iload_n 3, 1) := by decide +kernel
theorem dL_law_483 : decode cL_law 483 = .ok (.iconst 2, 1) := by decide +kernel
theorem dL_law_484 : decode cL_law 484 = .ok (.iadd, 1) := by decide +kernel
theorem dL_law_485 : decode cL_law 485 = .ok (.iaload, 1) := by decide +kernel
theorem dL_law_486 : decode cL_law 486 = .ok (.aload_n 0, 1) := by decide +kernel
theorem dL_law_487 : decode cL_law 487 = .ok (.iload_n 3, 1) := by decide +kernel
theorem dL_law_488 : decode cL_law 488 = .ok (.iconst 3, 1) := by decide +kernel
theorem dL_law_489 : decode cL_law 489 = .ok (.iadd, 1) := by decide +kernel
theorem dL_law_490 : decode cL_law 490 = .ok (.iaload, 1) := by decide +kernel
theorem dL_law_491 : decode cL_law 491 = .ok (.invokevirtual 54, 3) := by decide +kernel
theorem dL_law_494 : decode cL_law 494 = .ok (.aload_n 2, 1) := by decide +kernel
theorem dL_law_495 : decode cL_law 495 = .ok (.aload_n 0, 1) := by decide +kernel
theorem dL_law_496 : decode cL_law 496 = .ok (.iload_n 3, 1) := by decide +kernel
theorem dL_law_497 : decode cL_law 497 = .ok (.iconst 1, 1) := by decide +kernel
theorem dL_law_498 : decode cL_law 498 = .ok (.iadd, 1) := by decide +kernel
theorem dL_law_499 : decode cL_law 499 = .ok (.iaload, 1) := by decide +kernel
theorem dL_law_500 : decode cL_law 500 = .ok (.aload_n 0, 1) := by decide +kernel
theorem dL_law_501 : decode cL_law 501 = .ok (.iload_n 3, 1) := by decide +kernel
theorem dL_law_502 : decode cL_law 502 = .ok (.iconst 2, 1) := by decide +kernel
theorem dL_law_503 : decode cL_law 503 = .ok (.iadd, 1) := by decide +kernel
theorem dL_law_504 : decode cL_law 504 = .ok (.iaload, 1) := by decide +kernel
theorem dL_law_505 : decode cL_law 505 = .ok (.aload_n 0, 1) := by decide +kernel
theorem dL_law_506 : decode cL_law 506 = .ok (.iload_n 3, 1) := by decide +kernel
theorem dL_law_507 : decode cL_law 507 = .ok (.iconst 3, 1) := by decide +kernel
theorem dL_law_508 : decode cL_law 508 = .ok (.iadd, 1) := by decide +kernel
theorem dL_law_509 : decode cL_law 509 = .ok (.iaload, 1) := by decide +kernel
theorem dL_law_510 : decode cL_law 510 = .ok (.invokevirtual 57, 3) := by decide +kernel
theorem dL_law_513 : decode cL_law 513 = .ok (.if_icmp .eq 662, 3) := by decide +kernel
theorem dL_law_516 : decode cL_law 516 = .ok (.iconst 0, 1) := by decide +kernel
theorem dL_law_517 : decode cL_law 517 = .ok (.ireturn, 1) := by decide +kernel
theorem dL_law_518 : decode cL_law 518 = .ok (.aload_n 1, 1) := by decide +kernel
theorem dL_law_519 : decode cL_law 519 = .ok (.aload_n 0, 1) := by decide +kernel
theorem dL_law_520 : decode cL_law 520 = .ok (.iload_n 3, 1) := by decide +kernel
theorem dL_law_521 : decode cL_law 521 = .ok (.iconst 1, 1) := by decide +kernel
theorem dL_law_522 : decode cL_law 522 = .ok (.iadd, 1) := by decide +kernel
theorem dL_law_523 : decode cL_law 523 = .ok (.iaload, 1) := by decide +kernel
theorem dL_law_524 : decode cL_law 524 = .ok (.aload_n 0, 1) := by decide +kernel
theorem dL_law_525 : decode cL_law 525 = .ok (.iload_n 3, 1) := by decide +kernel
theorem dL_law_526 : decode cL_law 526 = .ok (.iconst 2, 1) := by decide +kernel
theorem dL_law_527 : decode cL_law 527 = .ok (.iadd, 1) := by decide +kernel
theorem dL_law_528 : decode cL_law 528 = .ok (.iaload, 1) := by decide +kernel
theorem dL_law_529 : decode cL_law 529 = .ok (.invokevirtual 58, 3) := by decide +kernel
theorem dL_law_532 : decode cL_law 532 = .ok (.aload_n 2, 1) := by decide +kernel
theorem dL_law_533 : decode cL_law 533 = .ok (.aload_n 0, 1) := by decide +kernel
theorem dL_law_534 : decode cL_law 534 = .ok (.iload_n 3, 1) := by decide +kernel
theorem dL_law_535 : decode cL_law 535 = .ok (.iconst 1, 1) := by decide +kernel
theorem dL_law_536 : decode cL_law 536 = .ok (.iadd, 1) := by decide +kernel
theorem dL_law_537 : decode cL_law 537 = .ok (.iaload, 1) := by decide +kernel
theorem dL_law_538 : decode cL_law 538 = .ok (.aload_n 0, 1) := by decide +kernel
theorem dL_law_539 : decode cL_law 539 = .ok (.iload_n 3, 1) := by decide +kernel
theorem dL_law_540 : decode cL_law 540 = .ok (.iconst 2, 1) := by decide +kernel
theorem dL_law_541 : decode cL_law 541 = .ok (.iadd, 1) := by decide +kernel
theorem dL_law_542 : decode cL_law 542 = .ok (.iaload, 1) := by decide +kernel
theorem dL_law_543 : decode cL_law 543 = .ok (.invokevirtual 61, 3) := by decide +kernel
theorem dL_law_546 : decode cL_law 546 = .ok (.if_icmp .eq 629, 3) := by decide +kernel
theorem dL_law_549 : decode cL_law 549 = .ok (.iconst 0, 1) := by decide +kernel
theorem dL_law_550 : decode cL_law 550 = .ok (.ireturn, 1) := by decide +kernel
theorem dL_law_551 : decode cL_law 551 = .ok (.aload_n 1, 1) := by decide +kernel
theorem dL_law_552 : decode cL_law 552 = .ok (.aload_n 0, 1) := by decide +kernel
theorem dL_law_553 : decode cL_law 553 = .ok (.iload_n 3, 1) := by decide +kernel
theorem dL_law_554 : decode cL_law 554 = .ok (.iconst 1, 1) := by decide +kernel
theorem dL_law_555 : decode cL_law 555 = .ok (.iadd, 1) := by decide +kernel
theorem dL_law_556 : decode cL_law 556 = .ok (.iaload, 1) := by decide +kernel
theorem dL_law_557 : decode cL_law 557 = .ok (.invokevirtual 62, 3) := by decide +kernel
theorem dL_law_560 : decode cL_law 560 = .ok (.aload_n 2, 1) := by decide +kernel
theorem dL_law_561 : decode cL_law 561 = .ok (.aload_n 0, 1) := by decide +kernel
theorem dL_law_562 : decode cL_law 562 = .ok (.iload_n 3, 1) := by decide +kernel
theorem dL_law_563 : decode cL_law 563 = .ok (.iconst 1, 1) := by decide +kernel
theorem dL_law_564 : decode cL_law 564 = .ok (.iadd, 1) := by decide +kernel
theorem dL_law_565 : decode cL_law 565 = .ok (.iaload, 1) := by decide +kernel
theorem dL_law_566 : decode cL_law 566 = .ok (.invokevirtual 65, 3) := by decide +kernel
theorem dL_law_569 : decode cL_law 569 = .ok (.if_icmp .eq 606, 3) := by decide +kernel
theorem dL_law_572 : decode cL_law 572 = .ok (.iconst 0, 1) := by decide +kernel
theorem dL_law_573 : decode cL_law 573 = .ok (.ireturn, 1) := by decide +kernel
theorem dL_law_574 : decode cL_law 574 = .ok (.aload_n 1, 1) := by decide +kernel
theorem dL_law_575 : decode cL_law 575 = .ok (.aload_n 0, 1) := by decide +kernel
theorem dL_law_576 : decode cL_law 576 = .ok (.iload_n 3, 1) := by decide +kernel
theorem dL_law_577 : decode cL_law 577 = .ok (.iconst 1, 1) := by decide +kernel
theorem dL_law_578 : decode cL_law 578 = .ok (.iadd, 1) := by decide +kernel
theorem dL_law_579 : decode cL_law 579 = .ok (.iaload, 1) := by decide +kernel
theorem dL_law_580 : decode cL_law 580 = .ok (.invokevirtual 66, 3) := by decide +kernel
theorem dL_law_583 : decode cL_law 583 = .ok (.aload_n 2, 1) := by decide +kernel
theorem dL_law_584 : decode cL_law 584 = .ok (.aload_n 0, 1) := by decide +kernel
theorem dL_law_585 : decode cL_law 585 = .ok (.iload_n 3, 1) := by decide +kernel
theorem dL_law_586 : decode cL_law 586 = .ok (.iconst 1, 1) := by decide +kernel
theorem dL_law_587 : decode cL_law 587 = .ok (.iadd, 1) := by decide +kernel
theorem dL_law_588 : decode cL_law 588 = .ok (.iaload, 1) := by decide +kernel
theorem dL_law_589 : decode cL_law 589 = .ok (.invokevirtual 69, 3) := by decide +kernel
theorem dL_law_592 : decode cL_law 592 = .ok (.if_icmp .eq 583, 3) := by decide +kernel
theorem dL_law_595 : decode cL_law 595 = .ok (.iconst 0, 1) := by decide +kernel
theorem dL_law_596 : decode cL_law 596 = .ok (.ireturn, 1) := by decide +kernel
theorem dL_law_597 : decode cL_law 597 = .ok (.aload_n 1, 1) := by decide +kernel
theorem dL_law_598 : decode cL_law 598 = .ok (.aload_n 0, 1) := by decide +kernel
theorem dL_law_599 : decode cL_law 599 = .ok (.iload_n 3, 1) := by decide +kernel
theorem dL_law_600 : decode cL_law 600 = .ok (.iconst 1, 1) := by decide +kernel
theorem dL_law_601 : decode cL_law 601 = .ok (.iadd, 1) := by decide +kernel
theorem dL_law_602 : decode cL_law 602 = .ok (.iaload, 1) := by decide +kernel
theorem dL_law_603 : decode cL_law 603 = .ok (.aload_n 0, 1) := by decide +kernel
theorem dL_law_604 : decode cL_law 604 = .ok (.iload_n 3, 1) := by decide +kernel
theorem dL_law_605 : decode cL_law 605 = .ok (.iconst 2, 1) := by decide +kernel
theorem dL_law_606 : decode cL_law 606 = .ok (.iadd, 1) := by decide +kernel
theorem dL_law_607 : decode cL_law 607 = .ok (.iaload, 1) := by decide +kernel
theorem dL_law_608 : decode cL_law 608 = .ok (.invokevirtual 70, 3) := by decide +kernel
theorem dL_law_611 : decode cL_law 611 = .ok (.aload_n 2, 1) := by decide +kernel
theorem dL_law_612 : decode cL_law 612 = .ok (.aload_n 0, 1) := by decide +kernel
theorem dL_law_613 : decode cL_law 613 = .ok (.iload_n 3, 1) := by decide +kernel
theorem dL_law_614 : decode cL_law 614 = .ok (.iconst 1, 1) := by decide +kernel
theorem dL_law_615 : decode cL_law 615 = .ok (.iadd, 1) := by decide +kernel
theorem dL_law_616 : decode cL_law 616 = .ok (.iaload, 1) := by decide +kernel
theorem dL_law_617 : decode cL_law 617 = .ok (.aload_n 0, 1) := by decide +kernel
theorem dL_law_618 : decode cL_law 618 = .ok (.iload_n 3, 1) := by decide +kernel
theorem dL_law_619 : decode cL_law 619 = .ok (.iconst 2, 1) := by decide +kernel
theorem dL_law_620 : decode cL_law 620 = .ok (.iadd, 1) := by decide +kernel
theorem dL_law_621 : decode cL_law 621 = .ok (.iaload, 1) := by decide +kernel
theorem dL_law_622 : decode cL_law 622 = .ok (.invokevirtual 73, 3) := by decide +kernel
theorem dL_law_625 : decode cL_law 625 = .ok (.if_icmp .eq 550, 3) := by decide +kernel
theorem dL_law_628 : decode cL_law 628 = .ok (.iconst 0, 1) := by decide +kernel
theorem dL_law_629 : decode cL_law 629 = .ok (.ireturn, 1) := by decide +kernel
theorem dL_law_630 : decode cL_law 630 = .ok (.aload_n 1, 1) := by decide +kernel
theorem dL_law_631 : decode cL_law 631 = .ok (.aload_n 0, 1) := by decide +kernel
theorem dL_law_632 : decode cL_law 632 = .ok (.iload_n 3, 1) := by decide +kernel
theorem dL_law_633 : decode cL_law 633 = .ok (.iconst 1, 1) := by decide +kernel
theorem dL_law_634 : decode cL_law 634 = .ok (.iadd, 1) := by decide +kernel
theorem dL_law_635 : decode cL_law 635 = .ok (.iaload, 1) := by decide +kernel
theorem dL_law_636 : decode cL_law 636 = .ok (.i2c, 1) := by decide +kernel
theorem dL_law_637 : decode cL_law 637 = .ok (.invokevirtual 74, 3) := by decide +kernel
theorem dL_law_640 : decode cL_law 640 = .ok (.aload_n 2, 1) := by decide +kernel
theorem dL_law_641 : decode cL_law 641 = .ok (.aload_n 0, 1) := by decide +kernel
theorem dL_law_642 : decode cL_law 642 = .ok (.iload_n 3, 1) := by decide +kernel
theorem dL_law_643 : decode cL_law 643 = .ok (.iconst 1, 1) := by decide +kernel
theorem dL_law_644 : decode cL_law 644 = .ok (.iadd, 1) := by decide +kernel
theorem dL_law_645 : decode cL_law 645 = .ok (.iaload, 1) := by decide +kernel
theorem dL_law_646 : decode cL_law 646 = .ok (.i2c, 1) := by decide +kernel
theorem dL_law_647 : decode cL_law 647 = .ok (.invokevirtual 78, 3) := by decide +kernel
theorem dL_law_650 : decode cL_law 650 = .ok (.if_icmp .eq 525, 3) := by decide +kernel
theorem dL_law_653 : decode cL_law 653 = .ok (.iconst 0, 1) := by decide +kernel
theorem dL_law_654 : decode cL_law 654 = .ok (.ireturn, 1) := by decide +kernel
theorem dL_law_655 : decode cL_law 655 = .ok (.aload_n 1, 1) := by decide +kernel
theorem dL_law_656 : decode cL_law 656 = .ok (.invokevirtual 79, 3) := by decide +kernel
theorem dL_law_659 : decode cL_law 659 = .ok (.aload_n 2, 1) := by decide +kernel
theorem dL_law_660 : decode cL_law 660 = .ok (.invokevirtual 82, 3) := by decide +kernel
theorem dL_law_663 : decode cL_law 663 = .ok (.if_icmp .eq 512, 3) := by decide +kernel
theorem dL_law_666 : decode cL_law 666 = .ok (.iconst 0, 1) := by decide +kernel
theorem dL_law_667 : decode cL_law 667 = .ok (.ireturn, 1) := by decide +kernel
theorem dL_law_668 : decode cL_law 668 = .ok (.aload_n 1, 1) := by decide +kernel
theorem dL_law_669 : decode cL_law 669 = .ok (.invokevirtual 83, 3) := by decide +kernel
theorem dL_law_672 : decode cL_law 672 = .ok (.aload_n 2, 1) := by decide +kernel
theorem dL_law_673 : decode cL_law 673 = .ok (.invokevirtual 86, 3) := by decide +kernel
theorem dL_law_676 : decode cL_law 676 = .ok (.if_icmp .eq 499, 3) := by decide +kernel
theorem dL_law_679 : decode cL_law 679 = .ok (.iconst 0, 1) := by decide +kernel
theorem dL_law_680 : decode cL_law 680 = .ok (.ireturn, 1) := by decide +kernel
theorem dL_law_681 : decode cL_law 681 = .ok (.aload_n 1, 1) := by decide +kernel
theorem dL_law_682 : decode cL_law 682 = .ok (.invokevirtual 87, 3) := by decide +kernel
theorem dL_law_685 : decode cL_law 685 = .ok (.aload_n 2, 1) := by decide +kernel
theorem dL_law_686 : decode cL_law 686 = .ok (.invokevirtual 90, 3) := by decide +kernel
theorem dL_law_689 : decode cL_law 689 = .ok (.if_icmp .eq 486, 3) := by decide +kernel
theorem dL_law_692 : decode cL_law 692 = .ok (.iconst 0, 1) := by decide +kernel
theorem dL_law_693 : decode cL_law 693 = .ok (.ireturn, 1) := by decide +kernel
theorem dL_law_694 : decode cL_law 694 = .ok (.aload_n 1, 1) := by decide +kernel
theorem dL_law_695 : decode cL_law 695 = .ok (.invokevirtual 91, 3) := by decide +kernel
theorem dL_law_698 : decode cL_law 698 = .ok (.aload_n 2, 1) := by decide +kernel
theorem dL_law_699 : decode cL_law 699 = .ok (.invokevirtual 94, 3) := by decide +kernel
theorem dL_law_702 : decode cL_law 702 = .ok (.if_icmp .eq 473, 3) := by decide +kernel
theorem dL_law_705 : decode cL_law 705 = .ok (.iconst 0, 1) := by decide +kernel
theorem dL_law_706 : decode cL_law 706 = .ok (.ireturn, 1) := by decide +kernel
theorem dL_law_707 : decode cL_law 707 = .ok (.aload_n 1, 1) := by decide +kernel
theorem dL_law_708 : decode cL_law 708 = .ok (.invokevirtual 95, 3) := by decide +kernel
theorem dL_law_711 : decode cL_law 711 = .ok (.aload_n 2, 1) := by decide +kernel
theorem dL_law_712 : decode cL_law 712 = .ok (.invokevirtual 98, 3) := by decide +kernel
theorem dL_law_715 : decode cL_law 715 = .ok (.if_icmp .eq 460, 3) := by decide +kernel
theorem dL_law_718 : decode cL_law 718 = .ok (.iconst 0, 1) := by decide +kernel
theorem dL_law_719 : decode cL_law 719 = .ok (.ireturn, 1) := by decide +kernel
theorem dL_law_720 : decode cL_law 720 = .ok (.aload_n 1, 1) := by decide +kernel
theorem dL_law_721 : decode cL_law 721 = .ok (.aload_n 0, 1) := by decide +kernel
theorem dL_law_722 : decode cL_law 722 = .ok (.iload_n 3, 1) := by decide +kernel
theorem dL_law_723 : decode cL_law 723 = .ok (.iconst 1, 1) := by decide +kernel
theorem dL_law_724 : decode cL_law 724 = .ok (.iadd, 1) := by decide +kernel
theorem dL_law_725 : decode cL_law 725 = .ok (.iaload, 1) := by decide +kernel
theorem dL_law_726 : decode cL_law 726 = .ok (.aload_n 0, 1) := by decide +kernel
theorem dL_law_727 : decode cL_law 727 = .ok (.iload_n 3, 1) := by decide +kernel
theorem dL_law_728 : decode cL_law 728 = .ok (.iconst 2, 1) := by decide +kernel
theorem dL_law_729 : decode cL_law 729 = .ok (.iadd, 1) := by decide +kernel
theorem dL_law_730 : decode cL_law 730 = .ok (.iaload, 1) := by decide +kernel
theorem dL_law_731 : decode cL_law 731 = .ok (.invokevirtual 99, 3) := by decide +kernel
theorem dL_law_734 : decode cL_law 734 = .ok (.aload_n 2, 1) := by decide +kernel
theorem dL_law_735 : decode cL_law 735 = .ok (.aload_n 0, 1) := by decide +kernel
theorem dL_law_736 : decode cL_law 736 = .ok (.iload_n 3, 1) := by decide +kernel
theorem dL_law_737 : decode cL_law 737 = .ok (.iconst 1, 1) := by decide +kernel
theorem dL_law_738 : decode cL_law 738 = .ok (.iadd, 1) := by decide +kernel
theorem dL_law_739 : decode cL_law 739 = .ok (.iaload, 1) := by decide +kernel
theorem dL_law_740 : decode cL_law 740 = .ok (.aload_n 0, 1) := by decide +kernel
theorem dL_law_741 : decode cL_law 741 = .ok (.iload_n 3, 1) := by decide +kernel
theorem dL_law_742 : decode cL_law 742 = .ok (.iconst 2, 1) := by decide +kernel
theorem dL_law_743 : decode cL_law 743 = .ok (.iadd, 1) := by decide +kernel
theorem dL_law_744 : decode cL_law 744 = .ok (.iaload, 1) := by decide +kernel
theorem dL_law_745 : decode cL_law 745 = .ok (.invokevirtual 102, 3) := by decide +kernel
theorem dL_law_748 : decode cL_law 748 = .ok (.if_icmp .eq 427, 3) := by decide +kernel
theorem dL_law_751 : decode cL_law 751 = .ok (.iconst 0, 1) := by decide +kernel
theorem dL_law_752 : decode cL_law 752 = .ok (.ireturn, 1) := by decide +kernel
theorem dL_law_753 : decode cL_law 753 = .ok (.aload_n 1, 1) := by decide +kernel
theorem dL_law_754 : decode cL_law 754 = .ok (.aload_n 0, 1) := by decide +kernel
theorem dL_law_755 : decode cL_law 755 = .ok (.iload_n 3, 1) := by decide +kernel
theorem dL_law_756 : decode cL_law 756 = .ok (.iconst 1, 1) := by decide +kernel
theorem dL_law_757 : decode cL_law 757 = .ok (.iadd, 1) := by decide +kernel
theorem dL_law_758 : decode cL_law 758 = .ok (.iaload, 1) := by decide +kernel
theorem dL_law_759 : decode cL_law 759 = .ok (.aload_n 0, 1) := by decide +kernel
theorem dL_law_760 : decode cL_law 760 = .ok (.iload_n 3, 1) := by decide +kernel
theorem dL_law_761 : decode cL_law 761 = .ok (.iconst 2, 1) := by decide +kernel
theorem dL_law_762 : decode cL_law 762 = .ok (.iadd, 1) := by decide +kernel
theorem dL_law_763 : decode cL_law 763 = .ok (.iaload, 1) := by decide +kernel
theorem dL_law_764 : decode cL_law 764 = .ok (.aload_n 0, 1) := by decide +kernel
theorem dL_law_765 : decode cL_law 765 = .ok (.iload_n 3, 1) := by decide +kernel
theorem dL_law_766 : decode cL_law 766 = .ok (.iconst 3, 1) := by decide +kernel
theorem dL_law_767 : decode cL_law 767 = .ok (.iadd, 1) := by decide +kernel
theorem dL_law_768 : decode cL_law 768 = .ok (.iaload, 1) := by decide +kernel
theorem dL_law_769 : decode cL_law 769 = .ok (.invokevirtual 103, 3) := by decide +kernel
theorem dL_law_772 : decode cL_law 772 = .ok (.aload_n 2, 1) := by decide +kernel
theorem dL_law_773 : decode cL_law 773 = .ok (.aload_n 0, 1) := by decide +kernel
theorem dL_law_774 : decode cL_law 774 = .ok (.iload_n 3, 1) := by decide +kernel
theorem dL_law_775 : decode cL_law 775 = .ok (.iconst 1, 1) := by decide +kernel
theorem dL_law_776 : decode cL_law 776 = .ok (.iadd, 1) := by decide +kernel
theorem dL_law_777 : decode cL_law 777 = .ok (.iaload, 1) := by decide +kernel
theorem dL_law_778 : decode cL_law 778 = .ok (.aload_n 0, 1) := by decide +kernel
theorem dL_law_779 : decode cL_law 779 = .ok (.iload_n 3, 1) := by decide +kernel
theorem dL_law_780 : decode cL_law 780 = .ok (.iconst 2, 1) := by decide +kernel
theorem dL_law_781 : decode cL_law 781 = .ok (.iadd, 1) := by decide +kernel
theorem dL_law_782 : decode cL_law 782 = .ok (.iaload, 1) := by decide +kernel
theorem dL_law_783 : decode cL_law 783 = .ok (.aload_n 0, 1) := by decide +kernel
theorem dL_law_784 : decode cL_law 784 = .ok (.iload_n 3, 1) := by decide +kernel
theorem dL_law_785 : decode cL_law 785 = .ok (.iconst 3, 1) := by decide +kernel
theorem dL_law_786 : decode cL_law 786 = .ok (.iadd, 1) := by decide +kernel
theorem dL_law_787 : decode cL_law 787 = .ok (.iaload, 1) := by decide +kernel
theorem dL_law_788 : decode cL_law 788 = .ok (.invokevirtual 106, 3) := by decide +kernel
theorem dL_law_791 : decode cL_law 791 = .ok (.if_icmp .eq 384, 3) := by decide +kernel
theorem dL_law_794 : decode cL_law 794 = .ok (.iconst 0, 1) := by decide +kernel
theorem dL_law_795 : decode cL_law 795 = .ok (.ireturn, 1) := by decide +kernel
theorem dL_law_796 : decode cL_law 796 = .ok (.aload_n 1, 1) := by decide +kernel
theorem dL_law_797 : decode cL_law 797 = .ok (.aload_n 0, 1) := by decide +kernel
theorem dL_law_798 : decode cL_law 798 = .ok (.iload_n 3, 1) := by decide +kernel
theorem dL_law_799 : decode cL_law 799 = .ok (.iconst 1, 1) := by decide +kernel
theorem dL_law_800 : decode cL_law 800 = .ok (.iadd, 1) := by decide +kernel
theorem dL_law_801 : decode cL_law 801 = .ok (.iaload, 1) := by decide +kernel
theorem dL_law_802 : decode cL_law 802 = .ok (.aload_n 0, 1) := by decide +kernel
theorem dL_law_803 : decode cL_law 803 = .ok (.iload_n 3, 1) := by decide +kernel
theorem dL_law_804 : decode cL_law 804 = .ok (.iconst 2, 1) := by decide +kernel
theorem dL_law_805 : decode cL_law 805 = .ok (.iadd, 1) := by decide +kernel
theorem dL_law_806 : decode cL_law 806 = .ok (.iaload, 1) := by decide +kernel
theorem dL_law_807 : decode cL_law 807 = .ok (.invokevirtual 107, 3) := by decide +kernel
theorem dL_law_810 : decode cL_law 810 = .ok (.aload_n 2, 1) := by decide +kernel
theorem dL_law_811 : decode cL_law 811 = .ok (.aload_n 0, 1) := by decide +kernel
theorem dL_law_812 : decode cL_law 812 = .ok (.iload_n 3, 1) := by decide +kernel
theorem dL_law_813 : decode cL_law 813 = .ok (.iconst 1, 1) := by decide +kernel
theorem dL_law_814 : decode cL_law 814 = .ok (.iadd, 1) := by decide +kernel
theorem dL_law_815 : decode cL_law 815 = .ok (.iaload, 1) := by decide +kernel
theorem dL_law_816 : decode cL_law 816 = .ok (.aload_n 0, 1) := by decide +kernel
theorem dL_law_817 : decode cL_law 817 = .ok (.iload_n 3, 1) := by decide +kernel
theorem dL_law_818 : decode cL_law 818 = .ok (.iconst 2, 1) := by decide +kernel
theorem dL_law_819 : decode cL_law 819 = .ok (.iadd, 1) := by decide +kernel
theorem dL_law_820 : decode cL_law 820 = .ok (.iaload, 1) := by decide +kernel
theorem dL_law_821 : decode cL_law 821 = .ok (.invokevirtual 110, 3) := by decide +kernel
theorem dL_law_824 : decode cL_law 824 = .ok (.if_icmp .eq 351, 3) := by decide +kernel
theorem dL_law_827 : decode cL_law 827 = .ok (.iconst 0, 1) := by decide +kernel
theorem dL_law_828 : decode cL_law 828 = .ok (.ireturn, 1) := by decide +kernel
theorem dL_law_829 : decode cL_law 829 = .ok (.aload_n 1, 1) := by decide +kernel
theorem dL_law_830 : decode cL_law 830 = .ok (.aload_n 0, 1) := by decide +kernel
theorem dL_law_831 : decode cL_law 831 = .ok (.iload_n 3, 1) := by decide +kernel
theorem dL_law_832 : decode cL_law 832 = .ok (.iconst 1, 1) := by decide +kernel
theorem dL_law_833 : decode cL_law 833 = .ok (.iadd, 1) := by decide +kernel
theorem dL_law_834 : decode cL_law 834 = .ok (.iaload, 1) := by decide +kernel
theorem dL_law_835 : decode cL_law 835 = .ok (.aload_n 0, 1) := by decide +kernel
theorem dL_law_836 : decode cL_law 836 = .ok (.iload_n 3, 1) := by decide +kernel
theorem dL_law_837 : decode cL_law 837 = .ok (.iconst 2, 1) := by decide +kernel
theorem dL_law_838 : decode cL_law 838 = .ok (.iadd, 1) := by decide +kernel
theorem dL_law_839 : decode cL_law 839 = .ok (.iaload, 1) := by decide +kernel
theorem dL_law_840 : decode cL_law 840 = .ok (.invokevirtual 111, 3) := by decide +kernel
theorem dL_law_843 : decode cL_law 843 = .ok (.aload_n 2, 1) := by decide +kernel
theorem dL_law_844 : decode cL_law 844 = .ok (.aload_n 0, 1) := by decide +kernel
theorem dL_law_845 : decode cL_law 845 = .ok (.iload_n 3, 1) := by decide +kernel
theorem dL_law_846 : decode cL_law 846 = .ok (.iconst 1, 1) := by decide +kernel
theorem dL_law_847 : decode cL_law 847 = .ok (.iadd, 1) := by decide +kernel
theorem dL_law_848 : decode cL_law 848 = .ok (.iaload, 1) := by decide +kernel
theorem dL_law_849 : decode cL_law 849 = .ok (.aload_n 0, 1) := by decide +kernel
theorem dL_law_850 : decode cL_law 850 = .ok (.iload_n 3, 1) := by decide +kernel
theorem dL_law_851 : decode cL_law 851 = .ok (.iconst 2, 1) := by decide +kernel
theorem dL_law_852 : decode cL_law 852 = .ok (.iadd, 1) := by decide +kernel
theorem dL_law_853 : decode cL_law 853 = .ok (.iaload, 1) := by decide +kernel
theorem dL_law_854 : decode cL_law 854 = .ok (.invokevirtual 114, 3) := by decide +kernel
theorem dL_law_857 : decode cL_law 857 = .ok (.if_icmp .eq 318, 3) := by decide +kernel
theorem dL_law_860 : decode cL_law 860 = .ok (.iconst 0, 1) := by decide +kernel
theorem dL_law_861 : decode cL_law 861 = .ok (.ireturn, 1) := by decide +kernel
theorem dL_law_862 : decode cL_law 862 = .ok (.aload_n 1, 1) := by decide +kernel
theorem dL_law_863 : decode cL_law 863 = .ok (.aload_n 0, 1) := by decide +kernel
theorem dL_law_864 : decode cL_law 864 = .ok (.iload_n 3, 1) := by decide +kernel
theorem dL_law_865 : decode cL_law 865 = .ok (.iconst 1, 1) := by decide +kernel
theorem dL_law_866 : decode cL_law 866 = .ok (.iadd, 1) := by decide +kernel
theorem dL_law_867 : decode cL_law 867 = .ok (.iaload, 1) := by decide +kernel
theorem dL_law_868 : decode cL_law 868 = .ok (.aload_n 0, 1) := by decide +kernel
theorem dL_law_869 : decode cL_law 869 = .ok (.iload_n 3, 1) := by decide +kernel
theorem dL_law_870 : decode cL_law 870 = .ok (.iconst 2, 1) := by decide +kernel
theorem dL_law_871 : decode cL_law 871 = .ok (.iadd, 1) := by decide +kernel
theorem dL_law_872 : decode cL_law 872 = .ok (.iaload, 1) := by decide +kernel
theorem dL_law_873 : decode cL_law 873 = .ok (.aload_n 0, 1) := by decide +kernel
theorem dL_law_874 : decode cL_law 874 = .ok (.iload_n 3, 1) := by decide +kernel
theorem dL_law_875 : decode cL_law 875 = .ok (.iconst 3, 1) := by decide +kernel
theorem dL_law_876 : decode cL_law 876 = .ok (.iadd, 1) := by decide +kernel
theorem dL_law_877 : decode cL_law 877 = .ok (.iaload, 1) := by decide +kernel
theorem dL_law_878 : decode cL_law 878 = .ok (.invokevirtual 115, 3) := by decide +kernel
theorem dL_law_881 : decode cL_law 881 = .ok (.aload_n 2, 1) := by decide +kernel
theorem dL_law_882 : decode cL_law 882 = .ok (.aload_n 0, 1) := by decide +kernel
theorem dL_law_883 : decode cL_law 883 = .ok (.iload_n 3, 1) := by decide +kernel
theorem dL_law_884 : decode cL_law 884 = .ok (.iconst 1, 1) := by decide +kernel
theorem dL_law_885 : decode cL_law 885 = .ok (.iadd, 1) := by decide +kernel
theorem dL_law_886 : decode cL_law 886 = .ok (.iaload, 1) := by decide +kernel
theorem dL_law_887 : decode cL_law 887 = .ok (.aload_n 0, 1) := by decide +kernel
theorem dL_law_888 : decode cL_law 888 = .ok (.iload_n 3, 1) := by decide +kernel
theorem dL_law_889 : decode cL_law 889 = .ok (.iconst 2, 1) := by decide +kernel
theorem dL_law_890 : decode cL_law 890 = .ok (.iadd, 1) := by decide +kernel
theorem dL_law_891 : decode cL_law 891 = .ok (.iaload, 1) := by decide +kernel
theorem dL_law_892 : decode cL_law 892 = .ok (.aload_n 0, 1) := by decide +kernel
theorem dL_law_893 : decode cL_law 893 = .ok (.iload_n 3, 1) := by decide +kernel
theorem dL_law_894 : decode cL_law 894 = .ok (.iconst 3, 1) := by decide +kernel
theorem dL_law_895 : decode cL_law 895 = .ok (.iadd, 1) := by decide +kernel
theorem dL_law_896 : decode cL_law 896 = .ok (.iaload, 1) := by decide +kernel
theorem dL_law_897 : decode cL_law 897 = .ok (.invokevirtual 118, 3) := by decide +kernel
theorem dL_law_900 : decode cL_law 900 = .ok (.if_icmp .eq 275, 3) := by decide +kernel
theorem dL_law_903 : decode cL_law 903 = .ok (.iconst 0, 1) := by decide +kernel
theorem dL_law_904 : decode cL_law 904 = .ok (.ireturn, 1) := by decide +kernel
theorem dL_law_905 : decode cL_law 905 = .ok (.aload_n 1, 1) := by decide +kernel
theorem dL_law_906 : decode cL_law 906 = .ok (.aload_n 0, 1) := by decide +kernel
theorem dL_law_907 : decode cL_law 907 = .ok (.iload_n 3, 1) := by decide +kernel
theorem dL_law_908 : decode cL_law 908 = .ok (.iconst 1, 1) := by decide +kernel
theorem dL_law_909 : decode cL_law 909 = .ok (.iadd, 1) := by decide +kernel
theorem dL_law_910 : decode cL_law 910 = .ok (.iaload, 1) := by decide +kernel
theorem dL_law_911 : decode cL_law 911 = .ok (.aload_n 0, 1) := by decide +kernel
theorem dL_law_912 : decode cL_law 912 = .ok (.iload_n 3, 1) := by decide +kernel
theorem dL_law_913 : decode cL_law 913 = .ok (.iconst 2, 1) := by decide +kernel
theorem dL_law_914 : decode cL_law 914 = .ok (.iadd, 1) := by decide +kernel
theorem dL_law_915 : decode cL_law 915 = .ok (.iaload, 1) := by decide +kernel
theorem dL_law_916 : decode cL_law 916 = .ok (.invokevirtual 119, 3) := by decide +kernel
theorem dL_law_919 : decode cL_law 919 = .ok (.aload_n 2, 1) := by decide +kernel
theorem dL_law_920 : decode cL_law 920 = .ok (.aload_n 0, 1) := by decide +kernel
theorem dL_law_921 : decode cL_law 921 = .ok (.iload_n 3, 1) := by decide +kernel
theorem dL_law_922 : decode cL_law 922 = .ok (.iconst 1, 1) := by decide +kernel
theorem dL_law_923 : decode cL_law 923 = .ok (.iadd, 1) := by decide +kernel
theorem dL_law_924 : decode cL_law 924 = .ok (.iaload, 1) := by decide +kernel
theorem dL_law_925 : decode cL_law 925 = .ok (.aload_n 0, 1) := by decide +kernel
theorem dL_law_926 : decode cL_law 926 = .ok (.iload_n 3, 1) := by decide +kernel
theorem dL_law_927 : decode cL_law 927 = .ok (.iconst 2, 1) := by decide +kernel
theorem dL_law_928 : decode cL_law 928 = .ok (.iadd, 1) := by decide +kernel
theorem dL_law_929 : decode cL_law 929 = .ok (.iaload, 1) := by decide +kernel
theorem dL_law_930 : decode cL_law 930 = .ok (.invokevirtual 122, 3) := by decide +kernel
theorem dL_law_933 : decode cL_law 933 = .ok (.if_icmp .eq 242, 3) := by decide +kernel
theorem dL_law_936 : decode cL_law 936 = .ok (.iconst 0, 1) := by decide +kernel
theorem dL_law_937 : decode cL_law 937 = .ok (.ireturn, 1) := by decide +kernel
theorem dL_law_938 : decode cL_law 938 = .ok (.aload_n 1, 1) := by decide +kernel
theorem dL_law_939 : decode cL_law 939 = .ok (.aload_n 0, 1) := by decide +kernel
theorem dL_law_940 : decode cL_law 940 = .ok (.iload_n 3, 1) := by decide +kernel
theorem dL_law_941 : decode cL_law 941 = .ok (.iconst 1, 1) := by decide +kernel
theorem dL_law_942 : decode cL_law 942 = .ok (.iadd, 1) := by decide +kernel
theorem dL_law_943 : decode cL_law 943 = .ok (.iaload, 1) := by decide +kernel
theorem dL_law_944 : decode cL_law 944 = .ok (.aload_n 0, 1) := by decide +kernel
theorem dL_law_945 : decode cL_law 945 = .ok (.iload_n 3, 1) := by decide +kernel
theorem dL_law_946 : decode cL_law 946 = .ok (.iconst 2, 1) := by decide +kernel
theorem dL_law_947 : decode cL_law 947 = .ok (.iadd, 1) := by decide +kernel
theorem dL_law_948 : decode cL_law 948 = .ok (.iaload, 1) := by decide +kernel
theorem dL_law_949 : decode cL_law 949 = .ok (.invokevirtual 123, 3) := by decide +kernel
theorem dL_law_952 : decode cL_law 952 = .ok (.aload_n 2, 1) := by decide +kernel
theorem dL_law_953 : decode cL_law 953 = .ok (.aload_n 0, 1) := by decide +kernel
theorem dL_law_954 : decode cL_law 954 = .ok (.iload_n 3, 1) := by decide +kernel
theorem dL_law_955 : decode cL_law 955 = .ok (.iconst 1, 1) := by decide +kernel
theorem dL_law_956 : decode cL_law 956 = .ok (.iadd, 1) := by decide +kernel
theorem dL_law_957 : decode cL_law 957 = .ok (.iaload, 1) := by decide +kernel
theorem dL_law_958 : decode cL_law 958 = .ok (.aload_n 0, 1) := by decide +kernel
theorem dL_law_959 : decode cL_law 959 = .ok (.iload_n 3, 1) := by decide +kernel
theorem dL_law_960 : decode cL_law 960 = .ok (.iconst 2, 1) := by decide +kernel
theorem dL_law_961 : decode cL_law 961 = .ok (.iadd, 1) := by decide +kernel
theorem dL_law_962 : decode cL_law 962 = .ok (.iaload, 1) := by decide +kernel
theorem dL_law_963 : decode cL_law 963 = .ok (.invokevirtual 126, 3) := by decide +kernel
theorem dL_law_966 : decode cL_law 966 = .ok (.if_icmp .eq 209, 3) := by decide +kernel
theorem dL_law_969 : decode cL_law 969 = .ok (.iconst 0, 1) := by decide +kernel
theorem dL_law_970 : decode cL_law 970 = .ok (.ireturn, 1) := by decide +kernel
theorem dL_law_971 : decode cL_law 971 = .ok (.aload_n 1, 1) := by decide +kernel
theorem dL_law_972 : decode cL_law 972 = .ok (.aload_n 0, 1) := by decide +kernel
theorem dL_law_973 : decode cL_law 973 = .ok (.iload_n 3, 1) := by decide +kernel
theorem dL_law_974 : decode cL_law 974 = .ok (.iconst 1, 1) := by decide +kernel
theorem dL_law_975 : decode cL_law 975 = .ok (.iadd, 1) := by decide +kernel
theorem dL_law_976 : decode cL_law 976 = .ok (.iaload, 1) := by decide +kernel
theorem dL_law_977 : decode cL_law 977 = .ok (.invokevirtual 127, 3) := by decide +kernel
theorem dL_law_980 : decode cL_law 980 = .ok (.aload_n 2, 1) := by decide +kernel
theorem dL_law_981 : decode cL_law 981 = .ok (.aload_n 0, 1) := by decide +kernel
theorem dL_law_982 : decode cL_law 982 = .ok (.iload_n 3, 1) := by decide +kernel
theorem dL_law_983 : decode cL_law 983 = .ok (.iconst 1, 1) := by decide +kernel
theorem dL_law_984 : decode cL_law 984 = .ok (.iadd, 1) := by decide +kernel
theorem dL_law_985 : decode cL_law 985 = .ok (.iaload, 1) := by decide +kernel
theorem dL_law_986 : decode cL_law 986 = .ok (.invokevirtual 130, 3) := by decide +kernel
theorem dL_law_989 : decode cL_law 989 = .ok (.if_icmp .eq 186, 3) := by decide +kernel
theorem dL_law_992 : decode cL_law 992 = .ok (.iconst 0, 1) := by decide +kernel
theorem dL_law_993 : decode cL_law 993 = .ok (.ireturn, 1) := by decide +kernel
theorem dL_law_994 : decode cL_law 994 = .ok (.aload_n 1, 1) := by decide +kernel
theorem dL_law_995 : decode cL_law 995 = .ok (.aload_n 0, 1) := by decide +kernel
theorem dL_law_996 : decode cL_law 996 = .ok (.iload_n 3, 1) := by decide +kernel
theorem dL_law_997 : decode cL_law 997 = .ok (.iconst 1, 1) := by decide +kernel
theorem dL_law_998 : decode cL_law 998 = .ok (.iadd, 1) := by decide +kernel
theorem dL_law_999 : decode cL_law 999 = .ok (.iaload, 1) := by decide +kernel
theorem dL_law_1000 : decode cL_law 1000 = .ok (.aload_n 0, 1) := by decide +kernel
theorem dL_law_1001 : decode cL_law 1001 = .ok (.iload_n 3, 1) := by decide +kernel
theorem dL_law_1002 : decode cL_law 1002 = .ok (.iconst 2, 1) := by decide +kernel
theorem dL_law_1003 : decode cL_law 1003 = .ok (.iadd, 1) := by decide +kernel
theorem dL_law_1004 : decode cL_law 1004 = .ok (.iaload, 1) := by decide +kernel
theorem dL_law_1005 : decode cL_law 1005 = .ok (.aload_n 0, 1) := by decide +kernel
theorem dL_law_1006 : decode cL_law 1006 = .ok (.iload_n 3, 1) := by decide +kernel
theorem dL_law_1007 : decode cL_law 1007 = .ok (.iconst 3, 1) := by decide +kernel
theorem dL_law_1008 : decode cL_law 1008 = .ok (.iadd, 1) := by decide +kernel
theorem dL_law_1009 : decode cL_law 1009 = .ok (.iaload, 1) := by decide +kernel
theorem dL_law_1010 : decode cL_law 1010 = .ok (.invokevirtual 131, 3) := by decide +kernel
theorem dL_law_1013 : decode cL_law 1013 = .ok (.aload_n 2, 1) := by decide +kernel
theorem dL_law_1014 : decode cL_law 1014 = .ok (.aload_n 0, 1) := by decide +kernel
theorem dL_law_1015 : decode cL_law 1015 = .ok (.iload_n 3, 1) := by decide +kernel
theorem dL_law_1016 : decode cL_law 1016 = .ok (.iconst 1, 1) := by decide +kernel
theorem dL_law_1017 : decode cL_law 1017 = .ok (.iadd, 1) := by decide +kernel
theorem dL_law_1018 : decode cL_law 1018 = .ok (.iaload, 1) := by decide +kernel
theorem dL_law_1019 : decode cL_law 1019 = .ok (.aload_n 0, 1) := by decide +kernel
theorem dL_law_1020 : decode cL_law 1020 = .ok (.iload_n 3, 1) := by decide +kernel
theorem dL_law_1021 : decode cL_law 1021 = .ok (.iconst 2, 1) := by decide +kernel
theorem dL_law_1022 : decode cL_law 1022 = .ok (.iadd, 1) := by decide +kernel
theorem dL_law_1023 : decode cL_law 1023 = .ok (.iaload, 1) := by decide +kernel
theorem dL_law_1024 : decode cL_law 1024 = .ok (.aload_n 0, 1) := by decide +kernel
theorem dL_law_1025 : decode cL_law 1025 = .ok (.iload_n 3, 1) := by decide +kernel
theorem dL_law_1026 : decode cL_law 1026 = .ok (.iconst 3, 1) := by decide +kernel
theorem dL_law_1027 : decode cL_law 1027 = .ok (.iadd, 1) := by decide +kernel
theorem dL_law_1028 : decode cL_law 1028 = .ok (.iaload, 1) := by decide +kernel
theorem dL_law_1029 : decode cL_law 1029 = .ok (.invokevirtual 134, 3) := by decide +kernel
theorem dL_law_1032 : decode cL_law 1032 = .ok (.if_icmp .eq 143, 3) := by decide +kernel
theorem dL_law_1035 : decode cL_law 1035 = .ok (.iconst 0, 1) := by decide +kernel
theorem dL_law_1036 : decode cL_law 1036 = .ok (.ireturn, 1) := by decide +kernel
theorem dL_law_1037 : decode cL_law 1037 = .ok (.aload_n 1, 1) := by decide +kernel
theorem dL_law_1038 : decode cL_law 1038 = .ok (.aload_n 0, 1) := by decide +kernel
theorem dL_law_1039 : decode cL_law 1039 = .ok (.iload_n 3, 1) := by decide +kernel
theorem dL_law_1040 : decode cL_law 1040 = .ok (.iconst 1, 1) := by decide +kernel
theorem dL_law_1041 : decode cL_law 1041 = .ok (.iadd, 1) := by decide +kernel
theorem dL_law_1042 : decode cL_law 1042 = .ok (.iaload, 1) := by decide +kernel
theorem dL_law_1043 : decode cL_law 1043 = .ok (.aload_n 0, 1) := by decide +kernel
theorem dL_law_1044 : decode cL_law 1044 = .ok (.iload_n 3, 1) := by decide +kernel
theorem dL_law_1045 : decode cL_law 1045 = .ok (.iconst 2, 1) := by decide +kernel
theorem dL_law_1046 : decode cL_law 1046 = .ok (.iadd, 1) := by decide +kernel
theorem dL_law_1047 : decode cL_law 1047 = .ok (.iaload, 1) := by decide +kernel
theorem dL_law_1048 : decode cL_law 1048 = .ok (.invokevirtual 135, 3) := by decide +kernel
theorem dL_law_1051 : decode cL_law 1051 = .ok (.aload_n 2, 1) := by decide +kernel
theorem dL_law_1052 : decode cL_law 1052 = .ok (.aload_n 0, 1) := by decide +kernel
theorem dL_law_1053 : decode cL_law 1053 = .ok (.iload_n 3, 1) := by decide +kernel
theorem dL_law_1054 : decode cL_law 1054 = .ok (.iconst 1, 1) := by decide +kernel
theorem dL_law_1055 : decode cL_law 1055 = .ok (.iadd, 1) := by decide +kernel
theorem dL_law_1056 : decode cL_law 1056 = .ok (.iaload, 1) := by decide +kernel
theorem dL_law_1057 : decode cL_law 1057 = .ok (.aload_n 0, 1) := by decide +kernel
theorem dL_law_1058 : decode cL_law 1058 = .ok (.iload_n 3, 1) := by decide +kernel
theorem dL_law_1059 : decode cL_law 1059 = .ok (.iconst 2, 1) := by decide +kernel
theorem dL_law_1060 : decode cL_law 1060 = .ok (.iadd, 1) := by decide +kernel
theorem dL_law_1061 : decode cL_law 1061 = .ok (.iaload, 1) := by decide +kernel
theorem dL_law_1062 : decode cL_law 1062 = .ok (.invokevirtual 138, 3) := by decide +kernel
theorem dL_law_1065 : decode cL_law 1065 = .ok (.if_icmp .eq 110, 3) := by decide +kernel
theorem dL_law_1068 : decode cL_law 1068 = .ok (.iconst 0, 1) := by decide +kernel
theorem dL_law_1069 : decode cL_law 1069 = .ok (.ireturn, 1) := by decide +kernel
theorem dL_law_1070 : decode cL_law 1070 = .ok (.aload_n 1, 1) := by decide +kernel
theorem dL_law_1071 : decode cL_law 1071 = .ok (.aload_n 0, 1) := by decide +kernel
theorem dL_law_1072 : decode cL_law 1072 = .ok (.iload_n 3, 1) := by decide +kernel
theorem dL_law_1073 : decode cL_law 1073 = .ok (.iconst 1, 1) := by decide +kernel
theorem dL_law_1074 : decode cL_law 1074 = .ok (.iadd, 1) := by decide +kernel
theorem dL_law_1075 : decode cL_law 1075 = .ok (.iaload, 1) := by decide +kernel
theorem dL_law_1076 : decode cL_law 1076 = .ok (.aload_n 0, 1) := by decide +kernel
theorem dL_law_1077 : decode cL_law 1077 = .ok (.iload_n 3, 1) := by decide +kernel
theorem dL_law_1078 : decode cL_law 1078 = .ok (.iconst 2, 1) := by decide +kernel
theorem dL_law_1079 : decode cL_law 1079 = .ok (.iadd, 1) := by decide +kernel
theorem dL_law_1080 : decode cL_law 1080 = .ok (.iaload, 1) := by decide +kernel
theorem dL_law_1081 : decode cL_law 1081 = .ok (.invokevirtual 139, 3) := by decide +kernel
theorem dL_law_1084 : decode cL_law 1084 = .ok (.aload_n 2, 1) := by decide +kernel
theorem dL_law_1085 : decode cL_law 1085 = .ok (.aload_n 0, 1) := by decide +kernel
theorem dL_law_1086 : decode cL_law 1086 = .ok (.iload_n 3, 1) := by decide +kernel
theorem dL_law_1087 : decode cL_law 1087 = .ok (.iconst 1, 1) := by decide +kernel
theorem dL_law_1088 : decode cL_law 1088 = .ok (.iadd, 1) := by decide +kernel
theorem dL_law_1089 : decode cL_law 1089 = .ok (.iaload, 1) := by decide +kernel
theorem dL_law_1090 : decode cL_law 1090 = .ok (.aload_n 0, 1) := by decide +kernel
theorem dL_law_1091 : decode cL_law 1091 = .ok (.iload_n 3, 1) := by decide +kernel
theorem dL_law_1092 : decode cL_law 1092 = .ok (.iconst 2, 1) := by decide +kernel
theorem dL_law_1093 : decode cL_law 1093 = .ok (.iadd, 1) := by decide +kernel
theorem dL_law_1094 : decode cL_law 1094 = .ok (.iaload, 1) := by decide +kernel
theorem dL_law_1095 : decode cL_law 1095 = .ok (.invokevirtual 142, 3) := by decide +kernel
theorem dL_law_1098 : decode cL_law 1098 = .ok (.if_icmp .eq 77, 3) := by decide +kernel
theorem dL_law_1101 : decode cL_law 1101 = .ok (.iconst 0, 1) := by decide +kernel
theorem dL_law_1102 : decode cL_law 1102 = .ok (.ireturn, 1) := by decide +kernel
theorem dL_law_1103 : decode cL_law 1103 = .ok (.aload_n 1, 1) := by decide +kernel
theorem dL_law_1104 : decode cL_law 1104 = .ok (.aload_n 0, 1) := by decide +kernel
theorem dL_law_1105 : decode cL_law 1105 = .ok (.iload_n 3, 1) := by decide +kernel
theorem dL_law_1106 : decode cL_law 1106 = .ok (.iconst 1, 1) := by decide +kernel
theorem dL_law_1107 : decode cL_law 1107 = .ok (.iadd, 1) := by decide +kernel
theorem dL_law_1108 : decode cL_law 1108 = .ok (.iaload, 1) := by decide +kernel
theorem dL_law_1109 : decode cL_law 1109 = .ok (.invokevirtual 143, 3) := by decide +kernel
theorem dL_law_1112 : decode cL_law 1112 = .ok (.aload_n 2, 1) := by decide +kernel
theorem dL_law_1113 : decode cL_law 1113 = .ok (.aload_n 0, 1) := by decide +kernel
theorem dL_law_1114 : decode cL_law 1114 = .ok (.iload_n 3, 1) := by decide +kernel
theorem dL_law_1115 : decode cL_law 1115 = .ok (.iconst 1, 1) := by decide +kernel
theorem dL_law_1116 : decode cL_law 1116 = .ok (.iadd, 1) := by decide +kernel
theorem dL_law_1117 : decode cL_law 1117 = .ok (.iaload, 1) := by decide +kernel
theorem dL_law_1118 : decode cL_law 1118 = .ok (.invokevirtual 146, 3) := by decide +kernel
theorem dL_law_1121 : decode cL_law 1121 = .ok (.if_icmp .eq 54, 3) := by decide +kernel
theorem dL_law_1124 : decode cL_law 1124 = .ok (.iconst 0, 1) := by decide +kernel
theorem dL_law_1125 : decode cL_law 1125 = .ok (.ireturn, 1) := by decide +kernel
theorem dL_law_1126 : decode cL_law 1126 = .ok (.aload_n 1, 1) := by decide +kernel
theorem dL_law_1127 : decode cL_law 1127 = .ok (.invokevirtual 147, 3) := by decide +kernel
theorem dL_law_1130 : decode cL_law 1130 = .ok (.aload_n 2, 1) := by decide +kernel
theorem dL_law_1131 : decode cL_law 1131 = .ok (.invokevirtual 150, 3) := by decide +kernel
theorem dL_law_1134 : decode cL_law 1134 = .ok (.if_icmp .eq 41, 3) := by decide +kernel
theorem dL_law_1137 : decode cL_law 1137 = .ok (.iconst 0, 1) := by decide +kernel
theorem dL_law_1138 : decode cL_law 1138 = .ok (.ireturn, 1) := by decide +kernel
theorem dL_law_1139 : decode cL_law 1139 = .ok (.aload_n 1, 1) := by decide +kernel
theorem dL_law_1140 : decode cL_law 1140 = .ok (.aload_n 0, 1) := by decide +kernel
theorem dL_law_1141 : decode cL_law 1141 = .ok (.iload_n 3, 1) := by decide +kernel
theorem dL_law_1142 : decode cL_law 1142 = .ok (.iconst 1, 1) := by decide +kernel
theorem dL_law_1143 : decode cL_law 1143 = .ok (.iadd, 1) := by decide +kernel
theorem dL_law_1144 : decode cL_law 1144 = .ok (.iaload, 1) := by decide +kernel
theorem dL_law_1145 : decode cL_law 1145 = .ok (.invokevirtual 151, 3) := by decide +kernel
theorem dL_law_1148 : decode cL_law 1148 = .ok (.aload_n 2, 1) := by decide +kernel
theorem dL_law_1149 : decode cL_law 1149 = .ok (.aload_n 0, 1) := by decide +kernel
theorem dL_law_1150 : decode cL_law 1150 = .ok (.iload_n 3, 1) := by decide +kernel
theorem dL_law_1151 : decode cL_law 1151 = .ok (.iconst 1, 1) := by decide +kernel
theorem dL_law_1152 : decode cL_law 1152 = .ok (.iadd, 1) := by decide +kernel
theorem dL_law_1153 : decode cL_law 1153 = .ok (.iaload, 1) := by decide +kernel
theorem dL_law_1154 : decode cL_law 1154 = .ok (.invokevirtual 154, 3) := by decide +kernel
theorem dL_law_1157 : decode cL_law 1157 = .ok (.if_icmp .eq 18, 3) := by decide +kernel
theorem dL_law_1160 : decode cL_law 1160 = .ok (.iconst 0, 1) := by decide +kernel
theorem dL_law_1161 : decode cL_law 1161 = .ok (.ireturn, 1) := by decide +kernel
theorem dL_law_1162 : decode cL_law 1162 = .ok (.aload_n 1, 1) := by decide +kernel
theorem dL_law_1163 : decode cL_law 1163 = .ok (.invokevirtual 155, 3) := by decide +kernel
theorem dL_law_1166 : decode cL_law 1166 = .ok (.aload_n 2, 1) := by decide +kernel
theorem dL_law_1167 : decode cL_law 1167 = .ok (.invokevirtual 158, 3) := by decide +kernel
theorem dL_law_1170 : decode cL_law 1170 = .ok (.if_icmp .eq 5, 3) := by decide +kernel
theorem dL_law_1173 : decode cL_law 1173 = .ok (.iconst 0, 1) := by decide +kernel
theorem dL_law_1174 : decode cL_law 1174 = .ok (.ireturn, 1) := by decide +kernel
theorem dL_law_1175 : decode cL_law 1175 = .ok (.iinc 3 5, 3) := by decide +kernel
theorem dL_law_1178 : decode cL_law 1178 = .ok (.goto (-1160), 3) := by decide +kernel
theorem dL_law_1181 : decode cL_law 1181 = .ok (.iconst 1, 1) := by decide +kernel
theorem dL_law_1182 : decode cL_law 1182 = .ok (.ireturn, 1) := by decide +kernel
set_option maxRecDepth 20000 in
theorem wk_L_7 : Cond.classLink RL 7 RX7 ∈ zB := List.mem_filter.mpr ⟨List.mem_of_getElem? (i := 72) (by decide +kernel), by decide +kernel⟩
set_option maxRecDepth 20000 in
theorem wa_X7 : Cond.instantiable RX7 6 ∈ zB := List.mem_filter.mpr ⟨List.mem_of_getElem? (i := 73) (by decide +kernel), by decide +kernel⟩
set_option maxRecDepth 20000 in
theorem wc_X7_init : Cond.code yX7_init cX7_init 2 none ∈ zB := List.mem_filter.mpr ⟨List.mem_of_getElem? (i := 76) (by decide +kernel), by decide +kernel⟩
set_option maxRecDepth 20000 in
theorem wm_L_9 : Cond.methodLink RL 9 yX7_init ∈ zB := List.mem_filter.mpr ⟨List.mem_of_getElem? (i := 74) (by decide +kernel), by decide +kernel⟩
theorem k_L_9 : zCal RL 9 yX7_init cX7_init 2 none 0 := ⟨wm_L_9, wi_X7, wc_X7_init, by decide +kernel, by decide +kernel, by decide +kernel⟩
set_option maxRecDepth 20000 in
theorem wn_X7_init : Cond.instanceMethod yX7_init ∈ zB := List.mem_filter.mpr ⟨List.mem_of_getElem? (i := 75) (by decide +kernel), by decide +kernel⟩
set_option maxRecDepth 20000 in
theorem wk_L_10 : Cond.classLink RL 10 RX8 ∈ zB := List.mem_filter.mpr ⟨List.mem_of_getElem? (i := 793) (by decide +kernel), by decide +kernel⟩
set_option maxRecDepth 20000 in
theorem wa_X8 : Cond.instantiable RX8 12 ∈ zB := List.mem_filter.mpr ⟨List.mem_of_getElem? (i := 794) (by decide +kernel), by decide +kernel⟩
set_option maxRecDepth 20000 in
theorem wc_X8_init : Cond.code yX8_init cX8_init 1 none ∈ zB := List.mem_filter.mpr ⟨List.mem_of_getElem? (i := 797) (by decide +kernel), by decide +kernel⟩
set_option maxRecDepth 20000 in
theorem wm_L_12 : Cond.methodLink RL 12 yX8_init ∈ zB := List.mem_filter.mpr ⟨List.mem_of_getElem? (i := 795) (by decide +kernel), by decide +kernel⟩
theorem k_L_12 : zCal RL 12 yX8_init cX8_init 1 none 0 := ⟨wm_L_12, wi_X8, wc_X8_init, by decide +kernel, by decide +kernel, by decide +kernel⟩
set_option maxRecDepth 20000 in
theorem wn_X8_init : Cond.instanceMethod yX8_init ∈ zB := List.mem_filter.mpr ⟨List.mem_of_getElem? (i := 796) (by decide +kernel), by decide +kernel⟩
set_option maxRecDepth 20000 in
theorem wc_X7_sailing : Cond.code yX7_sailing cX7_sailing 6 (some .int) ∈ zB := List.mem_filter.mpr ⟨List.mem_of_getElem? (i := 305) (by decide +kernel), by decide +kernel⟩
set_option maxRecDepth 20000 in
theorem wm_L_13 : Cond.methodLink RL 13 yX7_sailing ∈ zB := List.mem_filter.mpr ⟨List.mem_of_getElem? (i := 302) (by decide +kernel), by decide +kernel⟩
theorem k_L_13 : zCal RL 13 yX7_sailing cX7_sailing 6 (some .int) 4 := ⟨wm_L_13, wi_X7, wc_X7_sailing, by decide +kernel, by decide +kernel, by decide +kernel⟩
set_option maxRecDepth 20000 in
theorem wn_X7_sailing : Cond.instanceMethod yX7_sailing ∈ zB := List.mem_filter.mpr ⟨List.mem_of_getElem? (i := 303) (by decide +kernel), by decide +kernel⟩
set_option maxRecDepth 20000 in
theorem ws_X7_sailing : Cond.selects RX7 yX7_sailing yX7_sailing ∈ zB := List.mem_filter.mpr ⟨List.mem_of_getElem? (i := 304) (by decide +kernel), by decide +kernel⟩
theorem v_X7_sailing : zVir yX7_sailing 7 := ⟨wn_X7_sailing, ws_X7_sailing, TX7, 6, rfl⟩
set_option maxRecDepth 20000 in
theorem wc_X8_sailing : Cond.code yX8_sailing cX8_sailing 6 (some .int) ∈ zB := List.mem_filter.mpr ⟨List.mem_of_getElem? (i := 839) (by decide +kernel), by decide +kernel⟩
set_option maxRecDepth 20000 in
theorem wm_L_17 : Cond.methodLink RL 17 yX8_sailing ∈ zB := List.mem_filter.mpr ⟨List.mem_of_getElem? (i := 836) (by decide +kernel), by decide +kernel⟩
theorem k_L_17 : zCal RL 17 yX8_sailing cX8_sailing 6 (some .int) 4 := ⟨wm_L_17, wi_X8, wc_X8_sailing, by decide +kernel, by decide +kernel, by decide +kernel⟩
set_option maxRecDepth 20000 in
theorem wn_X8_sailing : Cond.instanceMethod yX8_sailing ∈ zB := List.mem_filter.mpr ⟨List.mem_of_getElem? (i := 837) (by decide +kernel), by decide +kernel⟩
set_option maxRecDepth 20000 in
theorem ws_X8_sailing : Cond.selects RX8 yX8_sailing yX8_sailing ∈ zB := List.mem_filter.mpr ⟨List.mem_of_getElem? (i := 838) (by decide +kernel), by decide +kernel⟩
theorem v_X8_sailing : zVir yX8_sailing 8 := ⟨wn_X8_sailing, ws_X8_sailing, TX8, 12, rfl⟩
set_option maxRecDepth 20000 in
theorem wc_X7_sailings : Cond.code yX7_sailings cX7_sailings 3 (some .int) ∈ zB := List.mem_filter.mpr ⟨List.mem_of_getElem? (i := 363) (by decide +kernel), by decide +kernel⟩
set_option maxRecDepth 20000 in
theorem wm_L_18 : Cond.methodLink RL 18 yX7_sailings ∈ zB := List.mem_filter.mpr ⟨List.mem_of_getElem? (i := 360) (by decide +kernel), by decide +kernel⟩
theorem k_L_18 : zCal RL 18 yX7_sailings cX7_sailings 3 (some .int) 0 := ⟨wm_L_18, wi_X7, wc_X7_sailings, by decide +kernel, by decide +kernel, by decide +kernel⟩
set_option maxRecDepth 20000 in
theorem wn_X7_sailings : Cond.instanceMethod yX7_sailings ∈ zB := List.mem_filter.mpr ⟨List.mem_of_getElem? (i := 361) (by decide +kernel), by decide +kernel⟩
set_option maxRecDepth 20000 in
theorem ws_X7_sailings : Cond.selects RX7 yX7_sailings yX7_sailings ∈ zB := List.mem_filter.mpr ⟨List.mem_of_getElem? (i := 362) (by decide +kernel), by decide +kernel⟩
theorem v_X7_sailings : zVir yX7_sailings 7 := ⟨wn_X7_sailings, ws_X7_sailings, TX7, 6, rfl⟩
set_option maxRecDepth 20000 in
theorem wc_X8_sailings : Cond.code yX8_sailings cX8_sailings 4 (some .int) ∈ zB := List.mem_filter.mpr ⟨List.mem_of_getElem? (i := 880) (by decide +kernel), by decide +kernel⟩
set_option maxRecDepth 20000 in
theorem wm_L_22 : Cond.methodLink RL 22 yX8_sailings ∈ zB := List.mem_filter.mpr ⟨List.mem_of_getElem? (i := 877) (by decide +kernel), by decide +kernel⟩
theorem k_L_22 : zCal RL 22 yX8_sailings cX8_sailings 4 (some .int) 0 := ⟨wm_L_22, wi_X8, wc_X8_sailings, by decide +kernel, by decide +kernel, by decide +kernel⟩
set_option maxRecDepth 20000 in
theorem wn_X8_sailings : Cond.instanceMethod yX8_sailings ∈ zB := List.mem_filter.mpr ⟨List.mem_of_getElem? (i := 878) (by decide +kernel), by decide +kernel⟩
set_option maxRecDepth 20000 in
theorem ws_X8_sailings : Cond.selects RX8 yX8_sailings yX8_sailings ∈ zB := List.mem_filter.mpr ⟨List.mem_of_getElem? (i := 879) (by decide +kernel), by decide +kernel⟩
theorem v_X8_sailings : zVir yX8_sailings 8 := ⟨wn_X8_sailings, ws_X8_sailings, TX8, 12, rfl⟩
set_option maxRecDepth 20000 in
theorem wc_X7_cancel : Cond.code yX7_cancel cX7_cancel 3 (some .int) ∈ zB := List.mem_filter.mpr ⟨List.mem_of_getElem? (i := 397) (by decide +kernel), by decide +kernel⟩
set_option maxRecDepth 20000 in
theorem wm_L_23 : Cond.methodLink RL 23 yX7_cancel ∈ zB := List.mem_filter.mpr ⟨List.mem_of_getElem? (i := 394) (by decide +kernel), by decide +kernel⟩
theorem k_L_23 : zCal RL 23 yX7_cancel cX7_cancel 3 (some .int) 1 := ⟨wm_L_23, wi_X7, wc_X7_cancel, by decide +kernel, by decide +kernel, by decide +kernel⟩
set_option maxRecDepth 20000 in
theorem wn_X7_cancel : Cond.instanceMethod yX7_cancel ∈ zB := List.mem_filter.mpr ⟨List.mem_of_getElem? (i := 395) (by decide +kernel), by decide +kernel⟩
set_option maxRecDepth 20000 in
theorem ws_X7_cancel : Cond.selects RX7 yX7_cancel yX7_cancel ∈ zB := List.mem_filter.mpr ⟨List.mem_of_getElem? (i := 396) (by decide +kernel), by decide +kernel⟩
theorem v_X7_cancel : zVir yX7_cancel 7 := ⟨wn_X7_cancel, ws_X7_cancel, TX7, 6, rfl⟩
set_option maxRecDepth 20000 in
theorem wc_X8_cancel : Cond.code yX8_cancel cX8_cancel 3 (some .int) ∈ zB := List.mem_filter.mpr ⟨List.mem_of_getElem? (i := 912) (by decide +kernel), by decide +kernel⟩
set_option maxRecDepth 20000 in
theorem wm_L_27 : Cond.methodLink RL 27 yX8_cancel ∈ zB := List.mem_filter.mpr ⟨List.mem_of_getElem? (i := 909) (by decide +kernel), by decide +kernel⟩
theorem k_L_27 : zCal RL 27 yX8_cancel cX8_cancel 3 (some .int) 1 := ⟨wm_L_27, wi_X8, wc_X8_cancel, by decide +kernel, by decide +kernel, by decide +kernel⟩
set_option maxRecDepth 20000 in
theorem wn_X8_cancel : Cond.instanceMethod yX8_cancel ∈ zB := List.mem_filter.mpr ⟨List.mem_of_getElem? (i := 910) (by decide +kernel), by decide +kernel⟩
set_option maxRecDepth 20000 in
theorem ws_X8_cancel : Cond.selects RX8 yX8_cancel yX8_cancel ∈ zB := List.mem_filter.mpr ⟨List.mem_of_getElem? (i := 911) (by decide +kernel), by decide +kernel⟩
theorem v_X8_cancel : zVir yX8_cancel 8 := ⟨wn_X8_cancel, ws_X8_cancel, TX8, 12, rfl⟩
set_option maxRecDepth 20000 in
theorem wc_X7_member : Cond.code yX7_member cX7_member 3 (some .int) ∈ zB := List.mem_filter.mpr ⟨List.mem_of_getElem? (i := 421) (by decide +kernel), by decide +kernel⟩
set_option maxRecDepth 20000 in
theorem wm_L_28 : Cond.methodLink RL 28 yX7_member ∈ zB := List.mem_filter.mpr ⟨List.mem_of_getElem? (i := 418) (by decide +kernel), by decide +kernel⟩
theorem k_L_28 : zCal RL 28 yX7_member cX7_member 3 (some .int) 2 := ⟨wm_L_28, wi_X7, wc_X7_member, by decide +kernel, by decide +kernel, by decide +kernel⟩
set_option maxRecDepth 20000 in
theorem wn_X7_member : Cond.instanceMethod yX7_member ∈ zB := List.mem_filter.mpr ⟨List.mem_of_getElem? (i := 419) (by decide +kernel), by decide +kernel⟩
set_option maxRecDepth 20000 in
theorem ws_X7_member : Cond.selects RX7 yX7_member yX7_member ∈ zB := List.mem_filter.mpr ⟨List.mem_of_getElem? (i := 420) (by decide +kernel), by decide +kernel⟩
theorem v_X7_member : zVir yX7_member 7 := ⟨wn_X7_member, ws_X7_member, TX7, 6, rfl⟩
set_option maxRecDepth 20000 in
theorem wc_X8_member : Cond.code yX8_member cX8_member 4 (some .int) ∈ zB := List.mem_filter.mpr ⟨List.mem_of_getElem? (i := 944) (by decide +kernel), by decide +kernel⟩
set_option maxRecDepth 20000 in
theorem wm_L_32 : Cond.methodLink RL 32 yX8_member ∈ zB := List.mem_filter.mpr ⟨List.mem_of_getElem? (i := 941) (by decide +kernel), by decide +kernel⟩
theorem k_L_32 : zCal RL 32 yX8_member cX8_member 4 (some .int) 2 := ⟨wm_L_32, wi_X8, wc_X8_member, by decide +kernel, by decide +kernel, by decide +kernel⟩
set_option maxRecDepth 20000 in
theorem wn_X8_member : Cond.instanceMethod yX8_member ∈ zB := List.mem_filter.mpr ⟨List.mem_of_getElem? (i := 942) (by decide +kernel), by decide +kernel⟩
set_option maxRecDepth 20000 in
theorem ws_X8_member : Cond.selects RX8 yX8_member yX8_member ∈ zB := List.mem_filter.mpr ⟨List.mem_of_getElem? (i := 943) (by decide +kernel), by decide +kernel⟩
theorem v_X8_member : zVir yX8_member 8 := ⟨wn_X8_member, ws_X8_member, TX8, 12, rfl⟩
set_option maxRecDepth 20000 in
theorem wc_X7_certify : Cond.code yX7_certify cX7_certify 5 (some .int) ∈ zB := List.mem_filter.mpr ⟨List.mem_of_getElem? (i := 454) (by decide +kernel), by decide +kernel⟩
set_option maxRecDepth 20000 in
theorem wm_L_33 : Cond.methodLink RL 33 yX7_certify ∈ zB := List.mem_filter.mpr ⟨List.mem_of_getElem? (i := 451) (by decide +kernel), by decide +kernel⟩
theorem k_L_33 : zCal RL 33 yX7_certify cX7_certify 5 (some .int) 3 := ⟨wm_L_33, wi_X7, wc_X7_certify, by decide +kernel, by decide +kernel, by decide +kernel⟩
set_option maxRecDepth 20000 in
theorem wn_X7_certify : Cond.instanceMethod yX7_certify ∈ zB := List.mem_filter.mpr ⟨List.mem_of_getElem? (i := 452) (by decide +kernel), by decide +kernel⟩
set_option maxRecDepth 20000 in
theorem ws_X7_certify : Cond.selects RX7 yX7_certify yX7_certify ∈ zB := List.mem_filter.mpr ⟨List.mem_of_getElem? (i := 453) (by decide +kernel), by decide +kernel⟩
theorem v_X7_certify : zVir yX7_certify 7 := ⟨wn_X7_certify, ws_X7_certify, TX7, 6, rfl⟩
set_option maxRecDepth 20000 in
theorem wc_X8_certify : Cond.code yX8_certify cX8_certify 5 (some .int) ∈ zB := List.mem_filter.mpr ⟨List.mem_of_getElem? (i := 955) (by decide +kernel), by decide +kernel⟩
set_option maxRecDepth 20000 in
theorem wm_L_37 : Cond.methodLink RL 37 yX8_certify ∈ zB := List.mem_filter.mpr ⟨List.mem_of_getElem? (i := 952) (by decide +kernel), by decide +kernel⟩
theorem k_L_37 : zCal RL 37 yX8_certify cX8_certify 5 (some .int) 3 := ⟨wm_L_37, wi_X8, wc_X8_certify, by decide +kernel, by decide +kernel, by decide +kernel⟩
set_option maxRecDepth 20000 in
theorem wn_X8_certify : Cond.instanceMethod yX8_certify ∈ zB := List.mem_filter.mpr ⟨List.mem_of_getElem? (i := 953) (by decide +kernel), by decide +kernel⟩
set_option maxRecDepth 20000 in
theorem ws_X8_certify : Cond.selects RX8 yX8_certify yX8_certify ∈ zB := List.mem_filter.mpr ⟨List.mem_of_getElem? (i := 954) (by decide +kernel), by decide +kernel⟩
theorem v_X8_certify : zVir yX8_certify 8 := ⟨wn_X8_certify, ws_X8_certify, TX8, 12, rfl⟩
set_option maxRecDepth 20000 in
theorem wc_X7_climb : Cond.code yX7_climb cX7_climb 4 (some .int) ∈ zB := List.mem_filter.mpr ⟨List.mem_of_getElem? (i := 473) (by decide +kernel), by decide +kernel⟩
set_option maxRecDepth 20000 in
theorem wm_L_38 : Cond.methodLink RL 38 yX7_climb ∈ zB := List.mem_filter.mpr ⟨List.mem_of_getElem? (i := 470) (by decide +kernel), by decide +kernel⟩
theorem k_L_38 : zCal RL 38 yX7_climb cX7_climb 4 (some .int) 2 := ⟨wm_L_38, wi_X7, wc_X7_climb, by decide +kernel, by decide +kernel, by decide +kernel⟩
set_option maxRecDepth 20000 in
theorem wn_X7_climb : Cond.instanceMethod yX7_climb ∈ zB := List.mem_filter.mpr ⟨List.mem_of_getElem? (i := 471) (by decide +kernel), by decide +kernel⟩
set_option maxRecDepth 20000 in
theorem ws_X7_climb : Cond.selects RX7 yX7_climb yX7_climb ∈ zB := List.mem_filter.mpr ⟨List.mem_of_getElem? (i := 472) (by decide +kernel), by decide +kernel⟩
theorem v_X7_climb : zVir yX7_climb 7 := ⟨wn_X7_climb, ws_X7_climb, TX7, 6, rfl⟩
set_option maxRecDepth 20000 in
theorem wc_X8_climb : Cond.code yX8_climb cX8_climb 4 (some .int) ∈ zB := List.mem_filter.mpr ⟨List.mem_of_getElem? (i := 967) (by decide +kernel), by decide +kernel⟩
set_option maxRecDepth 20000 in
theorem wm_L_41 : Cond.methodLink RL 41 yX8_climb ∈ zB := List.mem_filter.mpr ⟨List.mem_of_getElem? (i := 964) (by decide +kernel), by decide +kernel⟩
theorem k_L_41 : zCal RL 41 yX8_climb cX8_climb 4 (some .int) 2 := ⟨wm_L_41, wi_X8, wc_X8_climb, by decide +kernel, by decide +kernel, by decide +kernel⟩
set_option maxRecDepth 20000 in
theorem wn_X8_climb : Cond.instanceMethod yX8_climb ∈ zB := List.mem_filter.mpr ⟨List.mem_of_getElem? (i := 965) (by decide +kernel), by decide +kernel⟩
set_option maxRecDepth 20000 in
theorem ws_X8_climb : Cond.selects RX8 yX8_climb yX8_climb ∈ zB := List.mem_filter.mpr ⟨List.mem_of_getElem? (i := 966) (by decide +kernel), by decide +kernel⟩
theorem v_X8_climb : zVir yX8_climb 8 := ⟨wn_X8_climb, ws_X8_climb, TX8, 12, rfl⟩
set_option maxRecDepth 20000 in
theorem wc_X7_leave : Cond.code yX7_leave cX7_leave 4 (some .int) ∈ zB := List.mem_filter.mpr ⟨List.mem_of_getElem? (i := 482) (by decide +kernel), by decide +kernel⟩
set_option maxRecDepth 20000 in
theorem wm_L_42 : Cond.methodLink RL 42 yX7_leave ∈ zB := List.mem_filter.mpr ⟨List.mem_of_getElem? (i := 479) (by decide +kernel), by decide +kernel⟩
theorem k_L_42 : zCal RL 42 yX7_leave cX7_leave 4 (some .int) 2 := ⟨wm_L_42, wi_X7, wc_X7_leave, by decide +kernel, by decide +kernel, by decide +kernel⟩
set_option maxRecDepth 20000 in
theorem wn_X7_leave : Cond.instanceMethod yX7_leave ∈ zB := List.mem_filter.mpr ⟨List.mem_of_getElem? (i := 480) (by decide +kernel), by decide +kernel⟩
set_option maxRecDepth 20000 in
theorem ws_X7_leave : Cond.selects RX7 yX7_leave yX7_leave ∈ zB := List.mem_filter.mpr ⟨List.mem_of_getElem? (i := 481) (by decide +kernel), by decide +kernel⟩
theorem v_X7_leave : zVir yX7_leave 7 := ⟨wn_X7_leave, ws_X7_leave, TX7, 6, rfl⟩
set_option maxRecDepth 20000 in
theorem wc_X8_leave : Cond.code yX8_leave cX8_leave 4 (some .int) ∈ zB := List.mem_filter.mpr ⟨List.mem_of_getElem? (i := 979) (by decide +kernel), by decide +kernel⟩
set_option maxRecDepth 20000 in
theorem wm_L_45 : Cond.methodLink RL 45 yX8_leave ∈ zB := List.mem_filter.mpr ⟨List.mem_of_getElem? (i := 976) (by decide +kernel), by decide +kernel⟩
theorem k_L_45 : zCal RL 45 yX8_leave cX8_leave 4 (some .int) 2 := ⟨wm_L_45, wi_X8, wc_X8_leave, by decide +kernel, by decide +kernel, by decide +kernel⟩
set_option maxRecDepth 20000 in
theorem wn_X8_leave : Cond.instanceMethod yX8_leave ∈ zB := List.mem_filter.mpr ⟨List.mem_of_getElem? (i := 977) (by decide +kernel), by decide +kernel⟩
set_option maxRecDepth 20000 in
theorem ws_X8_leave : Cond.selects RX8 yX8_leave yX8_leave ∈ zB := List.mem_filter.mpr ⟨List.mem_of_getElem? (i := 978) (by decide +kernel), by decide +kernel⟩
theorem v_X8_leave : zVir yX8_leave 8 := ⟨wn_X8_leave, ws_X8_leave, TX8, 12, rfl⟩
set_option maxRecDepth 20000 in
theorem wc_X7_sick : Cond.code yX7_sick cX7_sick 3 (some .int) ∈ zB := List.mem_filter.mpr ⟨List.mem_of_getElem? (i := 495) (by decide +kernel), by decide +kernel⟩
set_option maxRecDepth 20000 in
theorem wm_L_46 : Cond.methodLink RL 46 yX7_sick ∈ zB := List.mem_filter.mpr ⟨List.mem_of_getElem? (i := 492) (by decide +kernel), by decide +kernel⟩
theorem k_L_46 : zCal RL 46 yX7_sick cX7_sick 3 (some .int) 2 := ⟨wm_L_46, wi_X7, wc_X7_sick, by decide +kernel, by decide +kernel, by decide +kernel⟩
set_option maxRecDepth 20000 in
theorem wn_X7_sick : Cond.instanceMethod yX7_sick ∈ zB := List.mem_filter.mpr ⟨List.mem_of_getElem? (i := 493) (by decide +kernel), by decide +kernel⟩
set_option maxRecDepth 20000 in
theorem ws_X7_sick : Cond.selects RX7 yX7_sick yX7_sick ∈ zB := List.mem_filter.mpr ⟨List.mem_of_getElem? (i := 494) (by decide +kernel), by decide +kernel⟩
theorem v_X7_sick : zVir yX7_sick 7 := ⟨wn_X7_sick, ws_X7_sick, TX7, 6, rfl⟩
set_option maxRecDepth 20000 in
theorem wc_X8_sick : Cond.code yX8_sick cX8_sick 3 (some .int) ∈ zB := List.mem_filter.mpr ⟨List.mem_of_getElem? (i := 983) (by decide +kernel), by decide +kernel⟩
set_option maxRecDepth 20000 in
theorem wm_L_49 : Cond.methodLink RL 49 yX8_sick ∈ zB := List.mem_filter.mpr ⟨List.mem_of_getElem? (i := 980) (by decide +kernel), by decide +kernel⟩
theorem k_L_49 : zCal RL 49 yX8_sick cX8_sick 3 (some .int) 2 := ⟨wm_L_49, wi_X8, wc_X8_sick, by decide +kernel, by decide +kernel, by decide +kernel⟩
set_option maxRecDepth 20000 in
theorem wn_X8_sick : Cond.instanceMethod yX8_sick ∈ zB := List.mem_filter.mpr ⟨List.mem_of_getElem? (i := 981) (by decide +kernel), by decide +kernel⟩
set_option maxRecDepth 20000 in
theorem ws_X8_sick : Cond.selects RX8 yX8_sick yX8_sick ∈ zB := List.mem_filter.mpr ⟨List.mem_of_getElem? (i := 982) (by decide +kernel), by decide +kernel⟩
theorem v_X8_sick : zVir yX8_sick 8 := ⟨wn_X8_sick, ws_X8_sick, TX8, 12, rfl⟩
set_option maxRecDepth 20000 in
theorem wc_X7_well : Cond.code yX7_well cX7_well 4 (some .int) ∈ zB := List.mem_filter.mpr ⟨List.mem_of_getElem? (i := 577) (by decide +kernel), by decide +kernel⟩
set_option maxRecDepth 20000 in
theorem wm_L_50 : Cond.methodLink RL 50 yX7_well ∈ zB := List.mem_filter.mpr ⟨List.mem_of_getElem? (i := 574) (by decide +kernel), by decide +kernel⟩
theorem k_L_50 : zCal RL 50 yX7_well cX7_well 4 (some .int) 1 := ⟨wm_L_50, wi_X7, wc_X7_well, by decide +kernel, by decide +kernel, by decide +kernel⟩
set_option maxRecDepth 20000 in
theorem wn_X7_well : Cond.instanceMethod yX7_well ∈ zB := List.mem_filter.mpr ⟨List.mem_of_getElem? (i := 575) (by decide +kernel), by decide +kernel⟩
set_option maxRecDepth 20000 in
theorem ws_X7_well : Cond.selects RX7 yX7_well yX7_well ∈ zB := List.mem_filter.mpr ⟨List.mem_of_getElem? (i := 576) (by decide +kernel), by decide +kernel⟩
theorem v_X7_well : zVir yX7_well 7 := ⟨wn_X7_well, ws_X7_well, TX7, 6, rfl⟩
set_option maxRecDepth 20000 in
theorem wc_X8_well : Cond.code yX8_well cX8_well 3 (some .int) ∈ zB := List.mem_filter.mpr ⟨List.mem_of_getElem? (i := 1031) (by decide +kernel), by decide +kernel⟩
set_option maxRecDepth 20000 in
theorem wm_L_53 : Cond.methodLink RL 53 yX8_well ∈ zB := List.mem_filter.mpr ⟨List.mem_of_getElem? (i := 1028) (by decide +kernel), by decide +kernel⟩
theorem k_L_53 : zCal RL 53 yX8_well cX8_well 3 (some .int) 1 := ⟨wm_L_53, wi_X8, wc_X8_well, by decide +kernel, by decide +kernel, by decide +kernel⟩
set_option maxRecDepth 20000 in
theorem wn_X8_well : Cond.instanceMethod yX8_well ∈ zB := List.mem_filter.mpr ⟨List.mem_of_getElem? (i := 1029) (by decide +kernel), by decide +kernel⟩
set_option maxRecDepth 20000 in
theorem ws_X8_well : Cond.selects RX8 yX8_well yX8_well ∈ zB := List.mem_filter.mpr ⟨List.mem_of_getElem? (i := 1030) (by decide +kernel), by decide +kernel⟩
theorem v_X8_well : zVir yX8_well 8 := ⟨wn_X8_well, ws_X8_well, TX8, 12, rfl⟩
set_option maxRecDepth 20000 in
theorem wc_X7_give : Cond.code yX7_give cX7_give 6 (some .int) ∈ zB := List.mem_filter.mpr ⟨List.mem_of_getElem? (i := 581) (by decide +kernel), by decide +kernel⟩
set_option maxRecDepth 20000 in
theorem wm_L_54 : Cond.methodLink RL 54 yX7_give ∈ zB := List.mem_filter.mpr ⟨List.mem_of_getElem? (i := 578) (by decide +kernel), by decide +kernel⟩
theorem k_L_54 : zCal RL 54 yX7_give cX7_give 6 (some .int) 3 := ⟨wm_L_54, wi_X7, wc_X7_give, by decide +kernel, by decide +kernel, by decide +kernel⟩
set_option maxRecDepth 20000 in
theorem wn_X7_give : Cond.instanceMethod yX7_give ∈ zB := List.mem_filter.mpr ⟨List.mem_of_getElem? (i := 579) (by decide +kernel), by decide +kernel⟩
set_option maxRecDepth 20000 in
theorem ws_X7_give : Cond.selects RX7 yX7_give yX7_give ∈ zB := List.mem_filter.mpr ⟨List.mem_of_getElem? (i := 580) (by decide +kernel), by decide +kernel⟩
theorem v_X7_give : zVir yX7_give 7 := ⟨wn_X7_give, ws_X7_give, TX7, 6, rfl⟩
set_option maxRecDepth 20000 in
theorem wc_X8_give : Cond.code yX8_give cX8_give 5 (some .int) ∈ zB := List.mem_filter.mpr ⟨List.mem_of_getElem? (i := 1035) (by decide +kernel), by decide +kernel⟩
set_option maxRecDepth 20000 in
theorem wm_L_57 : Cond.methodLink RL 57 yX8_give ∈ zB := List.mem_filter.mpr ⟨List.mem_of_getElem? (i := 1032) (by decide +kernel), by decide +kernel⟩
theorem k_L_57 : zCal RL 57 yX8_give cX8_give 5 (some .int) 3 := ⟨wm_L_57, wi_X8, wc_X8_give, by decide +kernel, by decide +kernel, by decide +kernel⟩
set_option maxRecDepth 20000 in
theorem wn_X8_give : Cond.instanceMethod yX8_give ∈ zB := List.mem_filter.mpr ⟨List.mem_of_getElem? (i := 1033) (by decide +kernel), by decide +kernel⟩
set_option maxRecDepth 20000 in
theorem ws_X8_give : Cond.selects RX8 yX8_give yX8_give ∈ zB := List.mem_filter.mpr ⟨List.mem_of_getElem? (i := 1034) (by decide +kernel), by decide +kernel⟩
theorem v_X8_give : zVir yX8_give 8 := ⟨wn_X8_give, ws_X8_give, TX8, 12, rfl⟩
set_option maxRecDepth 20000 in
theorem wc_X7_giveUp : Cond.code yX7_giveUp cX7_giveUp 4 (some .int) ∈ zB := List.mem_filter.mpr ⟨List.mem_of_getElem? (i := 587) (by decide +kernel), by decide +kernel⟩
set_option maxRecDepth 20000 in
theorem wm_L_58 : Cond.methodLink RL 58 yX7_giveUp ∈ zB := List.mem_filter.mpr ⟨List.mem_of_getElem? (i := 584) (by decide +kernel), by decide +kernel⟩
theorem k_L_58 : zCal RL 58 yX7_giveUp cX7_giveUp 4 (some .int) 2 := ⟨wm_L_58, wi_X7, wc_X7_giveUp, by decide +kernel, by decide +kernel, by decide +kernel⟩
set_option maxRecDepth 20000 in
theorem wn_X7_giveUp : Cond.instanceMethod yX7_giveUp ∈ zB := List.mem_filter.mpr ⟨List.mem_of_getElem? (i := 585) (by decide +kernel), by decide +kernel⟩
set_option maxRecDepth 20000 in
theorem ws_X7_giveUp : Cond.selects RX7 yX7_giveUp yX7_giveUp ∈ zB := List.mem_filter.mpr ⟨List.mem_of_getElem? (i := 586) (by decide +kernel), by decide +kernel⟩
theorem v_X7_giveUp : zVir yX7_giveUp 7 := ⟨wn_X7_giveUp, ws_X7_giveUp, TX7, 6, rfl⟩
set_option maxRecDepth 20000 in
theorem wc_X8_giveUp : Cond.code yX8_giveUp cX8_giveUp 4 (some .int) ∈ zB := List.mem_filter.mpr ⟨List.mem_of_getElem? (i := 1047) (by decide +kernel), by decide +kernel⟩
set_option maxRecDepth 20000 in
theorem wm_L_61 : Cond.methodLink RL 61 yX8_giveUp ∈ zB := List.mem_filter.mpr ⟨List.mem_of_getElem? (i := 1044) (by decide +kernel), by decide +kernel⟩
theorem k_L_61 : zCal RL 61 yX8_giveUp cX8_giveUp 4 (some .int) 2 := ⟨wm_L_61, wi_X8, wc_X8_giveUp, by decide +kernel, by decide +kernel, by decide +kernel⟩
set_option maxRecDepth 20000 in
theorem wn_X8_giveUp : Cond.instanceMethod yX8_giveUp ∈ zB := List.mem_filter.mpr ⟨List.mem_of_getElem? (i := 1045) (by decide +kernel), by decide +kernel⟩
set_option maxRecDepth 20000 in
theorem ws_X8_giveUp : Cond.selects RX8 yX8_giveUp yX8_giveUp ∈ zB := List.mem_filter.mpr ⟨List.mem_of_getElem? (i := 1046) (by decide +kernel), by decide +kernel⟩
theorem v_X8_giveUp : zVir yX8_giveUp 8 := ⟨wn_X8_giveUp, ws_X8_giveUp, TX8, 12, rfl⟩
set_option maxRecDepth 20000 in
theorem wc_X7_fill : Cond.code yX7_fill cX7_fill 3 (some .int) ∈ zB := List.mem_filter.mpr ⟨List.mem_of_getElem? (i := 593) (by decide +kernel), by decide +kernel⟩
set_option maxRecDepth 20000 in
theorem wm_L_62 : Cond.methodLink RL 62 yX7_fill ∈ zB := List.mem_filter.mpr ⟨List.mem_of_getElem? (i := 590) (by decide +kernel), by decide +kernel⟩
theorem k_L_62 : zCal RL 62 yX7_fill cX7_fill 3 (some .int) 1 := ⟨wm_L_62, wi_X7, wc_X7_fill, by decide +kernel, by decide +kernel, by decide +kernel⟩
set_option maxRecDepth 20000 in
theorem wn_X7_fill : Cond.instanceMethod yX7_fill ∈ zB := List.mem_filter.mpr ⟨List.mem_of_getElem? (i := 591) (by decide +kernel), by decide +kernel⟩
set_option maxRecDepth 20000 in
theorem ws_X7_fill : Cond.selects RX7 yX7_fill yX7_fill ∈ zB := List.mem_filter.mpr ⟨List.mem_of_getElem? (i := 592) (by decide +kernel), by decide +kernel⟩
theorem v_X7_fill : zVir yX7_fill 7 := ⟨wn_X7_fill, ws_X7_fill, TX7, 6, rfl⟩
set_option maxRecDepth 20000 in
theorem wc_X8_fill : Cond.code yX8_fill cX8_fill 5 (some .int) ∈ zB := List.mem_filter.mpr ⟨List.mem_of_getElem? (i := 1051) (by decide +kernel), by decide +kernel⟩
set_option maxRecDepth 20000 in
theorem wm_L_65 : Cond.methodLink RL 65 yX8_fill ∈ zB := List.mem_filter.mpr ⟨List.mem_of_getElem? (i := 1048) (by decide +kernel), by decide +kernel⟩
theorem k_L_65 : zCal RL 65 yX8_fill cX8_fill 5 (some .int) 1 := ⟨wm_L_65, wi_X8, wc_X8_fill, by decide +kernel, by decide +kernel, by decide +kernel⟩
set_option maxRecDepth 20000 in
theorem wn_X8_fill : Cond.instanceMethod yX8_fill ∈ zB := List.mem_filter.mpr ⟨List.mem_of_getElem? (i := 1049) (by decide +kernel), by decide +kernel⟩
set_option maxRecDepth 20000 in
theorem ws_X8_fill : Cond.selects RX8 yX8_fill yX8_fill ∈ zB := List.mem_filter.mpr ⟨List.mem_of_getElem? (i := 1050) (by decide +kernel), by decide +kernel⟩
theorem v_X8_fill : zVir yX8_fill 8 := ⟨wn_X8_fill, ws_X8_fill, TX8, 12, rfl⟩
set_option maxRecDepth 20000 in
theorem wc_X7_pass : Cond.code yX7_pass cX7_pass 2 (some .int) ∈ zB := List.mem_filter.mpr ⟨List.mem_of_getElem? (i := 610) (by decide +kernel), by decide +kernel⟩
set_option maxRecDepth 20000 in
theorem wm_L_66 : Cond.methodLink RL 66 yX7_pass ∈ zB := List.mem_filter.mpr ⟨List.mem_of_getElem? (i := 607) (by decide +kernel), by decide +kernel⟩
theorem k_L_66 : zCal RL 66 yX7_pass cX7_pass 2 (some .int) 1 := ⟨wm_L_66, wi_X7, wc_X7_pass, by decide +kernel, by decide +kernel, by decide +kernel⟩
set_option maxRecDepth 20000 in
theorem wn_X7_pass : Cond.instanceMethod yX7_pass ∈ zB := List.mem_filter.mpr ⟨List.mem_of_getElem? (i := 608) (by decide +kernel), by decide +kernel⟩
set_option maxRecDepth 20000 in
theorem ws_X7_pass : Cond.selects RX7 yX7_pass yX7_pass ∈ zB := List.mem_filter.mpr ⟨List.mem_of_getElem? (i := 609) (by decide +kernel), by decide +kernel⟩
theorem v_X7_pass : zVir yX7_pass 7 := ⟨wn_X7_pass, ws_X7_pass, TX7, 6, rfl⟩
set_option maxRecDepth 20000 in
theorem wc_X8_pass : Cond.code yX8_pass cX8_pass 3 (some .int) ∈ zB := List.mem_filter.mpr ⟨List.mem_of_getElem? (i := 1063) (by decide +kernel), by decide +kernel⟩
set_option maxRecDepth 20000 in
theorem wm_L_69 : Cond.methodLink RL 69 yX8_pass ∈ zB := List.mem_filter.mpr ⟨List.mem_of_getElem? (i := 1060) (by decide +kernel), by decide +kernel⟩
theorem k_L_69 : zCal RL 69 yX8_pass cX8_pass 3 (some .int) 1 := ⟨wm_L_69, wi_X8, wc_X8_pass, by decide +kernel, by decide +kernel, by decide +kernel⟩
set_option maxRecDepth 20000 in
theorem wn_X8_pass : Cond.instanceMethod yX8_pass ∈ zB := List.mem_filter.mpr ⟨List.mem_of_getElem? (i := 1061) (by decide +kernel), by decide +kernel⟩
set_option maxRecDepth 20000 in
theorem ws_X8_pass : Cond.selects RX8 yX8_pass yX8_pass ∈ zB := List.mem_filter.mpr ⟨List.mem_of_getElem? (i := 1062) (by decide +kernel), by decide +kernel⟩
theorem v_X8_pass : zVir yX8_pass 8 := ⟨wn_X8_pass, ws_X8_pass, TX8, 12, rfl⟩
set_option maxRecDepth 20000 in
theorem wc_X7_set : Cond.code yX7_set cX7_set 4 (some .int) ∈ zB := List.mem_filter.mpr ⟨List.mem_of_getElem? (i := 624) (by decide +kernel), by decide +kernel⟩
set_option maxRecDepth 20000 in
theorem wm_L_70 : Cond.methodLink RL 70 yX7_set ∈ zB := List.mem_filter.mpr ⟨List.mem_of_getElem? (i := 621) (by decide +kernel), by decide +kernel⟩
theorem k_L_70 : zCal RL 70 yX7_set cX7_set 4 (some .int) 2 := ⟨wm_L_70, wi_X7, wc_X7_set, by decide +kernel, by decide +kernel, by decide +kernel⟩
set_option maxRecDepth 20000 in
theorem wn_X7_set : Cond.instanceMethod yX7_set ∈ zB := List.mem_filter.mpr ⟨List.mem_of_getElem? (i := 622) (by decide +kernel), by decide +kernel⟩
set_option maxRecDepth 20000 in
theorem ws_X7_set : Cond.selects RX7 yX7_set yX7_set ∈ zB := List.mem_filter.mpr ⟨List.mem_of_getElem? (i := 623) (by decide +kernel), by decide +kernel⟩
theorem v_X7_set : zVir yX7_set 7 := ⟨wn_X7_set, ws_X7_set, TX7, 6, rfl⟩
set_option maxRecDepth 20000 in
theorem wc_X8_set : Cond.code yX8_set cX8_set 6 (some .int) ∈ zB := List.mem_filter.mpr ⟨List.mem_of_getElem? (i := 1071) (by decide +kernel), by decide +kernel⟩
set_option maxRecDepth 20000 in
theorem wm_L_73 : Cond.methodLink RL 73 yX8_set ∈ zB := List.mem_filter.mpr ⟨List.mem_of_getElem? (i := 1068) (by decide +kernel), by decide +kernel⟩
theorem k_L_73 : zCal RL 73 yX8_set cX8_set 6 (some .int) 2 := ⟨wm_L_73, wi_X8, wc_X8_set, by decide +kernel, by decide +kernel, by decide +kernel⟩
set_option maxRecDepth 20000 in
theorem wn_X8_set : Cond.instanceMethod yX8_set ∈ zB := List.mem_filter.mpr ⟨List.mem_of_getElem? (i := 1069) (by decide +kernel), by decide +kernel⟩
set_option maxRecDepth 20000 in
theorem ws_X8_set : Cond.selects RX8 yX8_set yX8_set ∈ zB := List.mem_filter.mpr ⟨List.mem_of_getElem? (i := 1070) (by decide +kernel), by decide +kernel⟩
theorem v_X8_set : zVir yX8_set 8 := ⟨wn_X8_set, ws_X8_set, TX8, 12, rfl⟩
set_option maxRecDepth 20000 in
theorem wc_X7_type : Cond.code yX7_type cX7_type 2 (some .int) ∈ zB := List.mem_filter.mpr ⟨List.mem_of_getElem? (i := 634) (by decide +kernel), by decide +kernel⟩
set_option maxRecDepth 20000 in
theorem wm_L_74 : Cond.methodLink RL 74 yX7_type ∈ zB := List.mem_filter.mpr ⟨List.mem_of_getElem? (i := 631) (by decide +kernel), by decide +kernel⟩
theorem k_L_74 : zCal RL 74 yX7_type cX7_type 2 (some .int) 1 := ⟨wm_L_74, wi_X7, wc_X7_type, by decide +kernel, by decide +kernel, by decide +kernel⟩
set_option maxRecDepth 20000 in
theorem wn_X7_type : Cond.instanceMethod yX7_type ∈ zB := List.mem_filter.mpr ⟨List.mem_of_getElem? (i := 632) (by decide +kernel), by decide +kernel⟩
set_option maxRecDepth 20000 in
theorem ws_X7_type : Cond.selects RX7 yX7_type yX7_type ∈ zB := List.mem_filter.mpr ⟨List.mem_of_getElem? (i := 633) (by decide +kernel), by decide +kernel⟩
theorem v_X7_type : zVir yX7_type 7 := ⟨wn_X7_type, ws_X7_type, TX7, 6, rfl⟩
set_option maxRecDepth 20000 in
theorem wc_X8_type : Cond.code yX8_type cX8_type 2 (some .int) ∈ zB := List.mem_filter.mpr ⟨List.mem_of_getElem? (i := 1078) (by decide +kernel), by decide +kernel⟩
set_option maxRecDepth 20000 in
theorem wm_L_78 : Cond.methodLink RL 78 yX8_type ∈ zB := List.mem_filter.mpr ⟨List.mem_of_getElem? (i := 1075) (by decide +kernel), by decide +kernel⟩
theorem k_L_78 : zCal RL 78 yX8_type cX8_type 2 (some .int) 1 := ⟨wm_L_78, wi_X8, wc_X8_type, by decide +kernel, by decide +kernel, by decide +kernel⟩
set_option maxRecDepth 20000 in
theorem wn_X8_type : Cond.instanceMethod yX8_type ∈ zB := List.mem_filter.mpr ⟨List.mem_of_getElem? (i := 1076) (by decide +kernel), by decide +kernel⟩
set_option maxRecDepth 20000 in
theorem ws_X8_type : Cond.selects RX8 yX8_type yX8_type ∈ zB := List.mem_filter.mpr ⟨List.mem_of_getElem? (i := 1077) (by decide +kernel), by decide +kernel⟩
theorem v_X8_type : zVir yX8_type 8 := ⟨wn_X8_type, ws_X8_type, TX8, 12, rfl⟩
set_option maxRecDepth 20000 in
theorem wc_X7_clearText : Cond.code yX7_clearText cX7_clearText 2 (some .int) ∈ zB := List.mem_filter.mpr ⟨List.mem_of_getElem? (i := 642) (by decide +kernel), by decide +kernel⟩
set_option maxRecDepth 20000 in
theorem wm_L_79 : Cond.methodLink RL 79 yX7_clearText ∈ zB := List.mem_filter.mpr ⟨List.mem_of_getElem? (i := 639) (by decide +kernel), by decide +kernel⟩
theorem k_L_79 : zCal RL 79 yX7_clearText cX7_clearText 2 (some .int) 0 := ⟨wm_L_79, wi_X7, wc_X7_clearText, by decide +kernel, by decide +kernel, by decide +kernel⟩
set_option maxRecDepth 20000 in
theorem wn_X7_clearText : Cond.instanceMethod yX7_clearText ∈ zB := List.mem_filter.mpr ⟨List.mem_of_getElem? (i := 640) (by decide +kernel), by decide +kernel⟩
set_option maxRecDepth 20000 in
theorem ws_X7_clearText : Cond.selects RX7 yX7_clearText yX7_clearText ∈ zB := List.mem_filter.mpr ⟨List.mem_of_getElem? (i := 641) (by decide +kernel), by decide +kernel⟩
theorem v_X7_clearText : zVir yX7_clearText 7 := ⟨wn_X7_clearText, ws_X7_clearText, TX7, 6, rfl⟩
set_option maxRecDepth 20000 in
theorem wc_X8_clearText : Cond.code yX8_clearText cX8_clearText 2 (some .int) ∈ zB := List.mem_filter.mpr ⟨List.mem_of_getElem? (i := 1082) (by decide +kernel), by decide +kernel⟩
set_option maxRecDepth 20000 in
theorem wm_L_82 : Cond.methodLink RL 82 yX8_clearText ∈ zB := List.mem_filter.mpr ⟨List.mem_of_getElem? (i := 1079) (by decide +kernel), by decide +kernel⟩
theorem k_L_82 : zCal RL 82 yX8_clearText cX8_clearText 2 (some .int) 0 := ⟨wm_L_82, wi_X8, wc_X8_clearText, by decide +kernel, by decide +kernel, by decide +kernel⟩
set_option maxRecDepth 20000 in
theorem wn_X8_clearText : Cond.instanceMethod yX8_clearText ∈ zB := List.mem_filter.mpr ⟨List.mem_of_getElem? (i := 1080) (by decide +kernel), by decide +kernel⟩
set_option maxRecDepth 20000 in
theorem ws_X8_clearText : Cond.selects RX8 yX8_clearText yX8_clearText ∈ zB := List.mem_filter.mpr ⟨List.mem_of_getElem? (i := 1081) (by decide +kernel), by decide +kernel⟩
theorem v_X8_clearText : zVir yX8_clearText 8 := ⟨wn_X8_clearText, ws_X8_clearText, TX8, 12, rfl⟩
set_option maxRecDepth 20000 in
theorem wc_X7_fault : Cond.code yX7_fault cX7_fault 1 (some .int) ∈ zB := List.mem_filter.mpr ⟨List.mem_of_getElem? (i := 646) (by decide +kernel), by decide +kernel⟩
set_option maxRecDepth 20000 in
theorem wm_L_83 : Cond.methodLink RL 83 yX7_fault ∈ zB := List.mem_filter.mpr ⟨List.mem_of_getElem? (i := 643) (by decide +kernel), by decide +kernel⟩
theorem k_L_83 : zCal RL 83 yX7_fault cX7_fault 1 (some .int) 0 := ⟨wm_L_83, wi_X7, wc_X7_fault, by decide +kernel, by decide +kernel, by decide +kernel⟩
set_option maxRecDepth 20000 in
theorem wn_X7_fault : Cond.instanceMethod yX7_fault ∈ zB := List.mem_filter.mpr ⟨List.mem_of_getElem? (i := 644) (by decide +kernel), by decide +kernel⟩
set_option maxRecDepth 20000 in
theorem ws_X7_fault : Cond.selects RX7 yX7_fault yX7_fault ∈ zB := List.mem_filter.mpr ⟨List.mem_of_getElem? (i := 645) (by decide +kernel), by decide +kernel⟩
theorem v_X7_fault : zVir yX7_fault 7 := ⟨wn_X7_fault, ws_X7_fault, TX7, 6, rfl⟩
set_option maxRecDepth 20000 in
theorem wc_X8_fault : Cond.code yX8_fault cX8_fault 2 (some .int) ∈ zB := List.mem_filter.mpr ⟨List.mem_of_getElem? (i := 1086) (by decide +kernel), by decide +kernel⟩
set_option maxRecDepth 20000 in
theorem wm_L_86 : Cond.methodLink RL 86 yX8_fault ∈ zB := List.mem_filter.mpr ⟨List.mem_of_getElem? (i := 1083) (by decide +kernel), by decide +kernel⟩
theorem k_L_86 : zCal RL 86 yX8_fault cX8_fault 2 (some .int) 0 := ⟨wm_L_86, wi_X8, wc_X8_fault, by decide +kernel, by decide +kernel, by decide +kernel⟩
set_option maxRecDepth 20000 in
theorem wn_X8_fault : Cond.instanceMethod yX8_fault ∈ zB := List.mem_filter.mpr ⟨List.mem_of_getElem? (i := 1084) (by decide +kernel), by decide +kernel⟩
set_option maxRecDepth 20000 in
theorem ws_X8_fault : Cond.selects RX8 yX8_fault yX8_fault ∈ zB := List.mem_filter.mpr ⟨List.mem_of_getElem? (i := 1085) (by decide +kernel), by decide +kernel⟩
theorem v_X8_fault : zVir yX8_fault 8 := ⟨wn_X8_fault, ws_X8_fault, TX8, 12, rfl⟩
set_option maxRecDepth 20000 in
theorem wc_X7_undo : Cond.code yX7_undo cX7_undo 1 (some .int) ∈ zB := List.mem_filter.mpr ⟨List.mem_of_getElem? (i := 650) (by decide +kernel), by decide +kernel⟩
set_option maxRecDepth 20000 in
theorem wm_L_87 : Cond.methodLink RL 87 yX7_undo ∈ zB := List.mem_filter.mpr ⟨List.mem_of_getElem? (i := 647) (by decide +kernel), by decide +kernel⟩
theorem k_L_87 : zCal RL 87 yX7_undo cX7_undo 1 (some .int) 0 := ⟨wm_L_87, wi_X7, wc_X7_undo, by decide +kernel, by decide +kernel, by decide +kernel⟩
set_option maxRecDepth 20000 in
theorem wn_X7_undo : Cond.instanceMethod yX7_undo ∈ zB := List.mem_filter.mpr ⟨List.mem_of_getElem? (i := 648) (by decide +kernel), by decide +kernel⟩
set_option maxRecDepth 20000 in
theorem ws_X7_undo : Cond.selects RX7 yX7_undo yX7_undo ∈ zB := List.mem_filter.mpr ⟨List.mem_of_getElem? (i := 649) (by decide +kernel), by decide +kernel⟩
theorem v_X7_undo : zVir yX7_undo 7 := ⟨wn_X7_undo, ws_X7_undo, TX7, 6, rfl⟩
set_option maxRecDepth 20000 in
theorem wc_X8_undo : Cond.code yX8_undo cX8_undo 2 (some .int) ∈ zB := List.mem_filter.mpr ⟨List.mem_of_getElem? (i := 1090) (by decide +kernel), by decide +kernel⟩
set_option maxRecDepth 20000 in
theorem wm_L_90 : Cond.methodLink RL 90 yX8_undo ∈ zB := List.mem_filter.mpr ⟨List.mem_of_getElem? (i := 1087) (by decide +kernel), by decide +kernel⟩
theorem k_L_90 : zCal RL 90 yX8_undo cX8_undo 2 (some .int) 0 := ⟨wm_L_90, wi_X8, wc_X8_undo, by decide +kernel, by decide +kernel, by decide +kernel⟩
set_option maxRecDepth 20000 in
theorem wn_X8_undo : Cond.instanceMethod yX8_undo ∈ zB := List.mem_filter.mpr ⟨List.mem_of_getElem? (i := 1088) (by decide +kernel), by decide +kernel⟩
set_option maxRecDepth 20000 in
theorem ws_X8_undo : Cond.selects RX8 yX8_undo yX8_undo ∈ zB := List.mem_filter.mpr ⟨List.mem_of_getElem? (i := 1089) (by decide +kernel), by decide +kernel⟩
theorem v_X8_undo : zVir yX8_undo 8 := ⟨wn_X8_undo, ws_X8_undo, TX8, 12, rfl⟩
set_option maxRecDepth 20000 in
theorem wc_X7_keep : Cond.code yX7_keep cX7_keep 1 (some .int) ∈ zB := List.mem_filter.mpr ⟨List.mem_of_getElem? (i := 658) (by decide +kernel), by decide +kernel⟩
set_option maxRecDepth 20000 in
theorem wm_L_91 : Cond.methodLink RL 91 yX7_keep ∈ zB := List.mem_filter.mpr ⟨List.mem_of_getElem? (i := 655) (by decide +kernel), by decide +kernel⟩
theorem k_L_91 : zCal RL 91 yX7_keep cX7_keep 1 (some .int) 0 := ⟨wm_L_91, wi_X7, wc_X7_keep, by decide +kernel, by decide +kernel, by decide +kernel⟩
set_option maxRecDepth 20000 in
theorem wn_X7_keep : Cond.instanceMethod yX7_keep ∈ zB := List.mem_filter.mpr ⟨List.mem_of_getElem? (i := 656) (by decide +kernel), by decide +kernel⟩
set_option maxRecDepth 20000 in
theorem ws_X7_keep : Cond.selects RX7 yX7_keep yX7_keep ∈ zB := List.mem_filter.mpr ⟨List.mem_of_getElem? (i := 657) (by decide +kernel), by decide +kernel⟩
theorem v_X7_keep : zVir yX7_keep 7 := ⟨wn_X7_keep, ws_X7_keep, TX7, 6, rfl⟩
set_option maxRecDepth 20000 in
theorem wc_X8_keep : Cond.code yX8_keep cX8_keep 2 (some .int) ∈ zB := List.mem_filter.mpr ⟨List.mem_of_getElem? (i := 1094) (by decide +kernel), by decide +kernel⟩
set_option maxRecDepth 20000 in
theorem wm_L_94 : Cond.methodLink RL 94 yX8_keep ∈ zB := List.mem_filter.mpr ⟨List.mem_of_getElem? (i := 1091) (by decide +kernel), by decide +kernel⟩
theorem k_L_94 : zCal RL 94 yX8_keep cX8_keep 2 (some .int) 0 := ⟨wm_L_94, wi_X8, wc_X8_keep, by decide +kernel, by decide +kernel, by decide +kernel⟩
set_option maxRecDepth 20000 in
theorem wn_X8_keep : Cond.instanceMethod yX8_keep ∈ zB := List.mem_filter.mpr ⟨List.mem_of_getElem? (i := 1092) (by decide +kernel), by decide +kernel⟩
set_option maxRecDepth 20000 in
theorem ws_X8_keep : Cond.selects RX8 yX8_keep yX8_keep ∈ zB := List.mem_filter.mpr ⟨List.mem_of_getElem? (i := 1093) (by decide +kernel), by decide +kernel⟩
theorem v_X8_keep : zVir yX8_keep 8 := ⟨wn_X8_keep, ws_X8_keep, TX8, 12, rfl⟩
set_option maxRecDepth 20000 in
theorem wc_X7_restore : Cond.code yX7_restore cX7_restore 1 (some .int) ∈ zB := List.mem_filter.mpr ⟨List.mem_of_getElem? (i := 662) (by decide +kernel), by decide +kernel⟩
set_option maxRecDepth 20000 in
theorem wm_L_95 : Cond.methodLink RL 95 yX7_restore ∈ zB := List.mem_filter.mpr ⟨List.mem_of_getElem? (i := 659) (by decide +kernel), by decide +kernel⟩
theorem k_L_95 : zCal RL 95 yX7_restore cX7_restore 1 (some .int) 0 := ⟨wm_L_95, wi_X7, wc_X7_restore, by decide +kernel, by decide +kernel, by decide +kernel⟩
set_option maxRecDepth 20000 in
theorem wn_X7_restore : Cond.instanceMethod yX7_restore ∈ zB := List.mem_filter.mpr ⟨List.mem_of_getElem? (i := 660) (by decide +kernel), by decide +kernel⟩
set_option maxRecDepth 20000 in
theorem ws_X7_restore : Cond.selects RX7 yX7_restore yX7_restore ∈ zB := List.mem_filter.mpr ⟨List.mem_of_getElem? (i := 661) (by decide +kernel), by decide +kernel⟩
theorem v_X7_restore : zVir yX7_restore 7 := ⟨wn_X7_restore, ws_X7_restore, TX7, 6, rfl⟩
set_option maxRecDepth 20000 in
theorem wc_X8_restore : Cond.code yX8_restore cX8_restore 2 (some .int) ∈ zB := List.mem_filter.mpr ⟨List.mem_of_getElem? (i := 1098) (by decide +kernel), by decide +kernel⟩
set_option maxRecDepth 20000 in
theorem wm_L_98 : Cond.methodLink RL 98 yX8_restore ∈ zB := List.mem_filter.mpr ⟨List.mem_of_getElem? (i := 1095) (by decide +kernel), by decide +kernel⟩
theorem k_L_98 : zCal RL 98 yX8_restore cX8_restore 2 (some .int) 0 := ⟨wm_L_98, wi_X8, wc_X8_restore, by decide +kernel, by decide +kernel, by decide +kernel⟩
set_option maxRecDepth 20000 in
theorem wn_X8_restore : Cond.instanceMethod yX8_restore ∈ zB := List.mem_filter.mpr ⟨List.mem_of_getElem? (i := 1096) (by decide +kernel), by decide +kernel⟩
set_option maxRecDepth 20000 in
theorem ws_X8_restore : Cond.selects RX8 yX8_restore yX8_restore ∈ zB := List.mem_filter.mpr ⟨List.mem_of_getElem? (i := 1097) (by decide +kernel), by decide +kernel⟩
theorem v_X8_restore : zVir yX8_restore 8 := ⟨wn_X8_restore, ws_X8_restore, TX8, 12, rfl⟩
set_option maxRecDepth 20000 in
theorem wc_X7_sailingOf : Cond.code yX7_sailingOf cX7_sailingOf 4 (some .int) ∈ zB := List.mem_filter.mpr ⟨List.mem_of_getElem? (i := 666) (by decide +kernel), by decide +kernel⟩
set_option maxRecDepth 20000 in
theorem wm_L_99 : Cond.methodLink RL 99 yX7_sailingOf ∈ zB := List.mem_filter.mpr ⟨List.mem_of_getElem? (i := 663) (by decide +kernel), by decide +kernel⟩
theorem k_L_99 : zCal RL 99 yX7_sailingOf cX7_sailingOf 4 (some .int) 2 := ⟨wm_L_99, wi_X7, wc_X7_sailingOf, by decide +kernel, by decide +kernel, by decide +kernel⟩
set_option maxRecDepth 20000 in
theorem wn_X7_sailingOf : Cond.instanceMethod yX7_sailingOf ∈ zB := List.mem_filter.mpr ⟨List.mem_of_getElem? (i := 664) (by decide +kernel), by decide +kernel⟩
set_option maxRecDepth 20000 in
theorem ws_X7_sailingOf : Cond.selects RX7 yX7_sailingOf yX7_sailingOf ∈ zB := List.mem_filter.mpr ⟨List.mem_of_getElem? (i := 665) (by decide +kernel), by decide +kernel⟩
theorem v_X7_sailingOf : zVir yX7_sailingOf 7 := ⟨wn_X7_sailingOf, ws_X7_sailingOf, TX7, 6, rfl⟩
set_option maxRecDepth 20000 in
theorem wc_X8_sailingOf : Cond.code yX8_sailingOf cX8_sailingOf 3 (some .int) ∈ zB := List.mem_filter.mpr ⟨List.mem_of_getElem? (i := 1102) (by decide +kernel), by decide +kernel⟩
set_option maxRecDepth 20000 in
theorem wm_L_102 : Cond.methodLink RL 102 yX8_sailingOf ∈ zB := List.mem_filter.mpr ⟨List.mem_of_getElem? (i := 1099) (by decide +kernel), by decide +kernel⟩
theorem k_L_102 : zCal RL 102 yX8_sailingOf cX8_sailingOf 3 (some .int) 2 := ⟨wm_L_102, wi_X8, wc_X8_sailingOf, by decide +kernel, by decide +kernel, by decide +kernel⟩
set_option maxRecDepth 20000 in
theorem wn_X8_sailingOf : Cond.instanceMethod yX8_sailingOf ∈ zB := List.mem_filter.mpr ⟨List.mem_of_getElem? (i := 1100) (by decide +kernel), by decide +kernel⟩
set_option maxRecDepth 20000 in
theorem ws_X8_sailingOf : Cond.selects RX8 yX8_sailingOf yX8_sailingOf ∈ zB := List.mem_filter.mpr ⟨List.mem_of_getElem? (i := 1101) (by decide +kernel), by decide +kernel⟩
theorem v_X8_sailingOf : zVir yX8_sailingOf 8 := ⟨wn_X8_sailingOf, ws_X8_sailingOf, TX8, 12, rfl⟩
set_option maxRecDepth 20000 in
theorem wc_X7_crew : Cond.code yX7_crew cX7_crew 6 (some .int) ∈ zB := List.mem_filter.mpr ⟨List.mem_of_getElem? (i := 671) (by decide +kernel), by decide +kernel⟩
set_option maxRecDepth 20000 in
theorem wm_L_103 : Cond.methodLink RL 103 yX7_crew ∈ zB := List.mem_filter.mpr ⟨List.mem_of_getElem? (i := 668) (by decide +kernel), by decide +kernel⟩
theorem k_L_103 : zCal RL 103 yX7_crew cX7_crew 6 (some .int) 3 := ⟨wm_L_103, wi_X7, wc_X7_crew, by decide +kernel, by decide +kernel, by decide +kernel⟩
set_option maxRecDepth 20000 in
theorem wn_X7_crew : Cond.instanceMethod yX7_crew ∈ zB := List.mem_filter.mpr ⟨List.mem_of_getElem? (i := 669) (by decide +kernel), by decide +kernel⟩
set_option maxRecDepth 20000 in
theorem ws_X7_crew : Cond.selects RX7 yX7_crew yX7_crew ∈ zB := List.mem_filter.mpr ⟨List.mem_of_getElem? (i := 670) (by decide +kernel), by decide +kernel⟩
theorem v_X7_crew : zVir yX7_crew 7 := ⟨wn_X7_crew, ws_X7_crew, TX7, 6, rfl⟩
set_option maxRecDepth 20000 in
theorem wc_X8_crew : Cond.code yX8_crew cX8_crew 7 (some .int) ∈ zB := List.mem_filter.mpr ⟨List.mem_of_getElem? (i := 1106) (by decide +kernel), by decide +kernel⟩
set_option maxRecDepth 20000 in
theorem wm_L_106 : Cond.methodLink RL 106 yX8_crew ∈ zB := List.mem_filter.mpr ⟨List.mem_of_getElem? (i := 1103) (by decide +kernel), by decide +kernel⟩
theorem k_L_106 : zCal RL 106 yX8_crew cX8_crew 7 (some .int) 3 := ⟨wm_L_106, wi_X8, wc_X8_crew, by decide +kernel, by decide +kernel, by decide +kernel⟩
set_option maxRecDepth 20000 in
theorem wn_X8_crew : Cond.instanceMethod yX8_crew ∈ zB := List.mem_filter.mpr ⟨List.mem_of_getElem? (i := 1104) (by decide +kernel), by decide +kernel⟩
set_option maxRecDepth 20000 in
theorem ws_X8_crew : Cond.selects RX8 yX8_crew yX8_crew ∈ zB := List.mem_filter.mpr ⟨List.mem_of_getElem? (i := 1105) (by decide +kernel), by decide +kernel⟩
theorem v_X8_crew : zVir yX8_crew 8 := ⟨wn_X8_crew, ws_X8_crew, TX8, 12, rfl⟩
set_option maxRecDepth 20000 in
theorem wc_X7_memberOf : Cond.code yX7_memberOf cX7_memberOf 4 (some .int) ∈ zB := List.mem_filter.mpr ⟨List.mem_of_getElem? (i := 685) (by decide +kernel), by decide +kernel⟩
set_option maxRecDepth 20000 in
theorem wm_L_107 : Cond.methodLink RL 107 yX7_memberOf ∈ zB := List.mem_filter.mpr ⟨List.mem_of_getElem? (i := 682) (by decide +kernel), by decide +kernel⟩
theorem k_L_107 : zCal RL 107 yX7_memberOf cX7_memberOf 4 (some .int) 2 := ⟨wm_L_107, wi_X7, wc_X7_memberOf, by decide +kernel, by decide +kernel, by decide +kernel⟩
set_option maxRecDepth 20000 in
theorem wn_X7_memberOf : Cond.instanceMethod yX7_memberOf ∈ zB := List.mem_filter.mpr ⟨List.mem_of_getElem? (i := 683) (by decide +kernel), by decide +kernel⟩
set_option maxRecDepth 20000 in
theorem ws_X7_memberOf : Cond.selects RX7 yX7_memberOf yX7_memberOf ∈ zB := List.mem_filter.mpr ⟨List.mem_of_getElem? (i := 684) (by decide +kernel), by decide +kernel⟩
theorem v_X7_memberOf : zVir yX7_memberOf 7 := ⟨wn_X7_memberOf, ws_X7_memberOf, TX7, 6, rfl⟩
set_option maxRecDepth 20000 in
theorem wc_X8_memberOf : Cond.code yX8_memberOf cX8_memberOf 3 (some .int) ∈ zB := List.mem_filter.mpr ⟨List.mem_of_getElem? (i := 1110) (by decide +kernel), by decide +kernel⟩
set_option maxRecDepth 20000 in
theorem wm_L_110 : Cond.methodLink RL 110 yX8_memberOf ∈ zB := List.mem_filter.mpr ⟨List.mem_of_getElem? (i := 1107) (by decide +kernel), by decide +kernel⟩
theorem k_L_110 : zCal RL 110 yX8_memberOf cX8_memberOf 3 (some .int) 2 := ⟨wm_L_110, wi_X8, wc_X8_memberOf, by decide +kernel, by decide +kernel, by decide +kernel⟩
set_option maxRecDepth 20000 in
theorem wn_X8_memberOf : Cond.instanceMethod yX8_memberOf ∈ zB := List.mem_filter.mpr ⟨List.mem_of_getElem? (i := 1108) (by decide +kernel), by decide +kernel⟩
set_option maxRecDepth 20000 in
theorem ws_X8_memberOf : Cond.selects RX8 yX8_memberOf yX8_memberOf ∈ zB := List.mem_filter.mpr ⟨List.mem_of_getElem? (i := 1109) (by decide +kernel), by decide +kernel⟩
theorem v_X8_memberOf : zVir yX8_memberOf 8 := ⟨wn_X8_memberOf, ws_X8_memberOf, TX8, 12, rfl⟩
set_option maxRecDepth 20000 in
theorem wc_X7_ladder : Cond.code yX7_ladder cX7_ladder 4 (some .int) ∈ zB := List.mem_filter.mpr ⟨List.mem_of_getElem? (i := 698) (by decide +kernel), by decide +kernel⟩
set_option maxRecDepth 20000 in
theorem wm_L_111 : Cond.methodLink RL 111 yX7_ladder ∈ zB := List.mem_filter.mpr ⟨List.mem_of_getElem? (i := 695) (by decide +kernel), by decide +kernel⟩
theorem k_L_111 : zCal RL 111 yX7_ladder cX7_ladder 4 (some .int) 2 := ⟨wm_L_111, wi_X7, wc_X7_ladder, by decide +kernel, by decide +kernel, by decide +kernel⟩
set_option maxRecDepth 20000 in
theorem wn_X7_ladder : Cond.instanceMethod yX7_ladder ∈ zB := List.mem_filter.mpr ⟨List.mem_of_getElem? (i := 696) (by decide +kernel), by decide +kernel⟩
set_option maxRecDepth 20000 in
theorem ws_X7_ladder : Cond.selects RX7 yX7_ladder yX7_ladder ∈ zB := List.mem_filter.mpr ⟨List.mem_of_getElem? (i := 697) (by decide +kernel), by decide +kernel⟩
theorem v_X7_ladder : zVir yX7_ladder 7 := ⟨wn_X7_ladder, ws_X7_ladder, TX7, 6, rfl⟩
set_option maxRecDepth 20000 in
theorem wc_X8_ladder : Cond.code yX8_ladder cX8_ladder 3 (some .int) ∈ zB := List.mem_filter.mpr ⟨List.mem_of_getElem? (i := 1126) (by decide +kernel), by decide +kernel⟩
set_option maxRecDepth 20000 in
theorem wm_L_114 : Cond.methodLink RL 114 yX8_ladder ∈ zB := List.mem_filter.mpr ⟨List.mem_of_getElem? (i := 1123) (by decide +kernel), by decide +kernel⟩
theorem k_L_114 : zCal RL 114 yX8_ladder cX8_ladder 3 (some .int) 2 := ⟨wm_L_114, wi_X8, wc_X8_ladder, by decide +kernel, by decide +kernel, by decide +kernel⟩
set_option maxRecDepth 20000 in
theorem wn_X8_ladder : Cond.instanceMethod yX8_ladder ∈ zB := List.mem_filter.mpr ⟨List.mem_of_getElem? (i := 1124) (by decide +kernel), by decide +kernel⟩
set_option maxRecDepth 20000 in
theorem ws_X8_ladder : Cond.selects RX8 yX8_ladder yX8_ladder ∈ zB := List.mem_filter.mpr ⟨List.mem_of_getElem? (i := 1125) (by decide +kernel), by decide +kernel⟩
theorem v_X8_ladder : zVir yX8_ladder 8 := ⟨wn_X8_ladder, ws_X8_ladder, TX8, 12, rfl⟩
set_option maxRecDepth 20000 in
theorem wc_X7_rest : Cond.code yX7_rest cX7_rest 4 (some .int) ∈ zB := List.mem_filter.mpr ⟨List.mem_of_getElem? (i := 703) (by decide +kernel), by decide +kernel⟩
set_option maxRecDepth 20000 in
theorem wm_L_115 : Cond.methodLink RL 115 yX7_rest ∈ zB := List.mem_filter.mpr ⟨List.mem_of_getElem? (i := 700) (by decide +kernel), by decide +kernel⟩
theorem k_L_115 : zCal RL 115 yX7_rest cX7_rest 4 (some .int) 3 := ⟨wm_L_115, wi_X7, wc_X7_rest, by decide +kernel, by decide +kernel, by decide +kernel⟩
set_option maxRecDepth 20000 in
theorem wn_X7_rest : Cond.instanceMethod yX7_rest ∈ zB := List.mem_filter.mpr ⟨List.mem_of_getElem? (i := 701) (by decide +kernel), by decide +kernel⟩
set_option maxRecDepth 20000 in
theorem ws_X7_rest : Cond.selects RX7 yX7_rest yX7_rest ∈ zB := List.mem_filter.mpr ⟨List.mem_of_getElem? (i := 702) (by decide +kernel), by decide +kernel⟩
theorem v_X7_rest : zVir yX7_rest 7 := ⟨wn_X7_rest, ws_X7_rest, TX7, 6, rfl⟩
set_option maxRecDepth 20000 in
theorem wc_X8_rest : Cond.code yX8_rest cX8_rest 4 (some .int) ∈ zB := List.mem_filter.mpr ⟨List.mem_of_getElem? (i := 1130) (by decide +kernel), by decide +kernel⟩
set_option maxRecDepth 20000 in
theorem wm_L_118 : Cond.methodLink RL 118 yX8_rest ∈ zB := List.mem_filter.mpr ⟨List.mem_of_getElem? (i := 1127) (by decide +kernel), by decide +kernel⟩
theorem k_L_118 : zCal RL 118 yX8_rest cX8_rest 4 (some .int) 3 := ⟨wm_L_118, wi_X8, wc_X8_rest, by decide +kernel, by decide +kernel, by decide +kernel⟩
set_option maxRecDepth 20000 in
theorem wn_X8_rest : Cond.instanceMethod yX8_rest ∈ zB := List.mem_filter.mpr ⟨List.mem_of_getElem? (i := 1128) (by decide +kernel), by decide +kernel⟩
set_option maxRecDepth 20000 in
theorem ws_X8_rest : Cond.selects RX8 yX8_rest yX8_rest ∈ zB := List.mem_filter.mpr ⟨List.mem_of_getElem? (i := 1129) (by decide +kernel), by decide +kernel⟩
theorem v_X8_rest : zVir yX8_rest 8 := ⟨wn_X8_rest, ws_X8_rest, TX8, 12, rfl⟩
set_option maxRecDepth 20000 in
theorem wc_X7_leastRest : Cond.code yX7_leastRest cX7_leastRest 5 (some .int) ∈ zB := List.mem_filter.mpr ⟨List.mem_of_getElem? (i := 708) (by decide +kernel), by decide +kernel⟩
set_option maxRecDepth 20000 in
theorem wm_L_119 : Cond.methodLink RL 119 yX7_leastRest ∈ zB := List.mem_filter.mpr ⟨List.mem_of_getElem? (i := 705) (by decide +kernel), by decide +kernel⟩
theorem k_L_119 : zCal RL 119 yX7_leastRest cX7_leastRest 5 (some .int) 2 := ⟨wm_L_119, wi_X7, wc_X7_leastRest, by decide +kernel, by decide +kernel, by decide +kernel⟩
set_option maxRecDepth 20000 in
theorem wn_X7_leastRest : Cond.instanceMethod yX7_leastRest ∈ zB := List.mem_filter.mpr ⟨List.mem_of_getElem? (i := 706) (by decide +kernel), by decide +kernel⟩
set_option maxRecDepth 20000 in
theorem ws_X7_leastRest : Cond.selects RX7 yX7_leastRest yX7_leastRest ∈ zB := List.mem_filter.mpr ⟨List.mem_of_getElem? (i := 707) (by decide +kernel), by decide +kernel⟩
theorem v_X7_leastRest : zVir yX7_leastRest 7 := ⟨wn_X7_leastRest, ws_X7_leastRest, TX7, 6, rfl⟩
set_option maxRecDepth 20000 in
theorem wc_X8_leastRest : Cond.code yX8_leastRest cX8_leastRest 9 (some .int) ∈ zB := List.mem_filter.mpr ⟨List.mem_of_getElem? (i := 1134) (by decide +kernel), by decide +kernel⟩
set_option maxRecDepth 20000 in
theorem wm_L_122 : Cond.methodLink RL 122 yX8_leastRest ∈ zB := List.mem_filter.mpr ⟨List.mem_of_getElem? (i := 1131) (by decide +kernel), by decide +kernel⟩
theorem k_L_122 : zCal RL 122 yX8_leastRest cX8_leastRest 9 (some .int) 2 := ⟨wm_L_122, wi_X8, wc_X8_leastRest, by decide +kernel, by decide +kernel, by decide +kernel⟩
set_option maxRecDepth 20000 in
theorem wn_X8_leastRest : Cond.instanceMethod yX8_leastRest ∈ zB := List.mem_filter.mpr ⟨List.mem_of_getElem? (i := 1132) (by decide +kernel), by decide +kernel⟩
set_option maxRecDepth 20000 in
theorem ws_X8_leastRest : Cond.selects RX8 yX8_leastRest yX8_leastRest ∈ zB := List.mem_filter.mpr ⟨List.mem_of_getElem? (i := 1133) (by decide +kernel), by decide +kernel⟩
theorem v_X8_leastRest : zVir yX8_leastRest 8 := ⟨wn_X8_leastRest, ws_X8_leastRest, TX8, 12, rfl⟩
set_option maxRecDepth 20000 in
theorem wc_X7_overtime : Cond.code yX7_overtime cX7_overtime 3 (some .int) ∈ zB := List.mem_filter.mpr ⟨List.mem_of_getElem? (i := 721) (by decide +kernel), by decide +kernel⟩
set_option maxRecDepth 20000 in
theorem wm_L_123 : Cond.methodLink RL 123 yX7_overtime ∈ zB := List.mem_filter.mpr ⟨List.mem_of_getElem? (i := 718) (by decide +kernel), by decide +kernel⟩
theorem k_L_123 : zCal RL 123 yX7_overtime cX7_overtime 3 (some .int) 2 := ⟨wm_L_123, wi_X7, wc_X7_overtime, by decide +kernel, by decide +kernel, by decide +kernel⟩
set_option maxRecDepth 20000 in
theorem wn_X7_overtime : Cond.instanceMethod yX7_overtime ∈ zB := List.mem_filter.mpr ⟨List.mem_of_getElem? (i := 719) (by decide +kernel), by decide +kernel⟩
set_option maxRecDepth 20000 in
theorem ws_X7_overtime : Cond.selects RX7 yX7_overtime yX7_overtime ∈ zB := List.mem_filter.mpr ⟨List.mem_of_getElem? (i := 720) (by decide +kernel), by decide +kernel⟩
theorem v_X7_overtime : zVir yX7_overtime 7 := ⟨wn_X7_overtime, ws_X7_overtime, TX7, 6, rfl⟩
set_option maxRecDepth 20000 in
theorem wc_X8_overtime : Cond.code yX8_overtime cX8_overtime 3 (some .int) ∈ zB := List.mem_filter.mpr ⟨List.mem_of_getElem? (i := 1142) (by decide +kernel), by decide +kernel⟩
set_option maxRecDepth 20000 in
theorem wm_L_126 : Cond.methodLink RL 126 yX8_overtime ∈ zB := List.mem_filter.mpr ⟨List.mem_of_getElem? (i := 1139) (by decide +kernel), by decide +kernel⟩
theorem k_L_126 : zCal RL 126 yX8_overtime cX8_overtime 3 (some .int) 2 := ⟨wm_L_126, wi_X8, wc_X8_overtime, by decide +kernel, by decide +kernel, by decide +kernel⟩
set_option maxRecDepth 20000 in
theorem wn_X8_overtime : Cond.instanceMethod yX8_overtime ∈ zB := List.mem_filter.mpr ⟨List.mem_of_getElem? (i := 1140) (by decide +kernel), by decide +kernel⟩
set_option maxRecDepth 20000 in
theorem ws_X8_overtime : Cond.selects RX8 yX8_overtime yX8_overtime ∈ zB := List.mem_filter.mpr ⟨List.mem_of_getElem? (i := 1141) (by decide +kernel), by decide +kernel⟩
theorem v_X8_overtime : zVir yX8_overtime 8 := ⟨wn_X8_overtime, ws_X8_overtime, TX8, 12, rfl⟩
set_option maxRecDepth 20000 in
theorem wc_X7_count : Cond.code yX7_count cX7_count 2 (some .int) ∈ zB := List.mem_filter.mpr ⟨List.mem_of_getElem? (i := 730) (by decide +kernel), by decide +kernel⟩
set_option maxRecDepth 20000 in
theorem wm_L_127 : Cond.methodLink RL 127 yX7_count ∈ zB := List.mem_filter.mpr ⟨List.mem_of_getElem? (i := 727) (by decide +kernel), by decide +kernel⟩
theorem k_L_127 : zCal RL 127 yX7_count cX7_count 2 (some .int) 1 := ⟨wm_L_127, wi_X7, wc_X7_count, by decide +kernel, by decide +kernel, by decide +kernel⟩
set_option maxRecDepth 20000 in
theorem wn_X7_count : Cond.instanceMethod yX7_count ∈ zB := List.mem_filter.mpr ⟨List.mem_of_getElem? (i := 728) (by decide +kernel), by decide +kernel⟩
set_option maxRecDepth 20000 in
theorem ws_X7_count : Cond.selects RX7 yX7_count yX7_count ∈ zB := List.mem_filter.mpr ⟨List.mem_of_getElem? (i := 729) (by decide +kernel), by decide +kernel⟩
theorem v_X7_count : zVir yX7_count 7 := ⟨wn_X7_count, ws_X7_count, TX7, 6, rfl⟩
set_option maxRecDepth 20000 in
theorem wc_X8_count : Cond.code yX8_count cX8_count 8 (some .int) ∈ zB := List.mem_filter.mpr ⟨List.mem_of_getElem? (i := 1150) (by decide +kernel), by decide +kernel⟩
set_option maxRecDepth 20000 in
theorem wm_L_130 : Cond.methodLink RL 130 yX8_count ∈ zB := List.mem_filter.mpr ⟨List.mem_of_getElem? (i := 1147) (by decide +kernel), by decide +kernel⟩
theorem k_L_130 : zCal RL 130 yX8_count cX8_count 8 (some .int) 1 := ⟨wm_L_130, wi_X8, wc_X8_count, by decide +kernel, by decide +kernel, by decide +kernel⟩
set_option maxRecDepth 20000 in
theorem wn_X8_count : Cond.instanceMethod yX8_count ∈ zB := List.mem_filter.mpr ⟨List.mem_of_getElem? (i := 1148) (by decide +kernel), by decide +kernel⟩
set_option maxRecDepth 20000 in
theorem ws_X8_count : Cond.selects RX8 yX8_count yX8_count ∈ zB := List.mem_filter.mpr ⟨List.mem_of_getElem? (i := 1149) (by decide +kernel), by decide +kernel⟩
theorem v_X8_count : zVir yX8_count 8 := ⟨wn_X8_count, ws_X8_count, TX8, 12, rfl⟩
set_option maxRecDepth 20000 in
theorem wc_X7_why : Cond.code yX7_why cX7_why 5 (some .int) ∈ zB := List.mem_filter.mpr ⟨List.mem_of_getElem? (i := 760) (by decide +kernel), by decide +kernel⟩
set_option maxRecDepth 20000 in
theorem wm_L_131 : Cond.methodLink RL 131 yX7_why ∈ zB := List.mem_filter.mpr ⟨List.mem_of_getElem? (i := 757) (by decide +kernel), by decide +kernel⟩
theorem k_L_131 : zCal RL 131 yX7_why cX7_why 5 (some .int) 3 := ⟨wm_L_131, wi_X7, wc_X7_why, by decide +kernel, by decide +kernel, by decide +kernel⟩
set_option maxRecDepth 20000 in
theorem wn_X7_why : Cond.instanceMethod yX7_why ∈ zB := List.mem_filter.mpr ⟨List.mem_of_getElem? (i := 758) (by decide +kernel), by decide +kernel⟩
set_option maxRecDepth 20000 in
theorem ws_X7_why : Cond.selects RX7 yX7_why yX7_why ∈ zB := List.mem_filter.mpr ⟨List.mem_of_getElem? (i := 759) (by decide +kernel), by decide +kernel⟩
theorem v_X7_why : zVir yX7_why 7 := ⟨wn_X7_why, ws_X7_why, TX7, 6, rfl⟩
set_option maxRecDepth 20000 in
theorem wm_L_134 : Cond.methodLink RL 134 yX8_why ∈ zB := List.mem_filter.mpr ⟨List.mem_of_getElem? (i := 1155) (by decide +kernel), by decide +kernel⟩
theorem k_L_134 : zCal RL 134 yX8_why cX8_why 4 (some .int) 3 := ⟨wm_L_134, wi_X8, wc_X8_why, by decide +kernel, by decide +kernel, by decide +kernel⟩
set_option maxRecDepth 20000 in
theorem wc_X7_able : Cond.code yX7_able cX7_able 6 (some .int) ∈ zB := List.mem_filter.mpr ⟨List.mem_of_getElem? (i := 764) (by decide +kernel), by decide +kernel⟩
set_option maxRecDepth 20000 in
theorem wm_L_135 : Cond.methodLink RL 135 yX7_able ∈ zB := List.mem_filter.mpr ⟨List.mem_of_getElem? (i := 761) (by decide +kernel), by decide +kernel⟩
theorem k_L_135 : zCal RL 135 yX7_able cX7_able 6 (some .int) 2 := ⟨wm_L_135, wi_X7, wc_X7_able, by decide +kernel, by decide +kernel, by decide +kernel⟩
set_option maxRecDepth 20000 in
theorem wn_X7_able : Cond.instanceMethod yX7_able ∈ zB := List.mem_filter.mpr ⟨List.mem_of_getElem? (i := 762) (by decide +kernel), by decide +kernel⟩
set_option maxRecDepth 20000 in
theorem ws_X7_able : Cond.selects RX7 yX7_able yX7_able ∈ zB := List.mem_filter.mpr ⟨List.mem_of_getElem? (i := 763) (by decide +kernel), by decide +kernel⟩
theorem v_X7_able : zVir yX7_able 7 := ⟨wn_X7_able, ws_X7_able, TX7, 6, rfl⟩
set_option maxRecDepth 20000 in
theorem wc_X8_able : Cond.code yX8_able cX8_able 5 (some .int) ∈ zB := List.mem_filter.mpr ⟨List.mem_of_getElem? (i := 1159) (by decide +kernel), by decide +kernel⟩
set_option maxRecDepth 20000 in
theorem wm_L_138 : Cond.methodLink RL 138 yX8_able ∈ zB := List.mem_filter.mpr ⟨List.mem_of_getElem? (i := 1156) (by decide +kernel), by decide +kernel⟩
theorem k_L_138 : zCal RL 138 yX8_able cX8_able 5 (some .int) 2 := ⟨wm_L_138, wi_X8, wc_X8_able, by decide +kernel, by decide +kernel, by decide +kernel⟩
set_option maxRecDepth 20000 in
theorem wn_X8_able : Cond.instanceMethod yX8_able ∈ zB := List.mem_filter.mpr ⟨List.mem_of_getElem? (i := 1157) (by decide +kernel), by decide +kernel⟩
set_option maxRecDepth 20000 in
theorem ws_X8_able : Cond.selects RX8 yX8_able yX8_able ∈ zB := List.mem_filter.mpr ⟨List.mem_of_getElem? (i := 1158) (by decide +kernel), by decide +kernel⟩
theorem v_X8_able : zVir yX8_able 8 := ⟨wn_X8_able, ws_X8_able, TX8, 12, rfl⟩
set_option maxRecDepth 20000 in
theorem wc_X7_ifSick : Cond.code yX7_ifSick cX7_ifSick 3 (some .int) ∈ zB := List.mem_filter.mpr ⟨List.mem_of_getElem? (i := 768) (by decide +kernel), by decide +kernel⟩
set_option maxRecDepth 20000 in
theorem wm_L_139 : Cond.methodLink RL 139 yX7_ifSick ∈ zB := List.mem_filter.mpr ⟨List.mem_of_getElem? (i := 765) (by decide +kernel), by decide +kernel⟩
theorem k_L_139 : zCal RL 139 yX7_ifSick cX7_ifSick 3 (some .int) 2 := ⟨wm_L_139, wi_X7, wc_X7_ifSick, by decide +kernel, by decide +kernel, by decide +kernel⟩
set_option maxRecDepth 20000 in
theorem wn_X7_ifSick : Cond.instanceMethod yX7_ifSick ∈ zB := List.mem_filter.mpr ⟨List.mem_of_getElem? (i := 766) (by decide +kernel), by decide +kernel⟩
set_option maxRecDepth 20000 in
theorem ws_X7_ifSick : Cond.selects RX7 yX7_ifSick yX7_ifSick ∈ zB := List.mem_filter.mpr ⟨List.mem_of_getElem? (i := 767) (by decide +kernel), by decide +kernel⟩
theorem v_X7_ifSick : zVir yX7_ifSick 7 := ⟨wn_X7_ifSick, ws_X7_ifSick, TX7, 6, rfl⟩
set_option maxRecDepth 20000 in
theorem wc_X8_ifSick : Cond.code yX8_ifSick cX8_ifSick 3 (some .int) ∈ zB := List.mem_filter.mpr ⟨List.mem_of_getElem? (i := 1163) (by decide +kernel), by decide +kernel⟩
set_option maxRecDepth 20000 in
theorem wm_L_142 : Cond.methodLink RL 142 yX8_ifSick ∈ zB := List.mem_filter.mpr ⟨List.mem_of_getElem? (i := 1160) (by decide +kernel), by decide +kernel⟩
theorem k_L_142 : zCal RL 142 yX8_ifSick cX8_ifSick 3 (some .int) 2 := ⟨wm_L_142, wi_X8, wc_X8_ifSick, by decide +kernel, by decide +kernel, by decide +kernel⟩
set_option maxRecDepth 20000 in
theorem wn_X8_ifSick : Cond.instanceMethod yX8_ifSick ∈ zB := List.mem_filter.mpr ⟨List.mem_of_getElem? (i := 1161) (by decide +kernel), by decide +kernel⟩
set_option maxRecDepth 20000 in
theorem ws_X8_ifSick : Cond.selects RX8 yX8_ifSick yX8_ifSick ∈ zB := List.mem_filter.mpr ⟨List.mem_of_getElem? (i := 1162) (by decide +kernel), by decide +kernel⟩
theorem v_X8_ifSick : zVir yX8_ifSick 8 := ⟨wn_X8_ifSick, ws_X8_ifSick, TX8, 12, rfl⟩
set_option maxRecDepth 20000 in
theorem wc_X7_weakest : Cond.code yX7_weakest cX7_weakest 6 (some .int) ∈ zB := List.mem_filter.mpr ⟨List.mem_of_getElem? (i := 772) (by decide +kernel), by decide +kernel⟩
set_option maxRecDepth 20000 in
theorem wm_L_143 : Cond.methodLink RL 143 yX7_weakest ∈ zB := List.mem_filter.mpr ⟨List.mem_of_getElem? (i := 769) (by decide +kernel), by decide +kernel⟩
theorem k_L_143 : zCal RL 143 yX7_weakest cX7_weakest 6 (some .int) 1 := ⟨wm_L_143, wi_X7, wc_X7_weakest, by decide +kernel, by decide +kernel, by decide +kernel⟩
set_option maxRecDepth 20000 in
theorem wn_X7_weakest : Cond.instanceMethod yX7_weakest ∈ zB := List.mem_filter.mpr ⟨List.mem_of_getElem? (i := 770) (by decide +kernel), by decide +kernel⟩
set_option maxRecDepth 20000 in
theorem ws_X7_weakest : Cond.selects RX7 yX7_weakest yX7_weakest ∈ zB := List.mem_filter.mpr ⟨List.mem_of_getElem? (i := 771) (by decide +kernel), by decide +kernel⟩
theorem v_X7_weakest : zVir yX7_weakest 7 := ⟨wn_X7_weakest, ws_X7_weakest, TX7, 6, rfl⟩
set_option maxRecDepth 20000 in
theorem wc_X8_weakest : Cond.code yX8_weakest cX8_weakest 6 (some .int) ∈ zB := List.mem_filter.mpr ⟨List.mem_of_getElem? (i := 1171) (by decide +kernel), by decide +kernel⟩
set_option maxRecDepth 20000 in
theorem wm_L_146 : Cond.methodLink RL 146 yX8_weakest ∈ zB := List.mem_filter.mpr ⟨List.mem_of_getElem? (i := 1168) (by decide +kernel), by decide +kernel⟩
theorem k_L_146 : zCal RL 146 yX8_weakest cX8_weakest 6 (some .int) 1 := ⟨wm_L_146, wi_X8, wc_X8_weakest, by decide +kernel, by decide +kernel, by decide +kernel⟩
set_option maxRecDepth 20000 in
theorem wn_X8_weakest : Cond.instanceMethod yX8_weakest ∈ zB := List.mem_filter.mpr ⟨List.mem_of_getElem? (i := 1169) (by decide +kernel), by decide +kernel⟩
set_option maxRecDepth 20000 in
theorem ws_X8_weakest : Cond.selects RX8 yX8_weakest yX8_weakest ∈ zB := List.mem_filter.mpr ⟨List.mem_of_getElem? (i := 1170) (by decide +kernel), by decide +kernel⟩
theorem v_X8_weakest : zVir yX8_weakest 8 := ⟨wn_X8_weakest, ws_X8_weakest, TX8, 12, rfl⟩
set_option maxRecDepth 20000 in
theorem wc_X7_atRisk : Cond.code yX7_atRisk cX7_atRisk 1 (some .int) ∈ zB := List.mem_filter.mpr ⟨List.mem_of_getElem? (i := 776) (by decide +kernel), by decide +kernel⟩
set_option maxRecDepth 20000 in
theorem wm_L_147 : Cond.methodLink RL 147 yX7_atRisk ∈ zB := List.mem_filter.mpr ⟨List.mem_of_getElem? (i := 773) (by decide +kernel), by decide +kernel⟩
theorem k_L_147 : zCal RL 147 yX7_atRisk cX7_atRisk 1 (some .int) 0 := ⟨wm_L_147, wi_X7, wc_X7_atRisk, by decide +kernel, by decide +kernel, by decide +kernel⟩
set_option maxRecDepth 20000 in
theorem wn_X7_atRisk : Cond.instanceMethod yX7_atRisk ∈ zB := List.mem_filter.mpr ⟨List.mem_of_getElem? (i := 774) (by decide +kernel), by decide +kernel⟩
set_option maxRecDepth 20000 in
theorem ws_X7_atRisk : Cond.selects RX7 yX7_atRisk yX7_atRisk ∈ zB := List.mem_filter.mpr ⟨List.mem_of_getElem? (i := 775) (by decide +kernel), by decide +kernel⟩
theorem v_X7_atRisk : zVir yX7_atRisk 7 := ⟨wn_X7_atRisk, ws_X7_atRisk, TX7, 6, rfl⟩
set_option maxRecDepth 20000 in
theorem wc_X8_atRisk : Cond.code yX8_atRisk cX8_atRisk 3 (some .int) ∈ zB := List.mem_filter.mpr ⟨List.mem_of_getElem? (i := 1175) (by decide +kernel), by decide +kernel⟩
set_option maxRecDepth 20000 in
theorem wm_L_150 : Cond.methodLink RL 150 yX8_atRisk ∈ zB := List.mem_filter.mpr ⟨List.mem_of_getElem? (i := 1172) (by decide +kernel), by decide +kernel⟩
theorem k_L_150 : zCal RL 150 yX8_atRisk cX8_atRisk 3 (some .int) 0 := ⟨wm_L_150, wi_X8, wc_X8_atRisk, by decide +kernel, by decide +kernel, by decide +kernel⟩
set_option maxRecDepth 20000 in
theorem wn_X8_atRisk : Cond.instanceMethod yX8_atRisk ∈ zB := List.mem_filter.mpr ⟨List.mem_of_getElem? (i := 1173) (by decide +kernel), by decide +kernel⟩
set_option maxRecDepth 20000 in
theorem ws_X8_atRisk : Cond.selects RX8 yX8_atRisk yX8_atRisk ∈ zB := List.mem_filter.mpr ⟨List.mem_of_getElem? (i := 1174) (by decide +kernel), by decide +kernel⟩
theorem v_X8_atRisk : zVir yX8_atRisk 8 := ⟨wn_X8_atRisk, ws_X8_atRisk, TX8, 12, rfl⟩
set_option maxRecDepth 20000 in
theorem wc_X7_cancelledIn : Cond.code yX7_cancelledIn cX7_cancelledIn 2 (some .int) ∈ zB := List.mem_filter.mpr ⟨List.mem_of_getElem? (i := 784) (by decide +kernel), by decide +kernel⟩
set_option maxRecDepth 20000 in
theorem wm_L_151 : Cond.methodLink RL 151 yX7_cancelledIn ∈ zB := List.mem_filter.mpr ⟨List.mem_of_getElem? (i := 781) (by decide +kernel), by decide +kernel⟩
theorem k_L_151 : zCal RL 151 yX7_cancelledIn cX7_cancelledIn 2 (some .int) 1 := ⟨wm_L_151, wi_X7, wc_X7_cancelledIn, by decide +kernel, by decide +kernel, by decide +kernel⟩
set_option maxRecDepth 20000 in
theorem wn_X7_cancelledIn : Cond.instanceMethod yX7_cancelledIn ∈ zB := List.mem_filter.mpr ⟨List.mem_of_getElem? (i := 782) (by decide +kernel), by decide +kernel⟩
set_option maxRecDepth 20000 in
theorem ws_X7_cancelledIn : Cond.selects RX7 yX7_cancelledIn yX7_cancelledIn ∈ zB := List.mem_filter.mpr ⟨List.mem_of_getElem? (i := 783) (by decide +kernel), by decide +kernel⟩
theorem v_X7_cancelledIn : zVir yX7_cancelledIn 7 := ⟨wn_X7_cancelledIn, ws_X7_cancelledIn, TX7, 6, rfl⟩
set_option maxRecDepth 20000 in
theorem wc_X8_cancelledIn : Cond.code yX8_cancelledIn cX8_cancelledIn 4 (some .int) ∈ zB := List.mem_filter.mpr ⟨List.mem_of_getElem? (i := 1179) (by decide +kernel), by decide +kernel⟩
set_option maxRecDepth 20000 in
theorem wm_L_154 : Cond.methodLink RL 154 yX8_cancelledIn ∈ zB := List.mem_filter.mpr ⟨List.mem_of_getElem? (i := 1176) (by decide +kernel), by decide +kernel⟩
theorem k_L_154 : zCal RL 154 yX8_cancelledIn cX8_cancelledIn 4 (some .int) 1 := ⟨wm_L_154, wi_X8, wc_X8_cancelledIn, by decide +kernel, by decide +kernel, by decide +kernel⟩
set_option maxRecDepth 20000 in
theorem wn_X8_cancelledIn : Cond.instanceMethod yX8_cancelledIn ∈ zB := List.mem_filter.mpr ⟨List.mem_of_getElem? (i := 1177) (by decide +kernel), by decide +kernel⟩
set_option maxRecDepth 20000 in
theorem ws_X8_cancelledIn : Cond.selects RX8 yX8_cancelledIn yX8_cancelledIn ∈ zB := List.mem_filter.mpr ⟨List.mem_of_getElem? (i := 1178) (by decide +kernel), by decide +kernel⟩
theorem v_X8_cancelledIn : zVir yX8_cancelledIn 8 := ⟨wn_X8_cancelledIn, ws_X8_cancelledIn, TX8, 12, rfl⟩
set_option maxRecDepth 20000 in
theorem wc_X7_freshest : Cond.code yX7_freshest cX7_freshest 5 (some .int) ∈ zB := List.mem_filter.mpr ⟨List.mem_of_getElem? (i := 792) (by decide +kernel), by decide +kernel⟩
set_option maxRecDepth 20000 in
theorem wm_L_155 : Cond.methodLink RL 155 yX7_freshest ∈ zB := List.mem_filter.mpr ⟨List.mem_of_getElem? (i := 789) (by decide +kernel), by decide +kernel⟩
theorem k_L_155 : zCal RL 155 yX7_freshest cX7_freshest 5 (some .int) 0 := ⟨wm_L_155, wi_X7, wc_X7_freshest, by decide +kernel, by decide +kernel, by decide +kernel⟩
set_option maxRecDepth 20000 in
theorem wn_X7_freshest : Cond.instanceMethod yX7_freshest ∈ zB := List.mem_filter.mpr ⟨List.mem_of_getElem? (i := 790) (by decide +kernel), by decide +kernel⟩
set_option maxRecDepth 20000 in
theorem ws_X7_freshest : Cond.selects RX7 yX7_freshest yX7_freshest ∈ zB := List.mem_filter.mpr ⟨List.mem_of_getElem? (i := 791) (by decide +kernel), by decide +kernel⟩
theorem v_X7_freshest : zVir yX7_freshest 7 := ⟨wn_X7_freshest, ws_X7_freshest, TX7, 6, rfl⟩
set_option maxRecDepth 20000 in
theorem wc_X8_freshest : Cond.code yX8_freshest cX8_freshest 5 (some .int) ∈ zB := List.mem_filter.mpr ⟨List.mem_of_getElem? (i := 1183) (by decide +kernel), by decide +kernel⟩
set_option maxRecDepth 20000 in
theorem wm_L_158 : Cond.methodLink RL 158 yX8_freshest ∈ zB := List.mem_filter.mpr ⟨List.mem_of_getElem? (i := 1180) (by decide +kernel), by decide +kernel⟩
theorem k_L_158 : zCal RL 158 yX8_freshest cX8_freshest 5 (some .int) 0 := ⟨wm_L_158, wi_X8, wc_X8_freshest, by decide +kernel, by decide +kernel, by decide +kernel⟩
set_option maxRecDepth 20000 in
theorem wn_X8_freshest : Cond.instanceMethod yX8_freshest ∈ zB := List.mem_filter.mpr ⟨List.mem_of_getElem? (i := 1181) (by decide +kernel), by decide +kernel⟩
set_option maxRecDepth 20000 in
theorem ws_X8_freshest : Cond.selects RX8 yX8_freshest yX8_freshest ∈ zB := List.mem_filter.mpr ⟨List.mem_of_getElem? (i := 1182) (by decide +kernel), by decide +kernel⟩
theorem v_X8_freshest : zVir yX8_freshest 8 := ⟨wn_X8_freshest, ws_X8_freshest, TX8, 12, rfl⟩
set_option maxHeartbeats 4000000 in
set_option maxRecDepth 20000 in
theorem t_L_1175 {p : Program} {l : Launch} {e : Env} {s : State} {m : MethodId} {below : List Frame} {meth : Method} {c : Code} {G : zG} {b L : Nat} {xs : Nat → Int32} (Z : zF p s m #[Value.ref b] c meth cL_law 4 RL G) (hr : meth.sig.returnType = ret) (hX : (va_X b L xs s s.heap ∧ b < s.heap.size ∧ ¬ zA G b) ∧ G.2.2 = s.heap.size) {o : zHp} {r18 : Nat → Nat → Int32 → zHp → Option (Int32 × zHp)} (k18 : ∀ {a1 : Nat} {a2 : Nat} {a3 : Int32} {h : zHp} {H : Heap} {locs : List Loc} {ls : Array Slot} {cells slots : Nat}, r18 a1 a2 a3 h = some (1, o) → zE G s h H locs → lv_has ls 4 [(0, .ref b), (1, .ref a1), (2, .ref a2), (3, .int a3)] → cells + 0 ≤ 600000 → slots + 0 ≤ 7302250 → W p l e room_1 s m #[Value.ref b] below meth c H locs cells slots (lw_Z below #[Value.ref b] s) (F0 m 18 ls [])) {a1 : Nat} {a2 : Nat} {a3 : Int32} {h : zHp} {H : Heap} {locs : List Loc} {ls : Array Slot} {cells slots : Nat} (hf : f_L_1175 L xs r18 a1 a2 a3 h = some (1, o)) (E : zE G s h H locs) (hl : lv_has ls 4 [(0, .ref b), (1, .ref a1), (2, .ref a2), (3, .int a3)]) (hc : cells + 0 ≤ 600000) (hs : slots + 0 ≤ 7302250) : W p l e room_1 s m #[Value.ref b] below meth c H locs cells slots (lw_Z below #[Value.ref b] s) (F0 m 1175 ls []) := by
  unfold f_L_1175 at hf
  refine lv_iinc (v := (a3 + 5)) (lv' := [(3, .int (a3 + 5)), (0, .ref b), (1, .ref a1), (2, .ref a2)]) Z.x Z.b dL_law_1175 hl (k := 3) rfl rfl (by decide) rfl (fun ls hl => ?_)
  refine lv_goto (tgt := 18) Z.x Z.b dL_law_1178 (by decide) ?_
  exact k18 hf E (lv_sub hl [1, 2, 3, 0] rfl) (by omega) (by omega)
set_option maxHeartbeats 4000000 in
set_option maxRecDepth 20000 in
theorem t_L_18_body {p : Program} {l : Launch} {e : Env} {s : State} {m : MethodId} {below : List Frame} {meth : Method} {c : Code} {G : zG} {b L : Nat} {xs : Nat → Int32} (Z : zF p s m #[Value.ref b] c meth cL_law 4 RL G) (hr : meth.sig.returnType = ret) (hX : (va_X b L xs s s.heap ∧ b < s.heap.size ∧ ¬ zA G b) ∧ G.2.2 = s.heap.size) {o : zHp} {r18 : Nat → Nat → Int32 → zHp → Option (Int32 × zHp)} (k18 : ∀ {a1 : Nat} {a2 : Nat} {a3 : Int32} {h : zHp} {H : Heap} {locs : List Loc} {ls : Array Slot} {cells slots : Nat}, r18 a1 a2 a3 h = some (1, o) → zE G s h H locs → lv_has ls 4 [(0, .ref b), (1, .ref a1), (2, .ref a2), (3, .int a3)] → cells + 0 ≤ 600000 → slots + 0 ≤ 7302250 → W p l e room_1 s m #[Value.ref b] below meth c H locs cells slots (lw_Z below #[Value.ref b] s) (F0 m 18 ls [])) {a1 : Nat} {a2 : Nat} {a3 : Int32} {h : zHp} {H : Heap} {locs : List Loc} {ls : Array Slot} {cells slots : Nat} (hf : f_L_18_body L xs r18 a1 a2 a3 h = some (1, o)) (E : zE G s h H locs) (hl : lv_has ls 4 [(0, .ref b), (1, .ref a1), (2, .ref a2), (3, .int a3)]) (hc : cells + 0 ≤ 600000) (hs : slots + 0 ≤ 7302250) : W p l e room_1 s m #[Value.ref b] below meth c H locs cells slots (lw_Z below #[Value.ref b] s) (F0 m 18 ls []) := by
  unfold f_L_18_body at hf
  refine lv_iload_n Z.x Z.b dL_law_18 rfl (lv_at hl 3 rfl) ?_
  refine lv_aload_n Z.x Z.b dL_law_19 rfl (lv_at hl 0 rfl) ?_
  refine va_slen Z.x Z.b hX.1.1 hX.1.2.1 hX.1.2.2 E.2 dL_law_20 ?_
  refine lv_iconst (v := 5) Z.x Z.b dL_law_21 (by decide) ?_
  refine lv_isub Z.x Z.b dL_law_22 ?_
  refine lv_icmp_gt (tgt := 1181) Z.x Z.b dL_law_23 (by decide) (fun c => ?_) (fun c => ?_)
  · have hf := zit hf c
    refine lv_iconst (v := 1) Z.x Z.b dL_law_1181 (by decide) ?_
    exact z_lret Z hr hX.2 E (by omega) (by omega) dL_law_1182
  · have hf := zif_ hf c
    refine lv_aload_n Z.x Z.b dL_law_26 rfl (lv_at hl 0 rfl) ?_
    refine lv_iload_n Z.x Z.b dL_law_27 rfl (lv_at hl 3 rfl) ?_
    refine z_sld Z E hX.1 dL_law_28 hf (fun v1 hf => ?_)
    refine lv_bipush (v := 63) Z.x Z.b dL_law_29 (by decide) ?_
    refine lv_iand Z.x Z.b dL_law_31 ?_
    by_cases c0 : (v1 &&& 63) = 0
    · have hf := zit hf c0
      refine lv_tableIn (tgt := 188) Z.x Z.b dL_law_32 (by rw [c0]; decide) (by rw [c0]; decide) (by rw [c0]; rfl) (by decide) ?_
      refine lv_aload_n Z.x Z.b dL_law_188 rfl (lv_at hl 1 rfl) ?_
      refine lv_aload_n Z.x Z.b dL_law_189 rfl (lv_at hl 0 rfl) ?_
      refine lv_iload_n Z.x Z.b dL_law_190 rfl (lv_at hl 3 rfl) ?_
      refine lv_iconst (v := 1) Z.x Z.b dL_law_191 (by decide) ?_
      refine lv_iadd Z.x Z.b dL_law_192 ?_
      refine z_sld Z E hX.1 dL_law_193 hf (fun v2 hf => ?_)
      refine lv_aload_n Z.x Z.b dL_law_194 rfl (lv_at hl 0 rfl) ?_
      refine lv_iload_n Z.x Z.b dL_law_195 rfl (lv_at hl 3 rfl) ?_
      refine lv_iconst (v := 2) Z.x Z.b dL_law_196 (by decide) ?_
      refine lv_iadd Z.x Z.b dL_law_197 ?_
      refine z_sld Z E hX.1 dL_law_198 hf (fun v3 hf => ?_)
      refine lv_aload_n Z.x Z.b dL_law_199 rfl (lv_at hl 0 rfl) ?_
      refine lv_iload_n Z.x Z.b dL_law_200 rfl (lv_at hl 3 rfl) ?_
      refine lv_iconst (v := 3) Z.x Z.b dL_law_201 (by decide) ?_
      refine lv_iadd Z.x Z.b dL_law_202 ?_
      refine z_sld Z E hX.1 dL_law_203 hf (fun v4 hf => ?_)
      refine lv_aload_n Z.x Z.b dL_law_204 rfl (lv_at hl 0 rfl) ?_
      refine lv_iload_n Z.x Z.b dL_law_205 rfl (lv_at hl 3 rfl) ?_
      refine lv_iconst (v := 4) Z.x Z.b dL_law_206 (by decide) ?_
      refine lv_iadd Z.x Z.b dL_law_207 ?_
      refine z_sld Z E hX.1 dL_law_208 hf (fun v5 hf => ?_)
      refine z_Vi (As := [.int v2, .int v3, .int v4, .int v5]) Z E hl.1 k_L_13 v_X7_sailing hf (fun r h' e => c_X7_sailing l G h h' a1 v2 v3 v4 v5 r e) rfl rfl (Nat.le_of_ble_eq_true rfl) (zRm_of rfl (show _ ≤ 600000 by omega) (show _ ≤ 7302250 by omega)) dL_law_209 (fun v6 h7 H locs hf E => ?_)
      refine lv_aload_n Z.x Z.b dL_law_212 rfl (lv_at hl 2 rfl) ?_
      refine lv_aload_n Z.x Z.b dL_law_213 rfl (lv_at hl 0 rfl) ?_
      refine lv_iload_n Z.x Z.b dL_law_214 rfl (lv_at hl 3 rfl) ?_
      refine lv_iconst (v := 1) Z.x Z.b dL_law_215 (by decide) ?_
      refine lv_iadd Z.x Z.b dL_law_216 ?_
      refine z_sld Z E hX.1 dL_law_217 hf (fun v8 hf => ?_)
      refine lv_aload_n Z.x Z.b dL_law_218 rfl (lv_at hl 0 rfl) ?_
      refine lv_iload_n Z.x Z.b dL_law_219 rfl (lv_at hl 3 rfl) ?_
      refine lv_iconst (v := 2) Z.x Z.b dL_law_220 (by decide) ?_
      refine lv_iadd Z.x Z.b dL_law_221 ?_
      refine z_sld Z E hX.1 dL_law_222 hf (fun v9 hf => ?_)
      refine lv_aload_n Z.x Z.b dL_law_223 rfl (lv_at hl 0 rfl) ?_
      refine lv_iload_n Z.x Z.b dL_law_224 rfl (lv_at hl 3 rfl) ?_
      refine lv_iconst (v := 3) Z.x Z.b dL_law_225 (by decide) ?_
      refine lv_iadd Z.x Z.b dL_law_226 ?_
      refine z_sld Z E hX.1 dL_law_227 hf (fun v10 hf => ?_)
      refine lv_aload_n Z.x Z.b dL_law_228 rfl (lv_at hl 0 rfl) ?_
      refine lv_iload_n Z.x Z.b dL_law_229 rfl (lv_at hl 3 rfl) ?_
      refine lv_iconst (v := 4) Z.x Z.b dL_law_230 (by decide) ?_
      refine lv_iadd Z.x Z.b dL_law_231 ?_
      refine z_sld Z E hX.1 dL_law_232 hf (fun v11 hf => ?_)
      refine z_Vi (As := [.int v8, .int v9, .int v10, .int v11]) Z E hl.1 k_L_17 v_X8_sailing hf (fun r h' e => c_X8_sailing l G h7 h' a2 v8 v9 v10 v11 r e) rfl rfl (Nat.le_of_ble_eq_true rfl) (zRm_of rfl (show _ ≤ 600000 by omega) (show _ ≤ 7302250 by omega)) dL_law_233 (fun v12 h13 H locs hf E => ?_)
      refine lv_icmp_eq (tgt := 1175) Z.x Z.b dL_law_236 (by decide) (fun c => ?_) (fun c => ?_)
      · have hf := zit hf c
        exact t_L_1175 Z hr hX k18 hf E (lv_sub hl [0, 1, 2, 3] rfl) (by omega) (by omega)
      · have hf := zif_ hf c
        refine lv_iconst (v := 0) Z.x Z.b dL_law_239 (by decide) ?_
        exact absurd (show (0 : Int32) = 1 from congrArg Prod.fst (Option.some.inj hf)) (by decide)
    · have hf := zif_ hf c0
      by_cases c1 : (v1 &&& 63) = 1
      · have hf := zit hf c1
        refine lv_tableIn (tgt := 241) Z.x Z.b dL_law_32 (by rw [c1]; decide) (by rw [c1]; decide) (by rw [c1]; rfl) (by decide) ?_
        refine lv_aload_n Z.x Z.b dL_law_241 rfl (lv_at hl 1 rfl) ?_
        refine z_Vi (As := []) Z E hl.1 k_L_18 v_X7_sailings hf (fun r h' e => c_X7_sailings l G h h' a1 r e) rfl rfl (Nat.le_of_ble_eq_true rfl) (zRm_of rfl (show _ ≤ 600000 by omega) (show _ ≤ 7302250 by omega)) dL_law_242 (fun v14 h15 H locs hf E => ?_)
        refine lv_aload_n Z.x Z.b dL_law_245 rfl (lv_at hl 2 rfl) ?_
        refine z_Vi (As := []) Z E hl.1 k_L_22 v_X8_sailings hf (fun r h' e => c_X8_sailings l G h15 h' a2 r e) rfl rfl (Nat.le_of_ble_eq_true rfl) (zRm_of rfl (show _ ≤ 600000 by omega) (show _ ≤ 7302250 by omega)) dL_law_246 (fun v16 h17 H locs hf E => ?_)
        refine lv_icmp_eq (tgt := 1175) Z.x Z.b dL_law_249 (by decide) (fun c => ?_) (fun c => ?_)
        · have hf := zit hf c
          exact t_L_1175 Z hr hX k18 hf E (lv_sub hl [0, 1, 2, 3] rfl) (by omega) (by omega)
        · have hf := zif_ hf c
          refine lv_iconst (v := 0) Z.x Z.b dL_law_252 (by decide) ?_
          exact absurd (show (0 : Int32) = 1 from congrArg Prod.fst (Option.some.inj hf)) (by decide)
      · have hf := zif_ hf c1
        by_cases c2 : (v1 &&& 63) = 2
        · have hf := zit hf c2
          refine lv_tableIn (tgt := 254) Z.x Z.b dL_law_32 (by rw [c2]; decide) (by rw [c2]; decide) (by rw [c2]; rfl) (by decide) ?_
          refine lv_aload_n Z.x Z.b dL_law_254 rfl (lv_at hl 1 rfl) ?_
          refine lv_aload_n Z.x Z.b dL_law_255 rfl (lv_at hl 0 rfl) ?_
          refine lv_iload_n Z.x Z.b dL_law_256 rfl (lv_at hl 3 rfl) ?_
          refine lv_iconst (v := 1) Z.x Z.b dL_law_257 (by decide) ?_
          refine lv_iadd Z.x Z.b dL_law_258 ?_
          refine z_sld Z E hX.1 dL_law_259 hf (fun v18 hf => ?_)
          refine z_Vi (As := [.int v18]) Z E hl.1 k_L_23 v_X7_cancel hf (fun r h' e => c_X7_cancel l G h h' a1 v18 r e) rfl rfl (Nat.le_of_ble_eq_true rfl) (zRm_of rfl (show _ ≤ 600000 by omega) (show _ ≤ 7302250 by omega)) dL_law_260 (fun v19 h20 H locs hf E => ?_)
          refine lv_aload_n Z.x Z.b dL_law_263 rfl (lv_at hl 2 rfl) ?_
          refine lv_aload_n Z.x Z.b dL_law_264 rfl (lv_at hl 0 rfl) ?_
          refine lv_iload_n Z.x Z.b dL_law_265 rfl (lv_at hl 3 rfl) ?_
          refine lv_iconst (v := 1) Z.x Z.b dL_law_266 (by decide) ?_
          refine lv_iadd Z.x Z.b dL_law_267 ?_
          refine z_sld Z E hX.1 dL_law_268 hf (fun v21 hf => ?_)
          refine z_Vi (As := [.int v21]) Z E hl.1 k_L_27 v_X8_cancel hf (fun r h' e => c_X8_cancel l G h20 h' a2 v21 r e) rfl rfl (Nat.le_of_ble_eq_true rfl) (zRm_of rfl (show _ ≤ 600000 by omega) (show _ ≤ 7302250 by omega)) dL_law_269 (fun v22 h23 H locs hf E => ?_)
          refine lv_icmp_eq (tgt := 1175) Z.x Z.b dL_law_272 (by decide) (fun c => ?_) (fun c => ?_)
          · have hf := zit hf c
            exact t_L_1175 Z hr hX k18 hf E (lv_sub hl [0, 1, 2, 3] rfl) (by omega) (by omega)
          · have hf := zif_ hf c
            refine lv_iconst (v := 0) Z.x Z.b dL_law_275 (by decide) ?_
            exact absurd (show (0 : Int32) = 1 from congrArg Prod.fst (Option.some.inj hf)) (by decide)
        · have hf := zif_ hf c2
          by_cases c3 : (v1 &&& 63) = 3
          · have hf := zit hf c3
            refine lv_tableIn (tgt := 277) Z.x Z.b dL_law_32 (by rw [c3]; decide) (by rw [c3]; decide) (by rw [c3]; rfl) (by decide) ?_
            refine lv_aload_n Z.x Z.b dL_law_277 rfl (lv_at hl 1 rfl) ?_
            refine lv_aload_n Z.x Z.b dL_law_278 rfl (lv_at hl 0 rfl) ?_
            refine lv_iload_n Z.x Z.b dL_law_279 rfl (lv_at hl 3 rfl) ?_
            refine lv_iconst (v := 1) Z.x Z.b dL_law_280 (by decide) ?_
            refine lv_iadd Z.x Z.b dL_law_281 ?_
            refine z_sld Z E hX.1 dL_law_282 hf (fun v24 hf => ?_)
            refine lv_aload_n Z.x Z.b dL_law_283 rfl (lv_at hl 0 rfl) ?_
            refine lv_iload_n Z.x Z.b dL_law_284 rfl (lv_at hl 3 rfl) ?_
            refine lv_iconst (v := 2) Z.x Z.b dL_law_285 (by decide) ?_
            refine lv_iadd Z.x Z.b dL_law_286 ?_
            refine z_sld Z E hX.1 dL_law_287 hf (fun v25 hf => ?_)
            refine z_Vi (As := [.int v24, .int v25]) Z E hl.1 k_L_28 v_X7_member hf (fun r h' e => c_X7_member l G h h' a1 v24 v25 r e) rfl rfl (Nat.le_of_ble_eq_true rfl) (zRm_of rfl (show _ ≤ 600000 by omega) (show _ ≤ 7302250 by omega)) dL_law_288 (fun v26 h27 H locs hf E => ?_)
            refine lv_aload_n Z.x Z.b dL_law_291 rfl (lv_at hl 2 rfl) ?_
            refine lv_aload_n Z.x Z.b dL_law_292 rfl (lv_at hl 0 rfl) ?_
            refine lv_iload_n Z.x Z.b dL_law_293 rfl (lv_at hl 3 rfl) ?_
            refine lv_iconst (v := 1) Z.x Z.b dL_law_294 (by decide) ?_
            refine lv_iadd Z.x Z.b dL_law_295 ?_
            refine z_sld Z E hX.1 dL_law_296 hf (fun v28 hf => ?_)
            refine lv_aload_n Z.x Z.b dL_law_297 rfl (lv_at hl 0 rfl) ?_
            refine lv_iload_n Z.x Z.b dL_law_298 rfl (lv_at hl 3 rfl) ?_
            refine lv_iconst (v := 2) Z.x Z.b dL_law_299 (by decide) ?_
            refine lv_iadd Z.x Z.b dL_law_300 ?_
            refine z_sld Z E hX.1 dL_law_301 hf (fun v29 hf => ?_)
            refine z_Vi (As := [.int v28, .int v29]) Z E hl.1 k_L_32 v_X8_member hf (fun r h' e => c_X8_member l G h27 h' a2 v28 v29 r e) rfl rfl (Nat.le_of_ble_eq_true rfl) (zRm_of rfl (show _ ≤ 600000 by omega) (show _ ≤ 7302250 by omega)) dL_law_302 (fun v30 h31 H locs hf E => ?_)
            refine lv_icmp_eq (tgt := 1175) Z.x Z.b dL_law_305 (by decide) (fun c => ?_) (fun c => ?_)
            · have hf := zit hf c
              exact t_L_1175 Z hr hX k18 hf E (lv_sub hl [0, 1, 2, 3] rfl) (by omega) (by omega)
            · have hf := zif_ hf c
              refine lv_iconst (v := 0) Z.x Z.b dL_law_308 (by decide) ?_
              exact absurd (show (0 : Int32) = 1 from congrArg Prod.fst (Option.some.inj hf)) (by decide)
          · have hf := zif_ hf c3
            by_cases c4 : (v1 &&& 63) = 4
            · have hf := zit hf c4
              refine lv_tableIn (tgt := 310) Z.x Z.b dL_law_32 (by rw [c4]; decide) (by rw [c4]; decide) (by rw [c4]; rfl) (by decide) ?_
              refine lv_aload_n Z.x Z.b dL_law_310 rfl (lv_at hl 1 rfl) ?_
              refine lv_aload_n Z.x Z.b dL_law_311 rfl (lv_at hl 0 rfl) ?_
              refine lv_iload_n Z.x Z.b dL_law_312 rfl (lv_at hl 3 rfl) ?_
              refine lv_iconst (v := 1) Z.x Z.b dL_law_313 (by decide) ?_
              refine lv_iadd Z.x Z.b dL_law_314 ?_
              refine z_sld Z E hX.1 dL_law_315 hf (fun v32 hf => ?_)
              refine lv_aload_n Z.x Z.b dL_law_316 rfl (lv_at hl 0 rfl) ?_
              refine lv_iload_n Z.x Z.b dL_law_317 rfl (lv_at hl 3 rfl) ?_
              refine lv_iconst (v := 2) Z.x Z.b dL_law_318 (by decide) ?_
              refine lv_iadd Z.x Z.b dL_law_319 ?_
              refine z_sld Z E hX.1 dL_law_320 hf (fun v33 hf => ?_)
              refine lv_aload_n Z.x Z.b dL_law_321 rfl (lv_at hl 0 rfl) ?_
              refine lv_iload_n Z.x Z.b dL_law_322 rfl (lv_at hl 3 rfl) ?_
              refine lv_iconst (v := 3) Z.x Z.b dL_law_323 (by decide) ?_
              refine lv_iadd Z.x Z.b dL_law_324 ?_
              refine z_sld Z E hX.1 dL_law_325 hf (fun v34 hf => ?_)
              refine z_Vi (As := [.int v32, .int v33, .int v34]) Z E hl.1 k_L_33 v_X7_certify hf (fun r h' e => c_X7_certify l G h h' a1 v32 v33 v34 r e) rfl rfl (Nat.le_of_ble_eq_true rfl) (zRm_of rfl (show _ ≤ 600000 by omega) (show _ ≤ 7302250 by omega)) dL_law_326 (fun v35 h36 H locs hf E => ?_)
              refine lv_aload_n Z.x Z.b dL_law_329 rfl (lv_at hl 2 rfl) ?_
              refine lv_aload_n Z.x Z.b dL_law_330 rfl (lv_at hl 0 rfl) ?_
              refine lv_iload_n Z.x Z.b dL_law_331 rfl (lv_at hl 3 rfl) ?_
              refine lv_iconst (v := 1) Z.x Z.b dL_law_332 (by decide) ?_
              refine lv_iadd Z.x Z.b dL_law_333 ?_
              refine z_sld Z E hX.1 dL_law_334 hf (fun v37 hf => ?_)
              refine lv_aload_n Z.x Z.b dL_law_335 rfl (lv_at hl 0 rfl) ?_
              refine lv_iload_n Z.x Z.b dL_law_336 rfl (lv_at hl 3 rfl) ?_
              refine lv_iconst (v := 2) Z.x Z.b dL_law_337 (by decide) ?_
              refine lv_iadd Z.x Z.b dL_law_338 ?_
              refine z_sld Z E hX.1 dL_law_339 hf (fun v38 hf => ?_)
              refine lv_aload_n Z.x Z.b dL_law_340 rfl (lv_at hl 0 rfl) ?_
              refine lv_iload_n Z.x Z.b dL_law_341 rfl (lv_at hl 3 rfl) ?_
              refine lv_iconst (v := 3) Z.x Z.b dL_law_342 (by decide) ?_
              refine lv_iadd Z.x Z.b dL_law_343 ?_
              refine z_sld Z E hX.1 dL_law_344 hf (fun v39 hf => ?_)
              refine z_Vi (As := [.int v37, .int v38, .int v39]) Z E hl.1 k_L_37 v_X8_certify hf (fun r h' e => c_X8_certify l G h36 h' a2 v37 v38 v39 r e) rfl rfl (Nat.le_of_ble_eq_true rfl) (zRm_of rfl (show _ ≤ 600000 by omega) (show _ ≤ 7302250 by omega)) dL_law_345 (fun v40 h41 H locs hf E => ?_)
              refine lv_icmp_eq (tgt := 1175) Z.x Z.b dL_law_348 (by decide) (fun c => ?_) (fun c => ?_)
              · have hf := zit hf c
                exact t_L_1175 Z hr hX k18 hf E (lv_sub hl [0, 1, 2, 3] rfl) (by omega) (by omega)
              · have hf := zif_ hf c
                refine lv_iconst (v := 0) Z.x Z.b dL_law_351 (by decide) ?_
                exact absurd (show (0 : Int32) = 1 from congrArg Prod.fst (Option.some.inj hf)) (by decide)
            · have hf := zif_ hf c4
              by_cases c5 : (v1 &&& 63) = 5
              · have hf := zit hf c5
                refine lv_tableIn (tgt := 353) Z.x Z.b dL_law_32 (by rw [c5]; decide) (by rw [c5]; decide) (by rw [c5]; rfl) (by decide) ?_
                refine lv_aload_n Z.x Z.b dL_law_353 rfl (lv_at hl 1 rfl) ?_
                refine lv_aload_n Z.x Z.b dL_law_354 rfl (lv_at hl 0 rfl) ?_
                refine lv_iload_n Z.x Z.b dL_law_355 rfl (lv_at hl 3 rfl) ?_
                refine lv_iconst (v := 1) Z.x Z.b dL_law_356 (by decide) ?_
                refine lv_iadd Z.x Z.b dL_law_357 ?_
                refine z_sld Z E hX.1 dL_law_358 hf (fun v42 hf => ?_)
                refine lv_aload_n Z.x Z.b dL_law_359 rfl (lv_at hl 0 rfl) ?_
                refine lv_iload_n Z.x Z.b dL_law_360 rfl (lv_at hl 3 rfl) ?_
                refine lv_iconst (v := 2) Z.x Z.b dL_law_361 (by decide) ?_
                refine lv_iadd Z.x Z.b dL_law_362 ?_
                refine z_sld Z E hX.1 dL_law_363 hf (fun v43 hf => ?_)
                refine z_Vi (As := [.int v42, .int v43]) Z E hl.1 k_L_38 v_X7_climb hf (fun r h' e => c_X7_climb l G h h' a1 v42 v43 r e) rfl rfl (Nat.le_of_ble_eq_true rfl) (zRm_of rfl (show _ ≤ 600000 by omega) (show _ ≤ 7302250 by omega)) dL_law_364 (fun v44 h45 H locs hf E => ?_)
                refine lv_aload_n Z.x Z.b dL_law_367 rfl (lv_at hl 2 rfl) ?_
                refine lv_aload_n Z.x Z.b dL_law_368 rfl (lv_at hl 0 rfl) ?_
                refine lv_iload_n Z.x Z.b dL_law_369 rfl (lv_at hl 3 rfl) ?_
                refine lv_iconst (v := 1) Z.x Z.b dL_law_370 (by decide) ?_
                refine lv_iadd Z.x Z.b dL_law_371 ?_
                refine z_sld Z E hX.1 dL_law_372 hf (fun v46 hf => ?_)
                refine lv_aload_n Z.x Z.b dL_law_373 rfl (lv_at hl 0 rfl) ?_
                refine lv_iload_n Z.x Z.b dL_law_374 rfl (lv_at hl 3 rfl) ?_
                refine lv_iconst (v := 2) Z.x Z.b dL_law_375 (by decide) ?_
                refine lv_iadd Z.x Z.b dL_law_376 ?_
                refine z_sld Z E hX.1 dL_law_377 hf (fun v47 hf => ?_)
                refine z_Vi (As := [.int v46, .int v47]) Z E hl.1 k_L_41 v_X8_climb hf (fun r h' e => c_X8_climb l G h45 h' a2 v46 v47 r e) rfl rfl (Nat.le_of_ble_eq_true rfl) (zRm_of rfl (show _ ≤ 600000 by omega) (show _ ≤ 7302250 by omega)) dL_law_378 (fun v48 h49 H locs hf E => ?_)
                refine lv_icmp_eq (tgt := 1175) Z.x Z.b dL_law_381 (by decide) (fun c => ?_) (fun c => ?_)
                · have hf := zit hf c
                  exact t_L_1175 Z hr hX k18 hf E (lv_sub hl [0, 1, 2, 3] rfl) (by omega) (by omega)
                · have hf := zif_ hf c
                  refine lv_iconst (v := 0) Z.x Z.b dL_law_384 (by decide) ?_
                  exact absurd (show (0 : Int32) = 1 from congrArg Prod.fst (Option.some.inj hf)) (by decide)
              · have hf := zif_ hf c5
                by_cases c6 : (v1 &&& 63) = 6
                · have hf := zit hf c6
                  refine lv_tableIn (tgt := 386) Z.x Z.b dL_law_32 (by rw [c6]; decide) (by rw [c6]; decide) (by rw [c6]; rfl) (by decide) ?_
                  refine lv_aload_n Z.x Z.b dL_law_386 rfl (lv_at hl 1 rfl) ?_
                  refine lv_aload_n Z.x Z.b dL_law_387 rfl (lv_at hl 0 rfl) ?_
                  refine lv_iload_n Z.x Z.b dL_law_388 rfl (lv_at hl 3 rfl) ?_
                  refine lv_iconst (v := 1) Z.x Z.b dL_law_389 (by decide) ?_
                  refine lv_iadd Z.x Z.b dL_law_390 ?_
                  refine z_sld Z E hX.1 dL_law_391 hf (fun v50 hf => ?_)
                  refine lv_aload_n Z.x Z.b dL_law_392 rfl (lv_at hl 0 rfl) ?_
                  refine lv_iload_n Z.x Z.b dL_law_393 rfl (lv_at hl 3 rfl) ?_
                  refine lv_iconst (v := 2) Z.x Z.b dL_law_394 (by decide) ?_
                  refine lv_iadd Z.x Z.b dL_law_395 ?_
                  refine z_sld Z E hX.1 dL_law_396 hf (fun v51 hf => ?_)
                  refine z_Vi (As := [.int v50, .int v51]) Z E hl.1 k_L_42 v_X7_leave hf (fun r h' e => c_X7_leave l G h h' a1 v50 v51 r e) rfl rfl (Nat.le_of_ble_eq_true rfl) (zRm_of rfl (show _ ≤ 600000 by omega) (show _ ≤ 7302250 by omega)) dL_law_397 (fun v52 h53 H locs hf E => ?_)
                  refine lv_aload_n Z.x Z.b dL_law_400 rfl (lv_at hl 2 rfl) ?_
                  refine lv_aload_n Z.x Z.b dL_law_401 rfl (lv_at hl 0 rfl) ?_
                  refine lv_iload_n Z.x Z.b dL_law_402 rfl (lv_at hl 3 rfl) ?_
                  refine lv_iconst (v := 1) Z.x Z.b dL_law_403 (by decide) ?_
                  refine lv_iadd Z.x Z.b dL_law_404 ?_
                  refine z_sld Z E hX.1 dL_law_405 hf (fun v54 hf => ?_)
                  refine lv_aload_n Z.x Z.b dL_law_406 rfl (lv_at hl 0 rfl) ?_
                  refine lv_iload_n Z.x Z.b dL_law_407 rfl (lv_at hl 3 rfl) ?_
                  refine lv_iconst (v := 2) Z.x Z.b dL_law_408 (by decide) ?_
                  refine lv_iadd Z.x Z.b dL_law_409 ?_
                  refine z_sld Z E hX.1 dL_law_410 hf (fun v55 hf => ?_)
                  refine z_Vi (As := [.int v54, .int v55]) Z E hl.1 k_L_45 v_X8_leave hf (fun r h' e => c_X8_leave l G h53 h' a2 v54 v55 r e) rfl rfl (Nat.le_of_ble_eq_true rfl) (zRm_of rfl (show _ ≤ 600000 by omega) (show _ ≤ 7302250 by omega)) dL_law_411 (fun v56 h57 H locs hf E => ?_)
                  refine lv_icmp_eq (tgt := 1175) Z.x Z.b dL_law_414 (by decide) (fun c => ?_) (fun c => ?_)
                  · have hf := zit hf c
                    exact t_L_1175 Z hr hX k18 hf E (lv_sub hl [0, 1, 2, 3] rfl) (by omega) (by omega)
                  · have hf := zif_ hf c
                    refine lv_iconst (v := 0) Z.x Z.b dL_law_417 (by decide) ?_
                    exact absurd (show (0 : Int32) = 1 from congrArg Prod.fst (Option.some.inj hf)) (by decide)
                · have hf := zif_ hf c6
                  by_cases c7 : (v1 &&& 63) = 7
                  · have hf := zit hf c7
                    refine lv_tableIn (tgt := 419) Z.x Z.b dL_law_32 (by rw [c7]; decide) (by rw [c7]; decide) (by rw [c7]; rfl) (by decide) ?_
                    refine lv_aload_n Z.x Z.b dL_law_419 rfl (lv_at hl 1 rfl) ?_
                    refine lv_aload_n Z.x Z.b dL_law_420 rfl (lv_at hl 0 rfl) ?_
                    refine lv_iload_n Z.x Z.b dL_law_421 rfl (lv_at hl 3 rfl) ?_
                    refine lv_iconst (v := 1) Z.x Z.b dL_law_422 (by decide) ?_
                    refine lv_iadd Z.x Z.b dL_law_423 ?_
                    refine z_sld Z E hX.1 dL_law_424 hf (fun v58 hf => ?_)
                    refine lv_aload_n Z.x Z.b dL_law_425 rfl (lv_at hl 0 rfl) ?_
                    refine lv_iload_n Z.x Z.b dL_law_426 rfl (lv_at hl 3 rfl) ?_
                    refine lv_iconst (v := 2) Z.x Z.b dL_law_427 (by decide) ?_
                    refine lv_iadd Z.x Z.b dL_law_428 ?_
                    refine z_sld Z E hX.1 dL_law_429 hf (fun v59 hf => ?_)
                    refine z_Vi (As := [.int v58, .int v59]) Z E hl.1 k_L_46 v_X7_sick hf (fun r h' e => c_X7_sick l G h h' a1 v58 v59 r e) rfl rfl (Nat.le_of_ble_eq_true rfl) (zRm_of rfl (show _ ≤ 600000 by omega) (show _ ≤ 7302250 by omega)) dL_law_430 (fun v60 h61 H locs hf E => ?_)
                    refine lv_aload_n Z.x Z.b dL_law_433 rfl (lv_at hl 2 rfl) ?_
                    refine lv_aload_n Z.x Z.b dL_law_434 rfl (lv_at hl 0 rfl) ?_
                    refine lv_iload_n Z.x Z.b dL_law_435 rfl (lv_at hl 3 rfl) ?_
                    refine lv_iconst (v := 1) Z.x Z.b dL_law_436 (by decide) ?_
                    refine lv_iadd Z.x Z.b dL_law_437 ?_
                    refine z_sld Z E hX.1 dL_law_438 hf (fun v62 hf => ?_)
                    refine lv_aload_n Z.x Z.b dL_law_439 rfl (lv_at hl 0 rfl) ?_
                    refine lv_iload_n Z.x Z.b dL_law_440 rfl (lv_at hl 3 rfl) ?_
                    refine lv_iconst (v := 2) Z.x Z.b dL_law_441 (by decide) ?_
                    refine lv_iadd Z.x Z.b dL_law_442 ?_
                    refine z_sld Z E hX.1 dL_law_443 hf (fun v63 hf => ?_)
                    refine z_Vi (As := [.int v62, .int v63]) Z E hl.1 k_L_49 v_X8_sick hf (fun r h' e => c_X8_sick l G h61 h' a2 v62 v63 r e) rfl rfl (Nat.le_of_ble_eq_true rfl) (zRm_of rfl (show _ ≤ 600000 by omega) (show _ ≤ 7302250 by omega)) dL_law_444 (fun v64 h65 H locs hf E => ?_)
                    refine lv_icmp_eq (tgt := 1175) Z.x Z.b dL_law_447 (by decide) (fun c => ?_) (fun c => ?_)
                    · have hf := zit hf c
                      exact t_L_1175 Z hr hX k18 hf E (lv_sub hl [0, 1, 2, 3] rfl) (by omega) (by omega)
                    · have hf := zif_ hf c
                      refine lv_iconst (v := 0) Z.x Z.b dL_law_450 (by decide) ?_
                      exact absurd (show (0 : Int32) = 1 from congrArg Prod.fst (Option.some.inj hf)) (by decide)
                  · have hf := zif_ hf c7
                    by_cases c8 : (v1 &&& 63) = 8
                    · have hf := zit hf c8
                      refine lv_tableIn (tgt := 452) Z.x Z.b dL_law_32 (by rw [c8]; decide) (by rw [c8]; decide) (by rw [c8]; rfl) (by decide) ?_
                      refine lv_aload_n Z.x Z.b dL_law_452 rfl (lv_at hl 1 rfl) ?_
                      refine lv_aload_n Z.x Z.b dL_law_453 rfl (lv_at hl 0 rfl) ?_
                      refine lv_iload_n Z.x Z.b dL_law_454 rfl (lv_at hl 3 rfl) ?_
                      refine lv_iconst (v := 1) Z.x Z.b dL_law_455 (by decide) ?_
                      refine lv_iadd Z.x Z.b dL_law_456 ?_
                      refine z_sld Z E hX.1 dL_law_457 hf (fun v66 hf => ?_)
                      refine z_Vi (As := [.int v66]) Z E hl.1 k_L_50 v_X7_well hf (fun r h' e => c_X7_well l G h h' a1 v66 r e) rfl rfl (Nat.le_of_ble_eq_true rfl) (zRm_of rfl (show _ ≤ 600000 by omega) (show _ ≤ 7302250 by omega)) dL_law_458 (fun v67 h68 H locs hf E => ?_)
                      refine lv_aload_n Z.x Z.b dL_law_461 rfl (lv_at hl 2 rfl) ?_
                      refine lv_aload_n Z.x Z.b dL_law_462 rfl (lv_at hl 0 rfl) ?_
                      refine lv_iload_n Z.x Z.b dL_law_463 rfl (lv_at hl 3 rfl) ?_
                      refine lv_iconst (v := 1) Z.x Z.b dL_law_464 (by decide) ?_
                      refine lv_iadd Z.x Z.b dL_law_465 ?_
                      refine z_sld Z E hX.1 dL_law_466 hf (fun v69 hf => ?_)
                      refine z_Vi (As := [.int v69]) Z E hl.1 k_L_53 v_X8_well hf (fun r h' e => c_X8_well l G h68 h' a2 v69 r e) rfl rfl (Nat.le_of_ble_eq_true rfl) (zRm_of rfl (show _ ≤ 600000 by omega) (show _ ≤ 7302250 by omega)) dL_law_467 (fun v70 h71 H locs hf E => ?_)
                      refine lv_icmp_eq (tgt := 1175) Z.x Z.b dL_law_470 (by decide) (fun c => ?_) (fun c => ?_)
                      · have hf := zit hf c
                        exact t_L_1175 Z hr hX k18 hf E (lv_sub hl [0, 1, 2, 3] rfl) (by omega) (by omega)
                      · have hf := zif_ hf c
                        refine lv_iconst (v := 0) Z.x Z.b dL_law_473 (by decide) ?_
                        exact absurd (show (0 : Int32) = 1 from congrArg Prod.fst (Option.some.inj hf)) (by decide)
                    · have hf := zif_ hf c8
                      by_cases c9 : (v1 &&& 63) = 9
                      · have hf := zit hf c9
                        refine lv_tableIn (tgt := 475) Z.x Z.b dL_law_32 (by rw [c9]; decide) (by rw [c9]; decide) (by rw [c9]; rfl) (by decide) ?_
                        refine lv_aload_n Z.x Z.b dL_law_475 rfl (lv_at hl 1 rfl) ?_
                        refine lv_aload_n Z.x Z.b dL_law_476 rfl (lv_at hl 0 rfl) ?_
                        refine lv_iload_n Z.x Z.b dL_law_477 rfl (lv_at hl 3 rfl) ?_
                        refine lv_iconst (v := 1) Z.x Z.b dL_law_478 (by decide) ?_
                        refine lv_iadd Z.x Z.b dL_law_479 ?_
                        refine z_sld Z E hX.1 dL_law_480 hf (fun v72 hf => ?_)
                        refine lv_aload_n Z.x Z.b dL_law_481 rfl (lv_at hl 0 rfl) ?_
                        refine lv_iload_n Z.x Z.b dL_law_482 rfl (lv_at hl 3 rfl) ?_
                        refine lv_iconst (v := 2) Z.x Z.b dL_law_483 (by decide) ?_
                        refine lv_iadd Z.x Z.b dL_law_484 ?_
                        refine z_sld Z E hX.1 dL_law_485 hf (fun v73 hf => ?_)
                        refine lv_aload_n Z.x Z.b dL_law_486 rfl (lv_at hl 0 rfl) ?_
                        refine lv_iload_n Z.x Z.b dL_law_487 rfl (lv_at hl 3 rfl) ?_
                        refine lv_iconst (v := 3) Z.x Z.b dL_law_488 (by decide) ?_
                        refine lv_iadd Z.x Z.b dL_law_489 ?_
                        refine z_sld Z E hX.1 dL_law_490 hf (fun v74 hf => ?_)
                        refine z_Vi (As := [.int v72, .int v73, .int v74]) Z E hl.1 k_L_54 v_X7_give hf (fun r h' e => c_X7_give l G h h' a1 v72 v73 v74 r e) rfl rfl (Nat.le_of_ble_eq_true rfl) (zRm_of rfl (show _ ≤ 600000 by omega) (show _ ≤ 7302250 by omega)) dL_law_491 (fun v75 h76 H locs hf E => ?_)
                        refine lv_aload_n Z.x Z.b dL_law_494 rfl (lv_at hl 2 rfl) ?_
                        refine lv_aload_n Z.x Z.b dL_law_495 rfl (lv_at hl 0 rfl) ?_
                        refine lv_iload_n Z.x Z.b dL_law_496 rfl (lv_at hl 3 rfl) ?_
                        refine lv_iconst (v := 1) Z.x Z.b dL_law_497 (by decide) ?_
                        refine lv_iadd Z.x Z.b dL_law_498 ?_
                        refine z_sld Z E hX.1 dL_law_499 hf (fun v77 hf => ?_)
                        refine lv_aload_n Z.x Z.b dL_law_500 rfl (lv_at hl 0 rfl) ?_
                        refine lv_iload_n Z.x Z.b dL_law_501 rfl (lv_at hl 3 rfl) ?_
                        refine lv_iconst (v := 2) Z.x Z.b dL_law_502 (by decide) ?_
                        refine lv_iadd Z.x Z.b dL_law_503 ?_
                        refine z_sld Z E hX.1 dL_law_504 hf (fun v78 hf => ?_)
                        refine lv_aload_n Z.x Z.b dL_law_505 rfl (lv_at hl 0 rfl) ?_
                        refine lv_iload_n Z.x Z.b dL_law_506 rfl (lv_at hl 3 rfl) ?_
                        refine lv_iconst (v := 3) Z.x Z.b dL_law_507 (by decide) ?_
                        refine lv_iadd Z.x Z.b dL_law_508 ?_
                        refine z_sld Z E hX.1 dL_law_509 hf (fun v79 hf => ?_)
                        refine z_Vi (As := [.int v77, .int v78, .int v79]) Z E hl.1 k_L_57 v_X8_give hf (fun r h' e => c_X8_give l G h76 h' a2 v77 v78 v79 r e) rfl rfl (Nat.le_of_ble_eq_true rfl) (zRm_of rfl (show _ ≤ 600000 by omega) (show _ ≤ 7302250 by omega)) dL_law_510 (fun v80 h81 H locs hf E => ?_)
                        refine lv_icmp_eq (tgt := 1175) Z.x Z.b dL_law_513 (by decide) (fun c => ?_) (fun c => ?_)
                        · have hf := zit hf c
                          exact t_L_1175 Z hr hX k18 hf E (lv_sub hl [0, 1, 2, 3] rfl) (by omega) (by omega)
                        · have hf := zif_ hf c
                          refine lv_iconst (v := 0) Z.x Z.b dL_law_516 (by decide) ?_
                          exact absurd (show (0 : Int32) = 1 from congrArg Prod.fst (Option.some.inj hf)) (by decide)
                      · have hf := zif_ hf c9
                        by_cases c10 : (v1 &&& 63) = 10
                        · have hf := zit hf c10
                          refine lv_tableIn (tgt := 518) Z.x Z.b dL_law_32 (by rw [c10]; decide) (by rw [c10]; decide) (by rw [c10]; rfl) (by decide) ?_
                          refine lv_aload_n Z.x Z.b dL_law_518 rfl (lv_at hl 1 rfl) ?_
                          refine lv_aload_n Z.x Z.b dL_law_519 rfl (lv_at hl 0 rfl) ?_
                          refine lv_iload_n Z.x Z.b dL_law_520 rfl (lv_at hl 3 rfl) ?_
                          refine lv_iconst (v := 1) Z.x Z.b dL_law_521 (by decide) ?_
                          refine lv_iadd Z.x Z.b dL_law_522 ?_
                          refine z_sld Z E hX.1 dL_law_523 hf (fun v82 hf => ?_)
                          refine lv_aload_n Z.x Z.b dL_law_524 rfl (lv_at hl 0 rfl) ?_
                          refine lv_iload_n Z.x Z.b dL_law_525 rfl (lv_at hl 3 rfl) ?_
                          refine lv_iconst (v := 2) Z.x Z.b dL_law_526 (by decide) ?_
                          refine lv_iadd Z.x Z.b dL_law_527 ?_
                          refine z_sld Z E hX.1 dL_law_528 hf (fun v83 hf => ?_)
                          refine z_Vi (As := [.int v82, .int v83]) Z E hl.1 k_L_58 v_X7_giveUp hf (fun r h' e => c_X7_giveUp l G h h' a1 v82 v83 r e) rfl rfl (Nat.le_of_ble_eq_true rfl) (zRm_of rfl (show _ ≤ 600000 by omega) (show _ ≤ 7302250 by omega)) dL_law_529 (fun v84 h85 H locs hf E => ?_)
                          refine lv_aload_n Z.x Z.b dL_law_532 rfl (lv_at hl 2 rfl) ?_
                          refine lv_aload_n Z.x Z.b dL_law_533 rfl (lv_at hl 0 rfl) ?_
                          refine lv_iload_n Z.x Z.b dL_law_534 rfl (lv_at hl 3 rfl) ?_
                          refine lv_iconst (v := 1) Z.x Z.b dL_law_535 (by decide) ?_
                          refine lv_iadd Z.x Z.b dL_law_536 ?_
                          refine z_sld Z E hX.1 dL_law_537 hf (fun v86 hf => ?_)
                          refine lv_aload_n Z.x Z.b dL_law_538 rfl (lv_at hl 0 rfl) ?_
                          refine lv_iload_n Z.x Z.b dL_law_539 rfl (lv_at hl 3 rfl) ?_
                          refine lv_iconst (v := 2) Z.x Z.b dL_law_540 (by decide) ?_
                          refine lv_iadd Z.x Z.b dL_law_541 ?_
                          refine z_sld Z E hX.1 dL_law_542 hf (fun v87 hf => ?_)
                          refine z_Vi (As := [.int v86, .int v87]) Z E hl.1 k_L_61 v_X8_giveUp hf (fun r h' e => c_X8_giveUp l G h85 h' a2 v86 v87 r e) rfl rfl (Nat.le_of_ble_eq_true rfl) (zRm_of rfl (show _ ≤ 600000 by omega) (show _ ≤ 7302250 by omega)) dL_law_543 (fun v88 h89 H locs hf E => ?_)
                          refine lv_icmp_eq (tgt := 1175) Z.x Z.b dL_law_546 (by decide) (fun c => ?_) (fun c => ?_)
                          · have hf := zit hf c
                            exact t_L_1175 Z hr hX k18 hf E (lv_sub hl [0, 1, 2, 3] rfl) (by omega) (by omega)
                          · have hf := zif_ hf c
                            refine lv_iconst (v := 0) Z.x Z.b dL_law_549 (by decide) ?_
                            exact absurd (show (0 : Int32) = 1 from congrArg Prod.fst (Option.some.inj hf)) (by decide)
                        · have hf := zif_ hf c10
                          by_cases c11 : (v1 &&& 63) = 11
                          · have hf := zit hf c11
                            refine lv_tableIn (tgt := 551) Z.x Z.b dL_law_32 (by rw [c11]; decide) (by rw [c11]; decide) (by rw [c11]; rfl) (by decide) ?_
                            refine lv_aload_n Z.x Z.b dL_law_551 rfl (lv_at hl 1 rfl) ?_
                            refine lv_aload_n Z.x Z.b dL_law_552 rfl (lv_at hl 0 rfl) ?_
                            refine lv_iload_n Z.x Z.b dL_law_553 rfl (lv_at hl 3 rfl) ?_
                            refine lv_iconst (v := 1) Z.x Z.b dL_law_554 (by decide) ?_
                            refine lv_iadd Z.x Z.b dL_law_555 ?_
                            refine z_sld Z E hX.1 dL_law_556 hf (fun v90 hf => ?_)
                            refine z_Vi (As := [.int v90]) Z E hl.1 k_L_62 v_X7_fill hf (fun r h' e => c_X7_fill l G h h' a1 v90 r e) rfl rfl (Nat.le_of_ble_eq_true rfl) (zRm_of rfl (show _ ≤ 600000 by omega) (show _ ≤ 7302250 by omega)) dL_law_557 (fun v91 h92 H locs hf E => ?_)
                            refine lv_aload_n Z.x Z.b dL_law_560 rfl (lv_at hl 2 rfl) ?_
                            refine lv_aload_n Z.x Z.b dL_law_561 rfl (lv_at hl 0 rfl) ?_
                            refine lv_iload_n Z.x Z.b dL_law_562 rfl (lv_at hl 3 rfl) ?_
                            refine lv_iconst (v := 1) Z.x Z.b dL_law_563 (by decide) ?_
                            refine lv_iadd Z.x Z.b dL_law_564 ?_
                            refine z_sld Z E hX.1 dL_law_565 hf (fun v93 hf => ?_)
                            refine z_Vi (As := [.int v93]) Z E hl.1 k_L_65 v_X8_fill hf (fun r h' e => c_X8_fill l G h92 h' a2 v93 r e) rfl rfl (Nat.le_of_ble_eq_true rfl) (zRm_of rfl (show _ ≤ 600000 by omega) (show _ ≤ 7302250 by omega)) dL_law_566 (fun v94 h95 H locs hf E => ?_)
                            refine lv_icmp_eq (tgt := 1175) Z.x Z.b dL_law_569 (by decide) (fun c => ?_) (fun c => ?_)
                            · have hf := zit hf c
                              exact t_L_1175 Z hr hX k18 hf E (lv_sub hl [0, 1, 2, 3] rfl) (by omega) (by omega)
                            · have hf := zif_ hf c
                              refine lv_iconst (v := 0) Z.x Z.b dL_law_572 (by decide) ?_
                              exact absurd (show (0 : Int32) = 1 from congrArg Prod.fst (Option.some.inj hf)) (by decide)
                          · have hf := zif_ hf c11
                            by_cases c12 : (v1 &&& 63) = 12
                            · have hf := zit hf c12
                              refine lv_tableIn (tgt := 574) Z.x Z.b dL_law_32 (by rw [c12]; decide) (by rw [c12]; decide) (by rw [c12]; rfl) (by decide) ?_
                              refine lv_aload_n Z.x Z.b dL_law_574 rfl (lv_at hl 1 rfl) ?_
                              refine lv_aload_n Z.x Z.b dL_law_575 rfl (lv_at hl 0 rfl) ?_
                              refine lv_iload_n Z.x Z.b dL_law_576 rfl (lv_at hl 3 rfl) ?_
                              refine lv_iconst (v := 1) Z.x Z.b dL_law_577 (by decide) ?_
                              refine lv_iadd Z.x Z.b dL_law_578 ?_
                              refine z_sld Z E hX.1 dL_law_579 hf (fun v96 hf => ?_)
                              refine z_Vi (As := [.int v96]) Z E hl.1 k_L_66 v_X7_pass hf (fun r h' e => c_X7_pass l G h h' a1 v96 r e) rfl rfl (Nat.le_of_ble_eq_true rfl) (zRm_of rfl (show _ ≤ 600000 by omega) (show _ ≤ 7302250 by omega)) dL_law_580 (fun v97 h98 H locs hf E => ?_)
                              refine lv_aload_n Z.x Z.b dL_law_583 rfl (lv_at hl 2 rfl) ?_
                              refine lv_aload_n Z.x Z.b dL_law_584 rfl (lv_at hl 0 rfl) ?_
                              refine lv_iload_n Z.x Z.b dL_law_585 rfl (lv_at hl 3 rfl) ?_
                              refine lv_iconst (v := 1) Z.x Z.b dL_law_586 (by decide) ?_
                              refine lv_iadd Z.x Z.b dL_law_587 ?_
                              refine z_sld Z E hX.1 dL_law_588 hf (fun v99 hf => ?_)
                              refine z_Vi (As := [.int v99]) Z E hl.1 k_L_69 v_X8_pass hf (fun r h' e => c_X8_pass l G h98 h' a2 v99 r e) rfl rfl (Nat.le_of_ble_eq_true rfl) (zRm_of rfl (show _ ≤ 600000 by omega) (show _ ≤ 7302250 by omega)) dL_law_589 (fun v100 h101 H locs hf E => ?_)
                              refine lv_icmp_eq (tgt := 1175) Z.x Z.b dL_law_592 (by decide) (fun c => ?_) (fun c => ?_)
                              · have hf := zit hf c
                                exact t_L_1175 Z hr hX k18 hf E (lv_sub hl [0, 1, 2, 3] rfl) (by omega) (by omega)
                              · have hf := zif_ hf c
                                refine lv_iconst (v := 0) Z.x Z.b dL_law_595 (by decide) ?_
                                exact absurd (show (0 : Int32) = 1 from congrArg Prod.fst (Option.some.inj hf)) (by decide)
                            · have hf := zif_ hf c12
                              by_cases c13 : (v1 &&& 63) = 13
                              · have hf := zit hf c13
                                refine lv_tableIn (tgt := 597) Z.x Z.b dL_law_32 (by rw [c13]; decide) (by rw [c13]; decide) (by rw [c13]; rfl) (by decide) ?_
                                refine lv_aload_n Z.x Z.b dL_law_597 rfl (lv_at hl 1 rfl) ?_
                                refine lv_aload_n Z.x Z.b dL_law_598 rfl (lv_at hl 0 rfl) ?_
                                refine lv_iload_n Z.x Z.b dL_law_599 rfl (lv_at hl 3 rfl) ?_
                                refine lv_iconst (v := 1) Z.x Z.b dL_law_600 (by decide) ?_
                                refine lv_iadd Z.x Z.b dL_law_601 ?_
                                refine z_sld Z E hX.1 dL_law_602 hf (fun v102 hf => ?_)
                                refine lv_aload_n Z.x Z.b dL_law_603 rfl (lv_at hl 0 rfl) ?_
                                refine lv_iload_n Z.x Z.b dL_law_604 rfl (lv_at hl 3 rfl) ?_
                                refine lv_iconst (v := 2) Z.x Z.b dL_law_605 (by decide) ?_
                                refine lv_iadd Z.x Z.b dL_law_606 ?_
                                refine z_sld Z E hX.1 dL_law_607 hf (fun v103 hf => ?_)
                                refine z_Vi (As := [.int v102, .int v103]) Z E hl.1 k_L_70 v_X7_set hf (fun r h' e => c_X7_set l G h h' a1 v102 v103 r e) rfl rfl (Nat.le_of_ble_eq_true rfl) (zRm_of rfl (show _ ≤ 600000 by omega) (show _ ≤ 7302250 by omega)) dL_law_608 (fun v104 h105 H locs hf E => ?_)
                                refine lv_aload_n Z.x Z.b dL_law_611 rfl (lv_at hl 2 rfl) ?_
                                refine lv_aload_n Z.x Z.b dL_law_612 rfl (lv_at hl 0 rfl) ?_
                                refine lv_iload_n Z.x Z.b dL_law_613 rfl (lv_at hl 3 rfl) ?_
                                refine lv_iconst (v := 1) Z.x Z.b dL_law_614 (by decide) ?_
                                refine lv_iadd Z.x Z.b dL_law_615 ?_
                                refine z_sld Z E hX.1 dL_law_616 hf (fun v106 hf => ?_)
                                refine lv_aload_n Z.x Z.b dL_law_617 rfl (lv_at hl 0 rfl) ?_
                                refine lv_iload_n Z.x Z.b dL_law_618 rfl (lv_at hl 3 rfl) ?_
                                refine lv_iconst (v := 2) Z.x Z.b dL_law_619 (by decide) ?_
                                refine lv_iadd Z.x Z.b dL_law_620 ?_
                                refine z_sld Z E hX.1 dL_law_621 hf (fun v107 hf => ?_)
                                refine z_Vi (As := [.int v106, .int v107]) Z E hl.1 k_L_73 v_X8_set hf (fun r h' e => c_X8_set l G h105 h' a2 v106 v107 r e) rfl rfl (Nat.le_of_ble_eq_true rfl) (zRm_of rfl (show _ ≤ 600000 by omega) (show _ ≤ 7302250 by omega)) dL_law_622 (fun v108 h109 H locs hf E => ?_)
                                refine lv_icmp_eq (tgt := 1175) Z.x Z.b dL_law_625 (by decide) (fun c => ?_) (fun c => ?_)
                                · have hf := zit hf c
                                  exact t_L_1175 Z hr hX k18 hf E (lv_sub hl [0, 1, 2, 3] rfl) (by omega) (by omega)
                                · have hf := zif_ hf c
                                  refine lv_iconst (v := 0) Z.x Z.b dL_law_628 (by decide) ?_
                                  exact absurd (show (0 : Int32) = 1 from congrArg Prod.fst (Option.some.inj hf)) (by decide)
                              · have hf := zif_ hf c13
                                by_cases c14 : (v1 &&& 63) = 14
                                · have hf := zit hf c14
                                  refine lv_tableIn (tgt := 630) Z.x Z.b dL_law_32 (by rw [c14]; decide) (by rw [c14]; decide) (by rw [c14]; rfl) (by decide) ?_
                                  refine lv_aload_n Z.x Z.b dL_law_630 rfl (lv_at hl 1 rfl) ?_
                                  refine lv_aload_n Z.x Z.b dL_law_631 rfl (lv_at hl 0 rfl) ?_
                                  refine lv_iload_n Z.x Z.b dL_law_632 rfl (lv_at hl 3 rfl) ?_
                                  refine lv_iconst (v := 1) Z.x Z.b dL_law_633 (by decide) ?_
                                  refine lv_iadd Z.x Z.b dL_law_634 ?_
                                  refine z_sld Z E hX.1 dL_law_635 hf (fun v110 hf => ?_)
                                  refine lv_i2c Z.x Z.b dL_law_636 rfl ?_
                                  refine z_Vi (As := [.int ((v110.toUInt32 % 65536).toInt32)]) Z E hl.1 k_L_74 v_X7_type hf (fun r h' e => c_X7_type l G h h' a1 ((v110.toUInt32 % 65536).toInt32) r e) rfl rfl (Nat.le_of_ble_eq_true rfl) (zRm_of rfl (show _ ≤ 600000 by omega) (show _ ≤ 7302250 by omega)) dL_law_637 (fun v111 h112 H locs hf E => ?_)
                                  refine lv_aload_n Z.x Z.b dL_law_640 rfl (lv_at hl 2 rfl) ?_
                                  refine lv_aload_n Z.x Z.b dL_law_641 rfl (lv_at hl 0 rfl) ?_
                                  refine lv_iload_n Z.x Z.b dL_law_642 rfl (lv_at hl 3 rfl) ?_
                                  refine lv_iconst (v := 1) Z.x Z.b dL_law_643 (by decide) ?_
                                  refine lv_iadd Z.x Z.b dL_law_644 ?_
                                  refine z_sld Z E hX.1 dL_law_645 hf (fun v113 hf => ?_)
                                  refine lv_i2c Z.x Z.b dL_law_646 rfl ?_
                                  refine z_Vi (As := [.int ((v113.toUInt32 % 65536).toInt32)]) Z E hl.1 k_L_78 v_X8_type hf (fun r h' e => c_X8_type l G h112 h' a2 ((v113.toUInt32 % 65536).toInt32) r e) rfl rfl (Nat.le_of_ble_eq_true rfl) (zRm_of rfl (show _ ≤ 600000 by omega) (show _ ≤ 7302250 by omega)) dL_law_647 (fun v114 h115 H locs hf E => ?_)
                                  refine lv_icmp_eq (tgt := 1175) Z.x Z.b dL_law_650 (by decide) (fun c => ?_) (fun c => ?_)
                                  · have hf := zit hf c
                                    exact t_L_1175 Z hr hX k18 hf E (lv_sub hl [0, 1, 2, 3] rfl) (by omega) (by omega)
                                  · have hf := zif_ hf c
                                    refine lv_iconst (v := 0) Z.x Z.b dL_law_653 (by decide) ?_
                                    exact absurd (show (0 : Int32) = 1 from congrArg Prod.fst (Option.some.inj hf)) (by decide)
                                · have hf := zif_ hf c14
                                  by_cases c15 : (v1 &&& 63) = 15
                                  · have hf := zit hf c15
                                    refine lv_tableIn (tgt := 655) Z.x Z.b dL_law_32 (by rw [c15]; decide) (by rw [c15]; decide) (by rw [c15]; rfl) (by decide) ?_
                                    refine lv_aload_n Z.x Z.b dL_law_655 rfl (lv_at hl 1 rfl) ?_
                                    refine z_Vi (As := []) Z E hl.1 k_L_79 v_X7_clearText hf (fun r h' e => c_X7_clearText l G h h' a1 r e) rfl rfl (Nat.le_of_ble_eq_true rfl) (zRm_of rfl (show _ ≤ 600000 by omega) (show _ ≤ 7302250 by omega)) dL_law_656 (fun v116 h117 H locs hf E => ?_)
                                    refine lv_aload_n Z.x Z.b dL_law_659 rfl (lv_at hl 2 rfl) ?_
                                    refine z_Vi (As := []) Z E hl.1 k_L_82 v_X8_clearText hf (fun r h' e => c_X8_clearText l G h117 h' a2 r e) rfl rfl (Nat.le_of_ble_eq_true rfl) (zRm_of rfl (show _ ≤ 600000 by omega) (show _ ≤ 7302250 by omega)) dL_law_660 (fun v118 h119 H locs hf E => ?_)
                                    refine lv_icmp_eq (tgt := 1175) Z.x Z.b dL_law_663 (by decide) (fun c => ?_) (fun c => ?_)
                                    · have hf := zit hf c
                                      exact t_L_1175 Z hr hX k18 hf E (lv_sub hl [0, 1, 2, 3] rfl) (by omega) (by omega)
                                    · have hf := zif_ hf c
                                      refine lv_iconst (v := 0) Z.x Z.b dL_law_666 (by decide) ?_
                                      exact absurd (show (0 : Int32) = 1 from congrArg Prod.fst (Option.some.inj hf)) (by decide)
                                  · have hf := zif_ hf c15
                                    by_cases c16 : (v1 &&& 63) = 16
                                    · have hf := zit hf c16
                                      refine lv_tableIn (tgt := 668) Z.x Z.b dL_law_32 (by rw [c16]; decide) (by rw [c16]; decide) (by rw [c16]; rfl) (by decide) ?_
                                      refine lv_aload_n Z.x Z.b dL_law_668 rfl (lv_at hl 1 rfl) ?_
                                      refine z_Vi (As := []) Z E hl.1 k_L_83 v_X7_fault hf (fun r h' e => c_X7_fault l G h h' a1 r e) rfl rfl (Nat.le_of_ble_eq_true rfl) (zRm_of rfl (show _ ≤ 600000 by omega) (show _ ≤ 7302250 by omega)) dL_law_669 (fun v120 h121 H locs hf E => ?_)
                                      refine lv_aload_n Z.x Z.b dL_law_672 rfl (lv_at hl 2 rfl) ?_
                                      refine z_Vi (As := []) Z E hl.1 k_L_86 v_X8_fault hf (fun r h' e => c_X8_fault l G h121 h' a2 r e) rfl rfl (Nat.le_of_ble_eq_true rfl) (zRm_of rfl (show _ ≤ 600000 by omega) (show _ ≤ 7302250 by omega)) dL_law_673 (fun v122 h123 H locs hf E => ?_)
                                      refine lv_icmp_eq (tgt := 1175) Z.x Z.b dL_law_676 (by decide) (fun c => ?_) (fun c => ?_)
                                      · have hf := zit hf c
                                        exact t_L_1175 Z hr hX k18 hf E (lv_sub hl [0, 1, 2, 3] rfl) (by omega) (by omega)
                                      · have hf := zif_ hf c
                                        refine lv_iconst (v := 0) Z.x Z.b dL_law_679 (by decide) ?_
                                        exact absurd (show (0 : Int32) = 1 from congrArg Prod.fst (Option.some.inj hf)) (by decide)
                                    · have hf := zif_ hf c16
                                      by_cases c17 : (v1 &&& 63) = 17
                                      · have hf := zit hf c17
                                        refine lv_tableIn (tgt := 681) Z.x Z.b dL_law_32 (by rw [c17]; decide) (by rw [c17]; decide) (by rw [c17]; rfl) (by decide) ?_
                                        refine lv_aload_n Z.x Z.b dL_law_681 rfl (lv_at hl 1 rfl) ?_
                                        refine z_Vi (As := []) Z E hl.1 k_L_87 v_X7_undo hf (fun r h' e => c_X7_undo l G h h' a1 r e) rfl rfl (Nat.le_of_ble_eq_true rfl) (zRm_of rfl (show _ ≤ 600000 by omega) (show _ ≤ 7302250 by omega)) dL_law_682 (fun v124 h125 H locs hf E => ?_)
                                        refine lv_aload_n Z.x Z.b dL_law_685 rfl (lv_at hl 2 rfl) ?_
                                        refine z_Vi (As := []) Z E hl.1 k_L_90 v_X8_undo hf (fun r h' e => c_X8_undo l G h125 h' a2 r e) rfl rfl (Nat.le_of_ble_eq_true rfl) (zRm_of rfl (show _ ≤ 600000 by omega) (show _ ≤ 7302250 by omega)) dL_law_686 (fun v126 h127 H locs hf E => ?_)
                                        refine lv_icmp_eq (tgt := 1175) Z.x Z.b dL_law_689 (by decide) (fun c => ?_) (fun c => ?_)
                                        · have hf := zit hf c
                                          exact t_L_1175 Z hr hX k18 hf E (lv_sub hl [0, 1, 2, 3] rfl) (by omega) (by omega)
                                        · have hf := zif_ hf c
                                          refine lv_iconst (v := 0) Z.x Z.b dL_law_692 (by decide) ?_
                                          exact absurd (show (0 : Int32) = 1 from congrArg Prod.fst (Option.some.inj hf)) (by decide)
                                      · have hf := zif_ hf c17
                                        by_cases c18 : (v1 &&& 63) = 18
                                        · have hf := zit hf c18
                                          refine lv_tableIn (tgt := 694) Z.x Z.b dL_law_32 (by rw [c18]; decide) (by rw [c18]; decide) (by rw [c18]; rfl) (by decide) ?_
                                          refine lv_aload_n Z.x Z.b dL_law_694 rfl (lv_at hl 1 rfl) ?_
                                          refine z_Vi (As := []) Z E hl.1 k_L_91 v_X7_keep hf (fun r h' e => c_X7_keep l G h h' a1 r e) rfl rfl (Nat.le_of_ble_eq_true rfl) (zRm_of rfl (show _ ≤ 600000 by omega) (show _ ≤ 7302250 by omega)) dL_law_695 (fun v128 h129 H locs hf E => ?_)
                                          refine lv_aload_n Z.x Z.b dL_law_698 rfl (lv_at hl 2 rfl) ?_
                                          refine z_Vi (As := []) Z E hl.1 k_L_94 v_X8_keep hf (fun r h' e => c_X8_keep l G h129 h' a2 r e) rfl rfl (Nat.le_of_ble_eq_true rfl) (zRm_of rfl (show _ ≤ 600000 by omega) (show _ ≤ 7302250 by omega)) dL_law_699 (fun v130 h131 H locs hf E => ?_)
                                          refine lv_icmp_eq (tgt := 1175) Z.x Z.b dL_law_702 (by decide) (fun c => ?_) (fun c => ?_)
                                          · have hf := zit hf c
                                            exact t_L_1175 Z hr hX k18 hf E (lv_sub hl [0, 1, 2, 3] rfl) (by omega) (by omega)
                                          · have hf := zif_ hf c
                                            refine lv_iconst (v := 0) Z.x Z.b dL_law_705 (by decide) ?_
                                            exact absurd (show (0 : Int32) = 1 from congrArg Prod.fst (Option.some.inj hf)) (by decide)
                                        · have hf := zif_ hf c18
                                          by_cases c19 : (v1 &&& 63) = 19
                                          · have hf := zit hf c19
                                            refine lv_tableIn (tgt := 707) Z.x Z.b dL_law_32 (by rw [c19]; decide) (by rw [c19]; decide) (by rw [c19]; rfl) (by decide) ?_
                                            refine lv_aload_n Z.x Z.b dL_law_707 rfl (lv_at hl 1 rfl) ?_
                                            refine z_Vi (As := []) Z E hl.1 k_L_95 v_X7_restore hf (fun r h' e => c_X7_restore l G h h' a1 r e) rfl rfl (Nat.le_of_ble_eq_true rfl) (zRm_of rfl (show _ ≤ 600000 by omega) (show _ ≤ 7302250 by omega)) dL_law_708 (fun v132 h133 H locs hf E => ?_)
                                            refine lv_aload_n Z.x Z.b dL_law_711 rfl (lv_at hl 2 rfl) ?_
                                            refine z_Vi (As := []) Z E hl.1 k_L_98 v_X8_restore hf (fun r h' e => c_X8_restore l G h133 h' a2 r e) rfl rfl (Nat.le_of_ble_eq_true rfl) (zRm_of rfl (show _ ≤ 600000 by omega) (show _ ≤ 7302250 by omega)) dL_law_712 (fun v134 h135 H locs hf E => ?_)
                                            refine lv_icmp_eq (tgt := 1175) Z.x Z.b dL_law_715 (by decide) (fun c => ?_) (fun c => ?_)
                                            · have hf := zit hf c
                                              exact t_L_1175 Z hr hX k18 hf E (lv_sub hl [0, 1, 2, 3] rfl) (by omega) (by omega)
                                            · have hf := zif_ hf c
                                              refine lv_iconst (v := 0) Z.x Z.b dL_law_718 (by decide) ?_
                                              exact absurd (show (0 : Int32) = 1 from congrArg Prod.fst (Option.some.inj hf)) (by decide)
                                          · have hf := zif_ hf c19
                                            by_cases c20 : (v1 &&& 63) = 20
                                            · have hf := zit hf c20
                                              refine lv_tableIn (tgt := 720) Z.x Z.b dL_law_32 (by rw [c20]; decide) (by rw [c20]; decide) (by rw [c20]; rfl) (by decide) ?_
                                              refine lv_aload_n Z.x Z.b dL_law_720 rfl (lv_at hl 1 rfl) ?_
                                              refine lv_aload_n Z.x Z.b dL_law_721 rfl (lv_at hl 0 rfl) ?_
                                              refine lv_iload_n Z.x Z.b dL_law_722 rfl (lv_at hl 3 rfl) ?_
                                              refine lv_iconst (v := 1) Z.x Z.b dL_law_723 (by decide) ?_
                                              refine lv_iadd Z.x Z.b dL_law_724 ?_
                                              refine z_sld Z E hX.1 dL_law_725 hf (fun v136 hf => ?_)
                                              refine lv_aload_n Z.x Z.b dL_law_726 rfl (lv_at hl 0 rfl) ?_
                                              refine lv_iload_n Z.x Z.b dL_law_727 rfl (lv_at hl 3 rfl) ?_
                                              refine lv_iconst (v := 2) Z.x Z.b dL_law_728 (by decide) ?_
                                              refine lv_iadd Z.x Z.b dL_law_729 ?_
                                              refine z_sld Z E hX.1 dL_law_730 hf (fun v137 hf => ?_)
                                              refine z_Vi (As := [.int v136, .int v137]) Z E hl.1 k_L_99 v_X7_sailingOf hf (fun r h' e => c_X7_sailingOf l G h h' a1 v136 v137 r e) rfl rfl (Nat.le_of_ble_eq_true rfl) (zRm_of rfl (show _ ≤ 600000 by omega) (show _ ≤ 7302250 by omega)) dL_law_731 (fun v138 h139 H locs hf E => ?_)
                                              refine lv_aload_n Z.x Z.b dL_law_734 rfl (lv_at hl 2 rfl) ?_
                                              refine lv_aload_n Z.x Z.b dL_law_735 rfl (lv_at hl 0 rfl) ?_
                                              refine lv_iload_n Z.x Z.b dL_law_736 rfl (lv_at hl 3 rfl) ?_
                                              refine lv_iconst (v := 1) Z.x Z.b dL_law_737 (by decide) ?_
                                              refine lv_iadd Z.x Z.b dL_law_738 ?_
                                              refine z_sld Z E hX.1 dL_law_739 hf (fun v140 hf => ?_)
                                              refine lv_aload_n Z.x Z.b dL_law_740 rfl (lv_at hl 0 rfl) ?_
                                              refine lv_iload_n Z.x Z.b dL_law_741 rfl (lv_at hl 3 rfl) ?_
                                              refine lv_iconst (v := 2) Z.x Z.b dL_law_742 (by decide) ?_
                                              refine lv_iadd Z.x Z.b dL_law_743 ?_
                                              refine z_sld Z E hX.1 dL_law_744 hf (fun v141 hf => ?_)
                                              refine z_Vi (As := [.int v140, .int v141]) Z E hl.1 k_L_102 v_X8_sailingOf hf (fun r h' e => c_X8_sailingOf l G h139 h' a2 v140 v141 r e) rfl rfl (Nat.le_of_ble_eq_true rfl) (zRm_of rfl (show _ ≤ 600000 by omega) (show _ ≤ 7302250 by omega)) dL_law_745 (fun v142 h143 H locs hf E => ?_)
                                              refine lv_icmp_eq (tgt := 1175) Z.x Z.b dL_law_748 (by decide) (fun c => ?_) (fun c => ?_)
                                              · have hf := zit hf c
                                                exact t_L_1175 Z hr hX k18 hf E (lv_sub hl [0, 1, 2, 3] rfl) (by omega) (by omega)
                                              · have hf := zif_ hf c
                                                refine lv_iconst (v := 0) Z.x Z.b dL_law_751 (by decide) ?_
                                                exact absurd (show (0 : Int32) = 1 from congrArg Prod.fst (Option.some.inj hf)) (by decide)
                                            · have hf := zif_ hf c20
                                              by_cases c21 : (v1 &&& 63) = 21
                                              · have hf := zit hf c21
                                                refine lv_tableIn (tgt := 753) Z.x Z.b dL_law_32 (by rw [c21]; decide) (by rw [c21]; decide) (by rw [c21]; rfl) (by decide) ?_
                                                refine lv_aload_n Z.x Z.b dL_law_753 rfl (lv_at hl 1 rfl) ?_
                                                refine lv_aload_n Z.x Z.b dL_law_754 rfl (lv_at hl 0 rfl) ?_
                                                refine lv_iload_n Z.x Z.b dL_law_755 rfl (lv_at hl 3 rfl) ?_
                                                refine lv_iconst (v := 1) Z.x Z.b dL_law_756 (by decide) ?_
                                                refine lv_iadd Z.x Z.b dL_law_757 ?_
                                                refine z_sld Z E hX.1 dL_law_758 hf (fun v144 hf => ?_)
                                                refine lv_aload_n Z.x Z.b dL_law_759 rfl (lv_at hl 0 rfl) ?_
                                                refine lv_iload_n Z.x Z.b dL_law_760 rfl (lv_at hl 3 rfl) ?_
                                                refine lv_iconst (v := 2) Z.x Z.b dL_law_761 (by decide) ?_
                                                refine lv_iadd Z.x Z.b dL_law_762 ?_
                                                refine z_sld Z E hX.1 dL_law_763 hf (fun v145 hf => ?_)
                                                refine lv_aload_n Z.x Z.b dL_law_764 rfl (lv_at hl 0 rfl) ?_
                                                refine lv_iload_n Z.x Z.b dL_law_765 rfl (lv_at hl 3 rfl) ?_
                                                refine lv_iconst (v := 3) Z.x Z.b dL_law_766 (by decide) ?_
                                                refine lv_iadd Z.x Z.b dL_law_767 ?_
                                                refine z_sld Z E hX.1 dL_law_768 hf (fun v146 hf => ?_)
                                                refine z_Vi (As := [.int v144, .int v145, .int v146]) Z E hl.1 k_L_103 v_X7_crew hf (fun r h' e => c_X7_crew l G h h' a1 v144 v145 v146 r e) rfl rfl (Nat.le_of_ble_eq_true rfl) (zRm_of rfl (show _ ≤ 600000 by omega) (show _ ≤ 7302250 by omega)) dL_law_769 (fun v147 h148 H locs hf E => ?_)
                                                refine lv_aload_n Z.x Z.b dL_law_772 rfl (lv_at hl 2 rfl) ?_
                                                refine lv_aload_n Z.x Z.b dL_law_773 rfl (lv_at hl 0 rfl) ?_
                                                refine lv_iload_n Z.x Z.b dL_law_774 rfl (lv_at hl 3 rfl) ?_
                                                refine lv_iconst (v := 1) Z.x Z.b dL_law_775 (by decide) ?_
                                                refine lv_iadd Z.x Z.b dL_law_776 ?_
                                                refine z_sld Z E hX.1 dL_law_777 hf (fun v149 hf => ?_)
                                                refine lv_aload_n Z.x Z.b dL_law_778 rfl (lv_at hl 0 rfl) ?_
                                                refine lv_iload_n Z.x Z.b dL_law_779 rfl (lv_at hl 3 rfl) ?_
                                                refine lv_iconst (v := 2) Z.x Z.b dL_law_780 (by decide) ?_
                                                refine lv_iadd Z.x Z.b dL_law_781 ?_
                                                refine z_sld Z E hX.1 dL_law_782 hf (fun v150 hf => ?_)
                                                refine lv_aload_n Z.x Z.b dL_law_783 rfl (lv_at hl 0 rfl) ?_
                                                refine lv_iload_n Z.x Z.b dL_law_784 rfl (lv_at hl 3 rfl) ?_
                                                refine lv_iconst (v := 3) Z.x Z.b dL_law_785 (by decide) ?_
                                                refine lv_iadd Z.x Z.b dL_law_786 ?_
                                                refine z_sld Z E hX.1 dL_law_787 hf (fun v151 hf => ?_)
                                                refine z_Vi (As := [.int v149, .int v150, .int v151]) Z E hl.1 k_L_106 v_X8_crew hf (fun r h' e => c_X8_crew l G h148 h' a2 v149 v150 v151 r e) rfl rfl (Nat.le_of_ble_eq_true rfl) (zRm_of rfl (show _ ≤ 600000 by omega) (show _ ≤ 7302250 by omega)) dL_law_788 (fun v152 h153 H locs hf E => ?_)
                                                refine lv_icmp_eq (tgt := 1175) Z.x Z.b dL_law_791 (by decide) (fun c => ?_) (fun c => ?_)
                                                · have hf := zit hf c
                                                  exact t_L_1175 Z hr hX k18 hf E (lv_sub hl [0, 1, 2, 3] rfl) (by omega) (by omega)
                                                · have hf := zif_ hf c
                                                  refine lv_iconst (v := 0) Z.x Z.b dL_law_794 (by decide) ?_
                                                  exact absurd (show (0 : Int32) = 1 from congrArg Prod.fst (Option.some.inj hf)) (by decide)
                                              · have hf := zif_ hf c21
                                                by_cases c22 : (v1 &&& 63) = 22
                                                · have hf := zit hf c22
                                                  refine lv_tableIn (tgt := 796) Z.x Z.b dL_law_32 (by rw [c22]; decide) (by rw [c22]; decide) (by rw [c22]; rfl) (by decide) ?_
                                                  refine lv_aload_n Z.x Z.b dL_law_796 rfl (lv_at hl 1 rfl) ?_
                                                  refine lv_aload_n Z.x Z.b dL_law_797 rfl (lv_at hl 0 rfl) ?_
                                                  refine lv_iload_n Z.x Z.b dL_law_798 rfl (lv_at hl 3 rfl) ?_
                                                  refine lv_iconst (v := 1) Z.x Z.b dL_law_799 (by decide) ?_
                                                  refine lv_iadd Z.x Z.b dL_law_800 ?_
                                                  refine z_sld Z E hX.1 dL_law_801 hf (fun v154 hf => ?_)
                                                  refine lv_aload_n Z.x Z.b dL_law_802 rfl (lv_at hl 0 rfl) ?_
                                                  refine lv_iload_n Z.x Z.b dL_law_803 rfl (lv_at hl 3 rfl) ?_
                                                  refine lv_iconst (v := 2) Z.x Z.b dL_law_804 (by decide) ?_
                                                  refine lv_iadd Z.x Z.b dL_law_805 ?_
                                                  refine z_sld Z E hX.1 dL_law_806 hf (fun v155 hf => ?_)
                                                  refine z_Vi (As := [.int v154, .int v155]) Z E hl.1 k_L_107 v_X7_memberOf hf (fun r h' e => c_X7_memberOf l G h h' a1 v154 v155 r e) rfl rfl (Nat.le_of_ble_eq_true rfl) (zRm_of rfl (show _ ≤ 600000 by omega) (show _ ≤ 7302250 by omega)) dL_law_807 (fun v156 h157 H locs hf E => ?_)
                                                  refine lv_aload_n Z.x Z.b dL_law_810 rfl (lv_at hl 2 rfl) ?_
                                                  refine lv_aload_n Z.x Z.b dL_law_811 rfl (lv_at hl 0 rfl) ?_
                                                  refine lv_iload_n Z.x Z.b dL_law_812 rfl (lv_at hl 3 rfl) ?_
                                                  refine lv_iconst (v := 1) Z.x Z.b dL_law_813 (by decide) ?_
                                                  refine lv_iadd Z.x Z.b dL_law_814 ?_
                                                  refine z_sld Z E hX.1 dL_law_815 hf (fun v158 hf => ?_)
                                                  refine lv_aload_n Z.x Z.b dL_law_816 rfl (lv_at hl 0 rfl) ?_
                                                  refine lv_iload_n Z.x Z.b dL_law_817 rfl (lv_at hl 3 rfl) ?_
                                                  refine lv_iconst (v := 2) Z.x Z.b dL_law_818 (by decide) ?_
                                                  refine lv_iadd Z.x Z.b dL_law_819 ?_
                                                  refine z_sld Z E hX.1 dL_law_820 hf (fun v159 hf => ?_)
                                                  refine z_Vi (As := [.int v158, .int v159]) Z E hl.1 k_L_110 v_X8_memberOf hf (fun r h' e => c_X8_memberOf l G h157 h' a2 v158 v159 r e) rfl rfl (Nat.le_of_ble_eq_true rfl) (zRm_of rfl (show _ ≤ 600000 by omega) (show _ ≤ 7302250 by omega)) dL_law_821 (fun v160 h161 H locs hf E => ?_)
                                                  refine lv_icmp_eq (tgt := 1175) Z.x Z.b dL_law_824 (by decide) (fun c => ?_) (fun c => ?_)
                                                  · have hf := zit hf c
                                                    exact t_L_1175 Z hr hX k18 hf E (lv_sub hl [0, 1, 2, 3] rfl) (by omega) (by omega)
                                                  · have hf := zif_ hf c
                                                    refine lv_iconst (v := 0) Z.x Z.b dL_law_827 (by decide) ?_
                                                    exact absurd (show (0 : Int32) = 1 from congrArg Prod.fst (Option.some.inj hf)) (by decide)
                                                · have hf := zif_ hf c22
                                                  by_cases c23 : (v1 &&& 63) = 23
                                                  · have hf := zit hf c23
                                                    refine lv_tableIn (tgt := 829) Z.x Z.b dL_law_32 (by rw [c23]; decide) (by rw [c23]; decide) (by rw [c23]; rfl) (by decide) ?_
                                                    refine lv_aload_n Z.x Z.b dL_law_829 rfl (lv_at hl 1 rfl) ?_
                                                    refine lv_aload_n Z.x Z.b dL_law_830 rfl (lv_at hl 0 rfl) ?_
                                                    refine lv_iload_n Z.x Z.b dL_law_831 rfl (lv_at hl 3 rfl) ?_
                                                    refine lv_iconst (v := 1) Z.x Z.b dL_law_832 (by decide) ?_
                                                    refine lv_iadd Z.x Z.b dL_law_833 ?_
                                                    refine z_sld Z E hX.1 dL_law_834 hf (fun v162 hf => ?_)
                                                    refine lv_aload_n Z.x Z.b dL_law_835 rfl (lv_at hl 0 rfl) ?_
                                                    refine lv_iload_n Z.x Z.b dL_law_836 rfl (lv_at hl 3 rfl) ?_
                                                    refine lv_iconst (v := 2) Z.x Z.b dL_law_837 (by decide) ?_
                                                    refine lv_iadd Z.x Z.b dL_law_838 ?_
                                                    refine z_sld Z E hX.1 dL_law_839 hf (fun v163 hf => ?_)
                                                    refine z_Vi (As := [.int v162, .int v163]) Z E hl.1 k_L_111 v_X7_ladder hf (fun r h' e => c_X7_ladder l G h h' a1 v162 v163 r e) rfl rfl (Nat.le_of_ble_eq_true rfl) (zRm_of rfl (show _ ≤ 600000 by omega) (show _ ≤ 7302250 by omega)) dL_law_840 (fun v164 h165 H locs hf E => ?_)
                                                    refine lv_aload_n Z.x Z.b dL_law_843 rfl (lv_at hl 2 rfl) ?_
                                                    refine lv_aload_n Z.x Z.b dL_law_844 rfl (lv_at hl 0 rfl) ?_
                                                    refine lv_iload_n Z.x Z.b dL_law_845 rfl (lv_at hl 3 rfl) ?_
                                                    refine lv_iconst (v := 1) Z.x Z.b dL_law_846 (by decide) ?_
                                                    refine lv_iadd Z.x Z.b dL_law_847 ?_
                                                    refine z_sld Z E hX.1 dL_law_848 hf (fun v166 hf => ?_)
                                                    refine lv_aload_n Z.x Z.b dL_law_849 rfl (lv_at hl 0 rfl) ?_
                                                    refine lv_iload_n Z.x Z.b dL_law_850 rfl (lv_at hl 3 rfl) ?_
                                                    refine lv_iconst (v := 2) Z.x Z.b dL_law_851 (by decide) ?_
                                                    refine lv_iadd Z.x Z.b dL_law_852 ?_
                                                    refine z_sld Z E hX.1 dL_law_853 hf (fun v167 hf => ?_)
                                                    refine z_Vi (As := [.int v166, .int v167]) Z E hl.1 k_L_114 v_X8_ladder hf (fun r h' e => c_X8_ladder l G h165 h' a2 v166 v167 r e) rfl rfl (Nat.le_of_ble_eq_true rfl) (zRm_of rfl (show _ ≤ 600000 by omega) (show _ ≤ 7302250 by omega)) dL_law_854 (fun v168 h169 H locs hf E => ?_)
                                                    refine lv_icmp_eq (tgt := 1175) Z.x Z.b dL_law_857 (by decide) (fun c => ?_) (fun c => ?_)
                                                    · have hf := zit hf c
                                                      exact t_L_1175 Z hr hX k18 hf E (lv_sub hl [0, 1, 2, 3] rfl) (by omega) (by omega)
                                                    · have hf := zif_ hf c
                                                      refine lv_iconst (v := 0) Z.x Z.b dL_law_860 (by decide) ?_
                                                      exact absurd (show (0 : Int32) = 1 from congrArg Prod.fst (Option.some.inj hf)) (by decide)
                                                  · have hf := zif_ hf c23
                                                    by_cases c24 : (v1 &&& 63) = 24
                                                    · have hf := zit hf c24
                                                      refine lv_tableIn (tgt := 862) Z.x Z.b dL_law_32 (by rw [c24]; decide) (by rw [c24]; decide) (by rw [c24]; rfl) (by decide) ?_
                                                      refine lv_aload_n Z.x Z.b dL_law_862 rfl (lv_at hl 1 rfl) ?_
                                                      refine lv_aload_n Z.x Z.b dL_law_863 rfl (lv_at hl 0 rfl) ?_
                                                      refine lv_iload_n Z.x Z.b dL_law_864 rfl (lv_at hl 3 rfl) ?_
                                                      refine lv_iconst (v := 1) Z.x Z.b dL_law_865 (by decide) ?_
                                                      refine lv_iadd Z.x Z.b dL_law_866 ?_
                                                      refine z_sld Z E hX.1 dL_law_867 hf (fun v170 hf => ?_)
                                                      refine lv_aload_n Z.x Z.b dL_law_868 rfl (lv_at hl 0 rfl) ?_
                                                      refine lv_iload_n Z.x Z.b dL_law_869 rfl (lv_at hl 3 rfl) ?_
                                                      refine lv_iconst (v := 2) Z.x Z.b dL_law_870 (by decide) ?_
                                                      refine lv_iadd Z.x Z.b dL_law_871 ?_
                                                      refine z_sld Z E hX.1 dL_law_872 hf (fun v171 hf => ?_)
                                                      refine lv_aload_n Z.x Z.b dL_law_873 rfl (lv_at hl 0 rfl) ?_
                                                      refine lv_iload_n Z.x Z.b dL_law_874 rfl (lv_at hl 3 rfl) ?_
                                                      refine lv_iconst (v := 3) Z.x Z.b dL_law_875 (by decide) ?_
                                                      refine lv_iadd Z.x Z.b dL_law_876 ?_
                                                      refine z_sld Z E hX.1 dL_law_877 hf (fun v172 hf => ?_)
                                                      refine z_Vi (As := [.int v170, .int v171, .int v172]) Z E hl.1 k_L_115 v_X7_rest hf (fun r h' e => c_X7_rest l G h h' a1 v170 v171 v172 r e) rfl rfl (Nat.le_of_ble_eq_true rfl) (zRm_of rfl (show _ ≤ 600000 by omega) (show _ ≤ 7302250 by omega)) dL_law_878 (fun v173 h174 H locs hf E => ?_)
                                                      refine lv_aload_n Z.x Z.b dL_law_881 rfl (lv_at hl 2 rfl) ?_
                                                      refine lv_aload_n Z.x Z.b dL_law_882 rfl (lv_at hl 0 rfl) ?_
                                                      refine lv_iload_n Z.x Z.b dL_law_883 rfl (lv_at hl 3 rfl) ?_
                                                      refine lv_iconst (v := 1) Z.x Z.b dL_law_884 (by decide) ?_
                                                      refine lv_iadd Z.x Z.b dL_law_885 ?_
                                                      refine z_sld Z E hX.1 dL_law_886 hf (fun v175 hf => ?_)
                                                      refine lv_aload_n Z.x Z.b dL_law_887 rfl (lv_at hl 0 rfl) ?_
                                                      refine lv_iload_n Z.x Z.b dL_law_888 rfl (lv_at hl 3 rfl) ?_
                                                      refine lv_iconst (v := 2) Z.x Z.b dL_law_889 (by decide) ?_
                                                      refine lv_iadd Z.x Z.b dL_law_890 ?_
                                                      refine z_sld Z E hX.1 dL_law_891 hf (fun v176 hf => ?_)
                                                      refine lv_aload_n Z.x Z.b dL_law_892 rfl (lv_at hl 0 rfl) ?_
                                                      refine lv_iload_n Z.x Z.b dL_law_893 rfl (lv_at hl 3 rfl) ?_
                                                      refine lv_iconst (v := 3) Z.x Z.b dL_law_894 (by decide) ?_
                                                      refine lv_iadd Z.x Z.b dL_law_895 ?_
                                                      refine z_sld Z E hX.1 dL_law_896 hf (fun v177 hf => ?_)
                                                      refine z_Vi (As := [.int v175, .int v176, .int v177]) Z E hl.1 k_L_118 v_X8_rest hf (fun r h' e => c_X8_rest l G h174 h' a2 v175 v176 v177 r e) rfl rfl (Nat.le_of_ble_eq_true rfl) (zRm_of rfl (show _ ≤ 600000 by omega) (show _ ≤ 7302250 by omega)) dL_law_897 (fun v178 h179 H locs hf E => ?_)
                                                      refine lv_icmp_eq (tgt := 1175) Z.x Z.b dL_law_900 (by decide) (fun c => ?_) (fun c => ?_)
                                                      · have hf := zit hf c
                                                        exact t_L_1175 Z hr hX k18 hf E (lv_sub hl [0, 1, 2, 3] rfl) (by omega) (by omega)
                                                      · have hf := zif_ hf c
                                                        refine lv_iconst (v := 0) Z.x Z.b dL_law_903 (by decide) ?_
                                                        exact absurd (show (0 : Int32) = 1 from congrArg Prod.fst (Option.some.inj hf)) (by decide)
                                                    · have hf := zif_ hf c24
                                                      by_cases c25 : (v1 &&& 63) = 25
                                                      · have hf := zit hf c25
                                                        refine lv_tableIn (tgt := 905) Z.x Z.b dL_law_32 (by rw [c25]; decide) (by rw [c25]; decide) (by rw [c25]; rfl) (by decide) ?_
                                                        refine lv_aload_n Z.x Z.b dL_law_905 rfl (lv_at hl 1 rfl) ?_
                                                        refine lv_aload_n Z.x Z.b dL_law_906 rfl (lv_at hl 0 rfl) ?_
                                                        refine lv_iload_n Z.x Z.b dL_law_907 rfl (lv_at hl 3 rfl) ?_
                                                        refine lv_iconst (v := 1) Z.x Z.b dL_law_908 (by decide) ?_
                                                        refine lv_iadd Z.x Z.b dL_law_909 ?_
                                                        refine z_sld Z E hX.1 dL_law_910 hf (fun v180 hf => ?_)
                                                        refine lv_aload_n Z.x Z.b dL_law_911 rfl (lv_at hl 0 rfl) ?_
                                                        refine lv_iload_n Z.x Z.b dL_law_912 rfl (lv_at hl 3 rfl) ?_
                                                        refine lv_iconst (v := 2) Z.x Z.b dL_law_913 (by decide) ?_
                                                        refine lv_iadd Z.x Z.b dL_law_914 ?_
                                                        refine z_sld Z E hX.1 dL_law_915 hf (fun v181 hf => ?_)
                                                        refine z_Vi (As := [.int v180, .int v181]) Z E hl.1 k_L_119 v_X7_leastRest hf (fun r h' e => c_X7_leastRest l G h h' a1 v180 v181 r e) rfl rfl (Nat.le_of_ble_eq_true rfl) (zRm_of rfl (show _ ≤ 600000 by omega) (show _ ≤ 7302250 by omega)) dL_law_916 (fun v182 h183 H locs hf E => ?_)
                                                        refine lv_aload_n Z.x Z.b dL_law_919 rfl (lv_at hl 2 rfl) ?_
                                                        refine lv_aload_n Z.x Z.b dL_law_920 rfl (lv_at hl 0 rfl) ?_
                                                        refine lv_iload_n Z.x Z.b dL_law_921 rfl (lv_at hl 3 rfl) ?_
                                                        refine lv_iconst (v := 1) Z.x Z.b dL_law_922 (by decide) ?_
                                                        refine lv_iadd Z.x Z.b dL_law_923 ?_
                                                        refine z_sld Z E hX.1 dL_law_924 hf (fun v184 hf => ?_)
                                                        refine lv_aload_n Z.x Z.b dL_law_925 rfl (lv_at hl 0 rfl) ?_
                                                        refine lv_iload_n Z.x Z.b dL_law_926 rfl (lv_at hl 3 rfl) ?_
                                                        refine lv_iconst (v := 2) Z.x Z.b dL_law_927 (by decide) ?_
                                                        refine lv_iadd Z.x Z.b dL_law_928 ?_
                                                        refine z_sld Z E hX.1 dL_law_929 hf (fun v185 hf => ?_)
                                                        refine z_Vi (As := [.int v184, .int v185]) Z E hl.1 k_L_122 v_X8_leastRest hf (fun r h' e => c_X8_leastRest l G h183 h' a2 v184 v185 r e) rfl rfl (Nat.le_of_ble_eq_true rfl) (zRm_of rfl (show _ ≤ 600000 by omega) (show _ ≤ 7302250 by omega)) dL_law_930 (fun v186 h187 H locs hf E => ?_)
                                                        refine lv_icmp_eq (tgt := 1175) Z.x Z.b dL_law_933 (by decide) (fun c => ?_) (fun c => ?_)
                                                        · have hf := zit hf c
                                                          exact t_L_1175 Z hr hX k18 hf E (lv_sub hl [0, 1, 2, 3] rfl) (by omega) (by omega)
                                                        · have hf := zif_ hf c
                                                          refine lv_iconst (v := 0) Z.x Z.b dL_law_936 (by decide) ?_
                                                          exact absurd (show (0 : Int32) = 1 from congrArg Prod.fst (Option.some.inj hf)) (by decide)
                                                      · have hf := zif_ hf c25
                                                        by_cases c26 : (v1 &&& 63) = 26
                                                        · have hf := zit hf c26
                                                          refine lv_tableIn (tgt := 938) Z.x Z.b dL_law_32 (by rw [c26]; decide) (by rw [c26]; decide) (by rw [c26]; rfl) (by decide) ?_
                                                          refine lv_aload_n Z.x Z.b dL_law_938 rfl (lv_at hl 1 rfl) ?_
                                                          refine lv_aload_n Z.x Z.b dL_law_939 rfl (lv_at hl 0 rfl) ?_
                                                          refine lv_iload_n Z.x Z.b dL_law_940 rfl (lv_at hl 3 rfl) ?_
                                                          refine lv_iconst (v := 1) Z.x Z.b dL_law_941 (by decide) ?_
                                                          refine lv_iadd Z.x Z.b dL_law_942 ?_
                                                          refine z_sld Z E hX.1 dL_law_943 hf (fun v188 hf => ?_)
                                                          refine lv_aload_n Z.x Z.b dL_law_944 rfl (lv_at hl 0 rfl) ?_
                                                          refine lv_iload_n Z.x Z.b dL_law_945 rfl (lv_at hl 3 rfl) ?_
                                                          refine lv_iconst (v := 2) Z.x Z.b dL_law_946 (by decide) ?_
                                                          refine lv_iadd Z.x Z.b dL_law_947 ?_
                                                          refine z_sld Z E hX.1 dL_law_948 hf (fun v189 hf => ?_)
                                                          refine z_Vi (As := [.int v188, .int v189]) Z E hl.1 k_L_123 v_X7_overtime hf (fun r h' e => c_X7_overtime l G h h' a1 v188 v189 r e) rfl rfl (Nat.le_of_ble_eq_true rfl) (zRm_of rfl (show _ ≤ 600000 by omega) (show _ ≤ 7302250 by omega)) dL_law_949 (fun v190 h191 H locs hf E => ?_)
                                                          refine lv_aload_n Z.x Z.b dL_law_952 rfl (lv_at hl 2 rfl) ?_
                                                          refine lv_aload_n Z.x Z.b dL_law_953 rfl (lv_at hl 0 rfl) ?_
                                                          refine lv_iload_n Z.x Z.b dL_law_954 rfl (lv_at hl 3 rfl) ?_
                                                          refine lv_iconst (v := 1) Z.x Z.b dL_law_955 (by decide) ?_
                                                          refine lv_iadd Z.x Z.b dL_law_956 ?_
                                                          refine z_sld Z E hX.1 dL_law_957 hf (fun v192 hf => ?_)
                                                          refine lv_aload_n Z.x Z.b dL_law_958 rfl (lv_at hl 0 rfl) ?_
                                                          refine lv_iload_n Z.x Z.b dL_law_959 rfl (lv_at hl 3 rfl) ?_
                                                          refine lv_iconst (v := 2) Z.x Z.b dL_law_960 (by decide) ?_
                                                          refine lv_iadd Z.x Z.b dL_law_961 ?_
                                                          refine z_sld Z E hX.1 dL_law_962 hf (fun v193 hf => ?_)
                                                          refine z_Vi (As := [.int v192, .int v193]) Z E hl.1 k_L_126 v_X8_overtime hf (fun r h' e => c_X8_overtime l G h191 h' a2 v192 v193 r e) rfl rfl (Nat.le_of_ble_eq_true rfl) (zRm_of rfl (show _ ≤ 600000 by omega) (show _ ≤ 7302250 by omega)) dL_law_963 (fun v194 h195 H locs hf E => ?_)
                                                          refine lv_icmp_eq (tgt := 1175) Z.x Z.b dL_law_966 (by decide) (fun c => ?_) (fun c => ?_)
                                                          · have hf := zit hf c
                                                            exact t_L_1175 Z hr hX k18 hf E (lv_sub hl [0, 1, 2, 3] rfl) (by omega) (by omega)
                                                          · have hf := zif_ hf c
                                                            refine lv_iconst (v := 0) Z.x Z.b dL_law_969 (by decide) ?_
                                                            exact absurd (show (0 : Int32) = 1 from congrArg Prod.fst (Option.some.inj hf)) (by decide)
                                                        · have hf := zif_ hf c26
                                                          by_cases c27 : (v1 &&& 63) = 27
                                                          · have hf := zit hf c27
                                                            refine lv_tableIn (tgt := 971) Z.x Z.b dL_law_32 (by rw [c27]; decide) (by rw [c27]; decide) (by rw [c27]; rfl) (by decide) ?_
                                                            refine lv_aload_n Z.x Z.b dL_law_971 rfl (lv_at hl 1 rfl) ?_
                                                            refine lv_aload_n Z.x Z.b dL_law_972 rfl (lv_at hl 0 rfl) ?_
                                                            refine lv_iload_n Z.x Z.b dL_law_973 rfl (lv_at hl 3 rfl) ?_
                                                            refine lv_iconst (v := 1) Z.x Z.b dL_law_974 (by decide) ?_
                                                            refine lv_iadd Z.x Z.b dL_law_975 ?_
                                                            refine z_sld Z E hX.1 dL_law_976 hf (fun v196 hf => ?_)
                                                            refine z_Vi (As := [.int v196]) Z E hl.1 k_L_127 v_X7_count hf (fun r h' e => c_X7_count l G h h' a1 v196 r e) rfl rfl (Nat.le_of_ble_eq_true rfl) (zRm_of rfl (show _ ≤ 600000 by omega) (show _ ≤ 7302250 by omega)) dL_law_977 (fun v197 h198 H locs hf E => ?_)
                                                            refine lv_aload_n Z.x Z.b dL_law_980 rfl (lv_at hl 2 rfl) ?_
                                                            refine lv_aload_n Z.x Z.b dL_law_981 rfl (lv_at hl 0 rfl) ?_
                                                            refine lv_iload_n Z.x Z.b dL_law_982 rfl (lv_at hl 3 rfl) ?_
                                                            refine lv_iconst (v := 1) Z.x Z.b dL_law_983 (by decide) ?_
                                                            refine lv_iadd Z.x Z.b dL_law_984 ?_
                                                            refine z_sld Z E hX.1 dL_law_985 hf (fun v199 hf => ?_)
                                                            refine z_Vi (As := [.int v199]) Z E hl.1 k_L_130 v_X8_count hf (fun r h' e => c_X8_count l G h198 h' a2 v199 r e) rfl rfl (Nat.le_of_ble_eq_true rfl) (zRm_of rfl (show _ ≤ 600000 by omega) (show _ ≤ 7302250 by omega)) dL_law_986 (fun v200 h201 H locs hf E => ?_)
                                                            refine lv_icmp_eq (tgt := 1175) Z.x Z.b dL_law_989 (by decide) (fun c => ?_) (fun c => ?_)
                                                            · have hf := zit hf c
                                                              exact t_L_1175 Z hr hX k18 hf E (lv_sub hl [0, 1, 2, 3] rfl) (by omega) (by omega)
                                                            · have hf := zif_ hf c
                                                              refine lv_iconst (v := 0) Z.x Z.b dL_law_992 (by decide) ?_
                                                              exact absurd (show (0 : Int32) = 1 from congrArg Prod.fst (Option.some.inj hf)) (by decide)
                                                          · have hf := zif_ hf c27
                                                            by_cases c28 : (v1 &&& 63) = 28
                                                            · have hf := zit hf c28
                                                              refine lv_tableIn (tgt := 994) Z.x Z.b dL_law_32 (by rw [c28]; decide) (by rw [c28]; decide) (by rw [c28]; rfl) (by decide) ?_
                                                              refine lv_aload_n Z.x Z.b dL_law_994 rfl (lv_at hl 1 rfl) ?_
                                                              refine lv_aload_n Z.x Z.b dL_law_995 rfl (lv_at hl 0 rfl) ?_
                                                              refine lv_iload_n Z.x Z.b dL_law_996 rfl (lv_at hl 3 rfl) ?_
                                                              refine lv_iconst (v := 1) Z.x Z.b dL_law_997 (by decide) ?_
                                                              refine lv_iadd Z.x Z.b dL_law_998 ?_
                                                              refine z_sld Z E hX.1 dL_law_999 hf (fun v202 hf => ?_)
                                                              refine lv_aload_n Z.x Z.b dL_law_1000 rfl (lv_at hl 0 rfl) ?_
                                                              refine lv_iload_n Z.x Z.b dL_law_1001 rfl (lv_at hl 3 rfl) ?_
                                                              refine lv_iconst (v := 2) Z.x Z.b dL_law_1002 (by decide) ?_
                                                              refine lv_iadd Z.x Z.b dL_law_1003 ?_
                                                              refine z_sld Z E hX.1 dL_law_1004 hf (fun v203 hf => ?_)
                                                              refine lv_aload_n Z.x Z.b dL_law_1005 rfl (lv_at hl 0 rfl) ?_
                                                              refine lv_iload_n Z.x Z.b dL_law_1006 rfl (lv_at hl 3 rfl) ?_
                                                              refine lv_iconst (v := 3) Z.x Z.b dL_law_1007 (by decide) ?_
                                                              refine lv_iadd Z.x Z.b dL_law_1008 ?_
                                                              refine z_sld Z E hX.1 dL_law_1009 hf (fun v204 hf => ?_)
                                                              refine z_Vi (As := [.int v202, .int v203, .int v204]) Z E hl.1 k_L_131 v_X7_why hf (fun r h' e => c_X7_why l G h h' a1 v202 v203 v204 r e) rfl rfl (Nat.le_of_ble_eq_true rfl) (zRm_of rfl (show _ ≤ 600000 by omega) (show _ ≤ 7302250 by omega)) dL_law_1010 (fun v205 h206 H locs hf E => ?_)
                                                              refine lv_aload_n Z.x Z.b dL_law_1013 rfl (lv_at hl 2 rfl) ?_
                                                              refine lv_aload_n Z.x Z.b dL_law_1014 rfl (lv_at hl 0 rfl) ?_
                                                              refine lv_iload_n Z.x Z.b dL_law_1015 rfl (lv_at hl 3 rfl) ?_
                                                              refine lv_iconst (v := 1) Z.x Z.b dL_law_1016 (by decide) ?_
                                                              refine lv_iadd Z.x Z.b dL_law_1017 ?_
                                                              refine z_sld Z E hX.1 dL_law_1018 hf (fun v207 hf => ?_)
                                                              refine lv_aload_n Z.x Z.b dL_law_1019 rfl (lv_at hl 0 rfl) ?_
                                                              refine lv_iload_n Z.x Z.b dL_law_1020 rfl (lv_at hl 3 rfl) ?_
                                                              refine lv_iconst (v := 2) Z.x Z.b dL_law_1021 (by decide) ?_
                                                              refine lv_iadd Z.x Z.b dL_law_1022 ?_
                                                              refine z_sld Z E hX.1 dL_law_1023 hf (fun v208 hf => ?_)
                                                              refine lv_aload_n Z.x Z.b dL_law_1024 rfl (lv_at hl 0 rfl) ?_
                                                              refine lv_iload_n Z.x Z.b dL_law_1025 rfl (lv_at hl 3 rfl) ?_
                                                              refine lv_iconst (v := 3) Z.x Z.b dL_law_1026 (by decide) ?_
                                                              refine lv_iadd Z.x Z.b dL_law_1027 ?_
                                                              refine z_sld Z E hX.1 dL_law_1028 hf (fun v209 hf => ?_)
                                                              refine z_Vi (As := [.int v207, .int v208, .int v209]) Z E hl.1 k_L_134 v_X8_why hf (fun r h' e => c_X8_why l G h206 h' a2 v207 v208 v209 r e) rfl rfl (Nat.le_of_ble_eq_true rfl) (zRm_of rfl (show _ ≤ 600000 by omega) (show _ ≤ 7302250 by omega)) dL_law_1029 (fun v210 h211 H locs hf E => ?_)
                                                              refine lv_icmp_eq (tgt := 1175) Z.x Z.b dL_law_1032 (by decide) (fun c => ?_) (fun c => ?_)
                                                              · have hf := zit hf c
                                                                exact t_L_1175 Z hr hX k18 hf E (lv_sub hl [0, 1, 2, 3] rfl) (by omega) (by omega)
                                                              · have hf := zif_ hf c
                                                                refine lv_iconst (v := 0) Z.x Z.b dL_law_1035 (by decide) ?_
                                                                exact absurd (show (0 : Int32) = 1 from congrArg Prod.fst (Option.some.inj hf)) (by decide)
                                                            · have hf := zif_ hf c28
                                                              by_cases c29 : (v1 &&& 63) = 29
                                                              · have hf := zit hf c29
                                                                refine lv_tableIn (tgt := 1037) Z.x Z.b dL_law_32 (by rw [c29]; decide) (by rw [c29]; decide) (by rw [c29]; rfl) (by decide) ?_
                                                                refine lv_aload_n Z.x Z.b dL_law_1037 rfl (lv_at hl 1 rfl) ?_
                                                                refine lv_aload_n Z.x Z.b dL_law_1038 rfl (lv_at hl 0 rfl) ?_
                                                                refine lv_iload_n Z.x Z.b dL_law_1039 rfl (lv_at hl 3 rfl) ?_
                                                                refine lv_iconst (v := 1) Z.x Z.b dL_law_1040 (by decide) ?_
                                                                refine lv_iadd Z.x Z.b dL_law_1041 ?_
                                                                refine z_sld Z E hX.1 dL_law_1042 hf (fun v212 hf => ?_)
                                                                refine lv_aload_n Z.x Z.b dL_law_1043 rfl (lv_at hl 0 rfl) ?_
                                                                refine lv_iload_n Z.x Z.b dL_law_1044 rfl (lv_at hl 3 rfl) ?_
                                                                refine lv_iconst (v := 2) Z.x Z.b dL_law_1045 (by decide) ?_
                                                                refine lv_iadd Z.x Z.b dL_law_1046 ?_
                                                                refine z_sld Z E hX.1 dL_law_1047 hf (fun v213 hf => ?_)
                                                                refine z_Vi (As := [.int v212, .int v213]) Z E hl.1 k_L_135 v_X7_able hf (fun r h' e => c_X7_able l G h h' a1 v212 v213 r e) rfl rfl (Nat.le_of_ble_eq_true rfl) (zRm_of rfl (show _ ≤ 600000 by omega) (show _ ≤ 7302250 by omega)) dL_law_1048 (fun v214 h215 H locs hf E => ?_)
                                                                refine lv_aload_n Z.x Z.b dL_law_1051 rfl (lv_at hl 2 rfl) ?_
                                                                refine lv_aload_n Z.x Z.b dL_law_1052 rfl (lv_at hl 0 rfl) ?_
                                                                refine lv_iload_n Z.x Z.b dL_law_1053 rfl (lv_at hl 3 rfl) ?_
                                                                refine lv_iconst (v := 1) Z.x Z.b dL_law_1054 (by decide) ?_
                                                                refine lv_iadd Z.x Z.b dL_law_1055 ?_
                                                                refine z_sld Z E hX.1 dL_law_1056 hf (fun v216 hf => ?_)
                                                                refine lv_aload_n Z.x Z.b dL_law_1057 rfl (lv_at hl 0 rfl) ?_
                                                                refine lv_iload_n Z.x Z.b dL_law_1058 rfl (lv_at hl 3 rfl) ?_
                                                                refine lv_iconst (v := 2) Z.x Z.b dL_law_1059 (by decide) ?_
                                                                refine lv_iadd Z.x Z.b dL_law_1060 ?_
                                                                refine z_sld Z E hX.1 dL_law_1061 hf (fun v217 hf => ?_)
                                                                refine z_Vi (As := [.int v216, .int v217]) Z E hl.1 k_L_138 v_X8_able hf (fun r h' e => c_X8_able l G h215 h' a2 v216 v217 r e) rfl rfl (Nat.le_of_ble_eq_true rfl) (zRm_of rfl (show _ ≤ 600000 by omega) (show _ ≤ 7302250 by omega)) dL_law_1062 (fun v218 h219 H locs hf E => ?_)
                                                                refine lv_icmp_eq (tgt := 1175) Z.x Z.b dL_law_1065 (by decide) (fun c => ?_) (fun c => ?_)
                                                                · have hf := zit hf c
                                                                  exact t_L_1175 Z hr hX k18 hf E (lv_sub hl [0, 1, 2, 3] rfl) (by omega) (by omega)
                                                                · have hf := zif_ hf c
                                                                  refine lv_iconst (v := 0) Z.x Z.b dL_law_1068 (by decide) ?_
                                                                  exact absurd (show (0 : Int32) = 1 from congrArg Prod.fst (Option.some.inj hf)) (by decide)
                                                              · have hf := zif_ hf c29
                                                                by_cases c30 : (v1 &&& 63) = 30
                                                                · have hf := zit hf c30
                                                                  refine lv_tableIn (tgt := 1070) Z.x Z.b dL_law_32 (by rw [c30]; decide) (by rw [c30]; decide) (by rw [c30]; rfl) (by decide) ?_
                                                                  refine lv_aload_n Z.x Z.b dL_law_1070 rfl (lv_at hl 1 rfl) ?_
                                                                  refine lv_aload_n Z.x Z.b dL_law_1071 rfl (lv_at hl 0 rfl) ?_
                                                                  refine lv_iload_n Z.x Z.b dL_law_1072 rfl (lv_at hl 3 rfl) ?_
                                                                  refine lv_iconst (v := 1) Z.x Z.b dL_law_1073 (by decide) ?_
                                                                  refine lv_iadd Z.x Z.b dL_law_1074 ?_
                                                                  refine z_sld Z E hX.1 dL_law_1075 hf (fun v220 hf => ?_)
                                                                  refine lv_aload_n Z.x Z.b dL_law_1076 rfl (lv_at hl 0 rfl) ?_
                                                                  refine lv_iload_n Z.x Z.b dL_law_1077 rfl (lv_at hl 3 rfl) ?_
                                                                  refine lv_iconst (v := 2) Z.x Z.b dL_law_1078 (by decide) ?_
                                                                  refine lv_iadd Z.x Z.b dL_law_1079 ?_
                                                                  refine z_sld Z E hX.1 dL_law_1080 hf (fun v221 hf => ?_)
                                                                  refine z_Vi (As := [.int v220, .int v221]) Z E hl.1 k_L_139 v_X7_ifSick hf (fun r h' e => c_X7_ifSick l G h h' a1 v220 v221 r e) rfl rfl (Nat.le_of_ble_eq_true rfl) (zRm_of rfl (show _ ≤ 600000 by omega) (show _ ≤ 7302250 by omega)) dL_law_1081 (fun v222 h223 H locs hf E => ?_)
                                                                  refine lv_aload_n Z.x Z.b dL_law_1084 rfl (lv_at hl 2 rfl) ?_
                                                                  refine lv_aload_n Z.x Z.b dL_law_1085 rfl (lv_at hl 0 rfl) ?_
                                                                  refine lv_iload_n Z.x Z.b dL_law_1086 rfl (lv_at hl 3 rfl) ?_
                                                                  refine lv_iconst (v := 1) Z.x Z.b dL_law_1087 (by decide) ?_
                                                                  refine lv_iadd Z.x Z.b dL_law_1088 ?_
                                                                  refine z_sld Z E hX.1 dL_law_1089 hf (fun v224 hf => ?_)
                                                                  refine lv_aload_n Z.x Z.b dL_law_1090 rfl (lv_at hl 0 rfl) ?_
                                                                  refine lv_iload_n Z.x Z.b dL_law_1091 rfl (lv_at hl 3 rfl) ?_
                                                                  refine lv_iconst (v := 2) Z.x Z.b dL_law_1092 (by decide) ?_
                                                                  refine lv_iadd Z.x Z.b dL_law_1093 ?_
                                                                  refine z_sld Z E hX.1 dL_law_1094 hf (fun v225 hf => ?_)
                                                                  refine z_Vi (As := [.int v224, .int v225]) Z E hl.1 k_L_142 v_X8_ifSick hf (fun r h' e => c_X8_ifSick l G h223 h' a2 v224 v225 r e) rfl rfl (Nat.le_of_ble_eq_true rfl) (zRm_of rfl (show _ ≤ 600000 by omega) (show _ ≤ 7302250 by omega)) dL_law_1095 (fun v226 h227 H locs hf E => ?_)
                                                                  refine lv_icmp_eq (tgt := 1175) Z.x Z.b dL_law_1098 (by decide) (fun c => ?_) (fun c => ?_)
                                                                  · have hf := zit hf c
                                                                    exact t_L_1175 Z hr hX k18 hf E (lv_sub hl [0, 1, 2, 3] rfl) (by omega) (by omega)
                                                                  · have hf := zif_ hf c
                                                                    refine lv_iconst (v := 0) Z.x Z.b dL_law_1101 (by decide) ?_
                                                                    exact absurd (show (0 : Int32) = 1 from congrArg Prod.fst (Option.some.inj hf)) (by decide)
                                                                · have hf := zif_ hf c30
                                                                  by_cases c31 : (v1 &&& 63) = 31
                                                                  · have hf := zit hf c31
                                                                    refine lv_tableIn (tgt := 1103) Z.x Z.b dL_law_32 (by rw [c31]; decide) (by rw [c31]; decide) (by rw [c31]; rfl) (by decide) ?_
                                                                    refine lv_aload_n Z.x Z.b dL_law_1103 rfl (lv_at hl 1 rfl) ?_
                                                                    refine lv_aload_n Z.x Z.b dL_law_1104 rfl (lv_at hl 0 rfl) ?_
                                                                    refine lv_iload_n Z.x Z.b dL_law_1105 rfl (lv_at hl 3 rfl) ?_
                                                                    refine lv_iconst (v := 1) Z.x Z.b dL_law_1106 (by decide) ?_
                                                                    refine lv_iadd Z.x Z.b dL_law_1107 ?_
                                                                    refine z_sld Z E hX.1 dL_law_1108 hf (fun v228 hf => ?_)
                                                                    refine z_Vi (As := [.int v228]) Z E hl.1 k_L_143 v_X7_weakest hf (fun r h' e => c_X7_weakest l G h h' a1 v228 r e) rfl rfl (Nat.le_of_ble_eq_true rfl) (zRm_of rfl (show _ ≤ 600000 by omega) (show _ ≤ 7302250 by omega)) dL_law_1109 (fun v229 h230 H locs hf E => ?_)
                                                                    refine lv_aload_n Z.x Z.b dL_law_1112 rfl (lv_at hl 2 rfl) ?_
                                                                    refine lv_aload_n Z.x Z.b dL_law_1113 rfl (lv_at hl 0 rfl) ?_
                                                                    refine lv_iload_n Z.x Z.b dL_law_1114 rfl (lv_at hl 3 rfl) ?_
                                                                    refine lv_iconst (v := 1) Z.x Z.b dL_law_1115 (by decide) ?_
                                                                    refine lv_iadd Z.x Z.b dL_law_1116 ?_
                                                                    refine z_sld Z E hX.1 dL_law_1117 hf (fun v231 hf => ?_)
                                                                    refine z_Vi (As := [.int v231]) Z E hl.1 k_L_146 v_X8_weakest hf (fun r h' e => c_X8_weakest l G h230 h' a2 v231 r e) rfl rfl (Nat.le_of_ble_eq_true rfl) (zRm_of rfl (show _ ≤ 600000 by omega) (show _ ≤ 7302250 by omega)) dL_law_1118 (fun v232 h233 H locs hf E => ?_)
                                                                    refine lv_icmp_eq (tgt := 1175) Z.x Z.b dL_law_1121 (by decide) (fun c => ?_) (fun c => ?_)
                                                                    · have hf := zit hf c
                                                                      exact t_L_1175 Z hr hX k18 hf E (lv_sub hl [0, 1, 2, 3] rfl) (by omega) (by omega)
                                                                    · have hf := zif_ hf c
                                                                      refine lv_iconst (v := 0) Z.x Z.b dL_law_1124 (by decide) ?_
                                                                      exact absurd (show (0 : Int32) = 1 from congrArg Prod.fst (Option.some.inj hf)) (by decide)
                                                                  · have hf := zif_ hf c31
                                                                    by_cases c32 : (v1 &&& 63) = 32
                                                                    · have hf := zit hf c32
                                                                      refine lv_tableIn (tgt := 1126) Z.x Z.b dL_law_32 (by rw [c32]; decide) (by rw [c32]; decide) (by rw [c32]; rfl) (by decide) ?_
                                                                      refine lv_aload_n Z.x Z.b dL_law_1126 rfl (lv_at hl 1 rfl) ?_
                                                                      refine z_Vi (As := []) Z E hl.1 k_L_147 v_X7_atRisk hf (fun r h' e => c_X7_atRisk l G h h' a1 r e) rfl rfl (Nat.le_of_ble_eq_true rfl) (zRm_of rfl (show _ ≤ 600000 by omega) (show _ ≤ 7302250 by omega)) dL_law_1127 (fun v234 h235 H locs hf E => ?_)
                                                                      refine lv_aload_n Z.x Z.b dL_law_1130 rfl (lv_at hl 2 rfl) ?_
                                                                      refine z_Vi (As := []) Z E hl.1 k_L_150 v_X8_atRisk hf (fun r h' e => c_X8_atRisk l G h235 h' a2 r e) rfl rfl (Nat.le_of_ble_eq_true rfl) (zRm_of rfl (show _ ≤ 600000 by omega) (show _ ≤ 7302250 by omega)) dL_law_1131 (fun v236 h237 H locs hf E => ?_)
                                                                      refine lv_icmp_eq (tgt := 1175) Z.x Z.b dL_law_1134 (by decide) (fun c => ?_) (fun c => ?_)
                                                                      · have hf := zit hf c
                                                                        exact t_L_1175 Z hr hX k18 hf E (lv_sub hl [0, 1, 2, 3] rfl) (by omega) (by omega)
                                                                      · have hf := zif_ hf c
                                                                        refine lv_iconst (v := 0) Z.x Z.b dL_law_1137 (by decide) ?_
                                                                        exact absurd (show (0 : Int32) = 1 from congrArg Prod.fst (Option.some.inj hf)) (by decide)
                                                                    · have hf := zif_ hf c32
                                                                      by_cases c33 : (v1 &&& 63) = 33
                                                                      · have hf := zit hf c33
                                                                        refine lv_tableIn (tgt := 1139) Z.x Z.b dL_law_32 (by rw [c33]; decide) (by rw [c33]; decide) (by rw [c33]; rfl) (by decide) ?_
                                                                        refine lv_aload_n Z.x Z.b dL_law_1139 rfl (lv_at hl 1 rfl) ?_
                                                                        refine lv_aload_n Z.x Z.b dL_law_1140 rfl (lv_at hl 0 rfl) ?_
                                                                        refine lv_iload_n Z.x Z.b dL_law_1141 rfl (lv_at hl 3 rfl) ?_
                                                                        refine lv_iconst (v := 1) Z.x Z.b dL_law_1142 (by decide) ?_
                                                                        refine lv_iadd Z.x Z.b dL_law_1143 ?_
                                                                        refine z_sld Z E hX.1 dL_law_1144 hf (fun v238 hf => ?_)
                                                                        refine z_Vi (As := [.int v238]) Z E hl.1 k_L_151 v_X7_cancelledIn hf (fun r h' e => c_X7_cancelledIn l G h h' a1 v238 r e) rfl rfl (Nat.le_of_ble_eq_true rfl) (zRm_of rfl (show _ ≤ 600000 by omega) (show _ ≤ 7302250 by omega)) dL_law_1145 (fun v239 h240 H locs hf E => ?_)
                                                                        refine lv_aload_n Z.x Z.b dL_law_1148 rfl (lv_at hl 2 rfl) ?_
                                                                        refine lv_aload_n Z.x Z.b dL_law_1149 rfl (lv_at hl 0 rfl) ?_
                                                                        refine lv_iload_n Z.x Z.b dL_law_1150 rfl (lv_at hl 3 rfl) ?_
                                                                        refine lv_iconst (v := 1) Z.x Z.b dL_law_1151 (by decide) ?_
                                                                        refine lv_iadd Z.x Z.b dL_law_1152 ?_
                                                                        refine z_sld Z E hX.1 dL_law_1153 hf (fun v241 hf => ?_)
                                                                        refine z_Vi (As := [.int v241]) Z E hl.1 k_L_154 v_X8_cancelledIn hf (fun r h' e => c_X8_cancelledIn l G h240 h' a2 v241 r e) rfl rfl (Nat.le_of_ble_eq_true rfl) (zRm_of rfl (show _ ≤ 600000 by omega) (show _ ≤ 7302250 by omega)) dL_law_1154 (fun v242 h243 H locs hf E => ?_)
                                                                        refine lv_icmp_eq (tgt := 1175) Z.x Z.b dL_law_1157 (by decide) (fun c => ?_) (fun c => ?_)
                                                                        · have hf := zit hf c
                                                                          exact t_L_1175 Z hr hX k18 hf E (lv_sub hl [0, 1, 2, 3] rfl) (by omega) (by omega)
                                                                        · have hf := zif_ hf c
                                                                          refine lv_iconst (v := 0) Z.x Z.b dL_law_1160 (by decide) ?_
                                                                          exact absurd (show (0 : Int32) = 1 from congrArg Prod.fst (Option.some.inj hf)) (by decide)
                                                                      · have hf := zif_ hf c33
                                                                        by_cases c34 : (v1 &&& 63) = 34
                                                                        · have hf := zit hf c34
                                                                          refine lv_tableIn (tgt := 1162) Z.x Z.b dL_law_32 (by rw [c34]; decide) (by rw [c34]; decide) (by rw [c34]; rfl) (by decide) ?_
                                                                          refine lv_aload_n Z.x Z.b dL_law_1162 rfl (lv_at hl 1 rfl) ?_
                                                                          refine z_Vi (As := []) Z E hl.1 k_L_155 v_X7_freshest hf (fun r h' e => c_X7_freshest l G h h' a1 r e) rfl rfl (Nat.le_of_ble_eq_true rfl) (zRm_of rfl (show _ ≤ 600000 by omega) (show _ ≤ 7302250 by omega)) dL_law_1163 (fun v244 h245 H locs hf E => ?_)
                                                                          refine lv_aload_n Z.x Z.b dL_law_1166 rfl (lv_at hl 2 rfl) ?_
                                                                          refine z_Vi (As := []) Z E hl.1 k_L_158 v_X8_freshest hf (fun r h' e => c_X8_freshest l G h245 h' a2 r e) rfl rfl (Nat.le_of_ble_eq_true rfl) (zRm_of rfl (show _ ≤ 600000 by omega) (show _ ≤ 7302250 by omega)) dL_law_1167 (fun v246 h247 H locs hf E => ?_)
                                                                          refine lv_icmp_eq (tgt := 1175) Z.x Z.b dL_law_1170 (by decide) (fun c => ?_) (fun c => ?_)
                                                                          · have hf := zit hf c
                                                                            exact t_L_1175 Z hr hX k18 hf E (lv_sub hl [0, 1, 2, 3] rfl) (by omega) (by omega)
                                                                          · have hf := zif_ hf c
                                                                            refine lv_iconst (v := 0) Z.x Z.b dL_law_1173 (by decide) ?_
                                                                            exact absurd (show (0 : Int32) = 1 from congrArg Prod.fst (Option.some.inj hf)) (by decide)
                                                                        · have hf := zif_ hf c34
                                                                          have n0 := zsw (k := 0) c0 (by decide)
                                                                          have n1 := zsw (k := 1) c1 (by decide)
                                                                          have n2 := zsw (k := 2) c2 (by decide)
                                                                          have n3 := zsw (k := 3) c3 (by decide)
                                                                          have n4 := zsw (k := 4) c4 (by decide)
                                                                          have n5 := zsw (k := 5) c5 (by decide)
                                                                          have n6 := zsw (k := 6) c6 (by decide)
                                                                          have n7 := zsw (k := 7) c7 (by decide)
                                                                          have n8 := zsw (k := 8) c8 (by decide)
                                                                          have n9 := zsw (k := 9) c9 (by decide)
                                                                          have n10 := zsw (k := 10) c10 (by decide)
                                                                          have n11 := zsw (k := 11) c11 (by decide)
                                                                          have n12 := zsw (k := 12) c12 (by decide)
                                                                          have n13 := zsw (k := 13) c13 (by decide)
                                                                          have n14 := zsw (k := 14) c14 (by decide)
                                                                          have n15 := zsw (k := 15) c15 (by decide)
                                                                          have n16 := zsw (k := 16) c16 (by decide)
                                                                          have n17 := zsw (k := 17) c17 (by decide)
                                                                          have n18 := zsw (k := 18) c18 (by decide)
                                                                          have n19 := zsw (k := 19) c19 (by decide)
                                                                          have n20 := zsw (k := 20) c20 (by decide)
                                                                          have n21 := zsw (k := 21) c21 (by decide)
                                                                          have n22 := zsw (k := 22) c22 (by decide)
                                                                          have n23 := zsw (k := 23) c23 (by decide)
                                                                          have n24 := zsw (k := 24) c24 (by decide)
                                                                          have n25 := zsw (k := 25) c25 (by decide)
                                                                          have n26 := zsw (k := 26) c26 (by decide)
                                                                          have n27 := zsw (k := 27) c27 (by decide)
                                                                          have n28 := zsw (k := 28) c28 (by decide)
                                                                          have n29 := zsw (k := 29) c29 (by decide)
                                                                          have n30 := zsw (k := 30) c30 (by decide)
                                                                          have n31 := zsw (k := 31) c31 (by decide)
                                                                          have n32 := zsw (k := 32) c32 (by decide)
                                                                          have n33 := zsw (k := 33) c33 (by decide)
                                                                          have n34 := zsw (k := 34) c34 (by decide)
                                                                          refine lv_tableOut (tgt := 1175) Z.x Z.b dL_law_32 (by omega) (by decide) ?_
                                                                          exact t_L_1175 Z hr hX k18 hf E (lv_sub hl [0, 1, 2, 3] rfl) (by omega) (by omega)
theorem t_L_18 {p : Program} {l : Launch} {e : Env} {s : State} {m : MethodId} {below : List Frame} {meth : Method} {c : Code} {G : zG} {b L : Nat} {xs : Nat → Int32} (Z : zF p s m #[Value.ref b] c meth cL_law 4 RL G) (hr : meth.sig.returnType = ret) (hX : (va_X b L xs s s.heap ∧ b < s.heap.size ∧ ¬ zA G b) ∧ G.2.2 = s.heap.size) {o : zHp} : ∀ (n : Nat), ∀ {a1 : Nat} {a2 : Nat} {a3 : Int32} {h : zHp} {H : Heap} {locs : List Loc} {ls : Array Slot} {cells slots : Nat}, f_L_18 L xs n a1 a2 a3 h = some (1, o) → zE G s h H locs → lv_has ls 4 [(0, .ref b), (1, .ref a1), (2, .ref a2), (3, .int a3)] → cells + 0 ≤ 600000 → slots + 0 ≤ 7302250 → W p l e room_1 s m #[Value.ref b] below meth c H locs cells slots (lw_Z below #[Value.ref b] s) (F0 m 18 ls [])
  | 0 => fun hf => by cases hf
  | n + 1 => fun hf E hl hc hs => t_L_18_body Z hr hX (r18 := f_L_18 L xs n) (t_L_18 Z hr hX n) hf E hl hc hs
set_option maxHeartbeats 4000000 in
set_option maxRecDepth 20000 in
theorem t_L {p : Program} {l : Launch} {e : Env} {s : State} {m : MethodId} {below : List Frame} {meth : Method} {c : Code} {G : zG} {b L : Nat} {xs : Nat → Int32} (Z : zF p s m #[Value.ref b] c meth cL_law 4 RL G) (hr : meth.sig.returnType = ret) (hX : (va_X b L xs s s.heap ∧ b < s.heap.size ∧ ¬ zA G b) ∧ G.2.2 = s.heap.size) {o : zHp} {h : zHp} {H : Heap} {locs : List Loc} {ls : Array Slot} {cells slots : Nat} (hf : f_L L xs h = some (1, o)) (E : zE G s h H locs) (hl : lv_has ls 4 [(0, .ref b)]) (hc : cells + 1287 ≤ 600000) (hs : slots + 20170 ≤ 7302250) : W p l e room_1 s m #[Value.ref b] below meth c H locs cells slots (lw_Z below #[Value.ref b] s) (F0 m 0 ls []) := by
  unfold f_L at hf
  refine z_new (ci := 7) (C := RX7) (T := TX7) (N := 6) (ty := tyX7) (fs := [.null, .null, .null, .null, .null, .int 0]) Z E rfl iX7 tyX7_ok wk_L_7 wa_X7 wi_X7 (fun j hj => by rcases (show j = 0 ∨ j = 1 ∨ j = 2 ∨ j = 3 ∨ j = 4 ∨ j = 5 by omega) with rfl | rfl | rfl | rfl | rfl | rfl <;> rfl) (show _ ≤ 600000 by omega) (show _ ≤ 7302250 by omega) dL_law_0 hf (fun q1 h2 H hf E => ?_)
  refine lv_dup Z.x Z.b dL_law_3 rfl ?_
  refine z_I (As := []) (mc := 1277) (ms := 11189) Z E hl.1 k_L_9 wn_X7_init rfl hf (fun h' e => c_X7_init l G h2 h' q1 e) rfl rfl (Nat.le_of_ble_eq_true rfl) ⟨⟨by decide, by decide⟩, ⟨rfl, rfl⟩, (show _ ≤ 600000 by omega), (show _ ≤ 7302250 by omega)⟩ dL_law_4 (fun h3 H locs hf E => ?_)
  refine lv_astore_n (lv' := [(1, .ref q1), (0, .ref b)]) Z.x Z.b dL_law_7 rfl hl (by decide) rfl (fun ls hl => ?_)
  refine z_new (ci := 8) (C := RX8) (T := TX8) (N := 12) (ty := tyX8) (fs := [.null, .null, .null, .null, .null, .null, .null, .null, .int 0, .int 0, .int 0, .int 0]) Z E rfl iX8 tyX8_ok wk_L_10 wa_X8 wi_X8 (fun j hj => by rcases (show j = 0 ∨ j = 1 ∨ j = 2 ∨ j = 3 ∨ j = 4 ∨ j = 5 ∨ j = 6 ∨ j = 7 ∨ j = 8 ∨ j = 9 ∨ j = 10 ∨ j = 11 by omega) with rfl | rfl | rfl | rfl | rfl | rfl | rfl | rfl | rfl | rfl | rfl | rfl <;> rfl) (show _ ≤ 600000 by omega) (show _ ≤ 7302250 by omega) dL_law_8 hf (fun q4 h5 H hf E => ?_)
  refine lv_dup Z.x Z.b dL_law_11 rfl ?_
  refine z_I (As := []) (mc := 8) (ms := 8963) Z E hl.1 k_L_12 wn_X8_init rfl hf (fun h' e => c_X8_init l G h5 h' q4 e) rfl rfl (Nat.le_of_ble_eq_true rfl) ⟨⟨by decide, by decide⟩, ⟨rfl, rfl⟩, (show _ ≤ 600000 by omega), (show _ ≤ 7302250 by omega)⟩ dL_law_12 (fun h6 H locs hf E => ?_)
  refine lv_astore_n (lv' := [(2, .ref q4), (1, .ref q1), (0, .ref b)]) Z.x Z.b dL_law_15 rfl hl (by decide) rfl (fun ls hl => ?_)
  refine lv_iconst (v := 0) Z.x Z.b dL_law_16 (by decide) ?_
  refine lv_istore_n (lv' := [(3, .int 0), (2, .ref q4), (1, .ref q1), (0, .ref b)]) Z.x Z.b dL_law_17 rfl hl (by decide) rfl (fun ls hl => ?_)
  exact t_L_18 Z hr hX zN hf E (lv_sub hl [3, 2, 1, 0] rfl) (by omega) (by omega)
