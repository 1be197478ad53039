set_option maxHeartbeats 4000000 in
set_option maxRecDepth 100000 in
/-- from the entry, for every script of at most 260 ints, the law comes to its end with true -/
theorem whole_start {p : Program} {e : Env} {s : State} {m : MethodId} {below : List Frame} {meth : Method} {c : Code} (l : Launch) (hflags : l.flags = flags0) {b L : Nat} {xs : Nat → Int32} (hL : L ≤ 260) (C0 : lw_At p s m meth c b L xs) : W p l e room_1 s m #[Value.ref b] below meth c s.heap [] 0 0 (lw_Z below #[Value.ref b] s) (entryFrame m ([Value.ref b] : List Value).toArray 10) := by
  obtain ⟨hx, hb, hr, hml, hown, hts, hX, hbl, hlocks, hgv⟩ := id C0
  have hB : ∀ w ∈ zB, w.before #[Value.ref b] s = true := fun w hw => hts w (List.mem_filter.mp hw).1
  have hs := flat_of_before _ hgv
  obtain ⟨c0, i0, k0⟩ := u_known (C := RX0) (T := TX0) (N := 4) (n := 4) hB iX0 (hB _ wa_X0)
  obtain ⟨c1, i1, k1⟩ := u_known (C := RX1) (T := TX1) (N := 2) (n := 2) hB iX1 (hB _ wa_X1)
  obtain ⟨c2, i2, k2⟩ := u_known (C := RX2) (T := TX2) (N := 2) (n := 2) hB iX2 (hB _ wa_X2)
  obtain ⟨c3, i3, k3⟩ := u_known (C := RX3) (T := TX3) (N := 3) (n := 3) hB iX3 (hB _ wa_X3)
  obtain ⟨c4, i4, k4⟩ := u_known (C := RX4) (T := TX4) (N := 9) (n := 9) hB iX4 (hB _ wa_X4)
  obtain ⟨c5, i5, k5⟩ := u_known (C := RX5) (T := TX5) (N := 8) (n := 8) hB iX5 (hB _ wa_X5)
  obtain ⟨c6, i6, k6⟩ := u_known (C := RX6) (T := TX6) (N := 8) (n := 8) hB iX6 (hB _ wa_X6)
  obtain ⟨c7, i7, k7⟩ := u_known (C := RX7) (T := TX7) (N := 6) (n := 6) hB iX7 (hB _ wa_X7)
  obtain ⟨ca0, ka0, cm0, oa0, ob0, oc0⟩ := Cond.arrayClass_spec (hB _ wr_0)
  obtain ⟨ca1, ka1, cm1, oa1, ob1, oc1⟩ := Cond.arrayClass_spec (hB _ wr_1)
  have ao2 : (Cond.arrayOver (.object RX4)).before #[Value.ref b] s = true := hts _ (List.mem_of_getElem? (i := 55) (by decide +kernel))
  obtain ⟨cm2, ca2, ka2, oa2, -, ob2, oc2, od2⟩ := Cond.arrayOver_spec ao2
  have ao3 : (Cond.arrayOver (.object RX3)).before #[Value.ref b] s = true := hts _ (List.mem_of_getElem? (i := 57) (by decide +kernel))
  obtain ⟨cm3, ca3, ka3, oa3, -, ob3, oc3, od3⟩ := Cond.arrayOver_spec ao3
  have ao4 : (Cond.arrayOver (.object RX2)).before #[Value.ref b] s = true := hts _ (List.mem_of_getElem? (i := 59) (by decide +kernel))
  obtain ⟨cm4, ca4, ka4, oa4, -, ob4, oc4, od4⟩ := Cond.arrayOver_spec ao4
  have ao5 : (Cond.arrayOver (.object RX5)).before #[Value.ref b] s = true := hts _ (List.mem_of_getElem? (i := 180) (by decide +kernel))
  obtain ⟨cm5, ca5, ka5, oa5, -, ob5, oc5, od5⟩ := Cond.arrayOver_spec ao5
  obtain ⟨G, hG1, hG2, hG3⟩ : ∃ G : zG, (∀ (k : Nat) (q : vw_C), zcl[k]? = some q → u_Kn s q.1 q.2.1 q.2.2 (G.1.1 k) (G.1.2 k)) ∧ (G.2.1 0 = ca0 ∧ G.2.1 1 = ca1 ∧ G.2.1 2 = ca2 ∧ G.2.1 3 = ca3 ∧ G.2.1 4 = ca4 ∧ G.2.1 5 = ca5) ∧ G.2.2 = s.heap.size := by
    refine ⟨((fun k => match k with | 0 => c0 | 1 => c1 | 2 => c2 | 3 => c3 | 4 => c4 | 5 => c5 | 6 => c6 | _ => c7, fun k => match k with | 0 => i0 | 1 => i1 | 2 => i2 | 3 => i3 | 4 => i4 | 5 => i5 | 6 => i6 | _ => i7), (fun k => match k with | 0 => ca0 | 1 => ca1 | 2 => ca2 | 3 => ca3 | 4 => ca4 | _ => ca5, s.heap.size)), ?_, ⟨rfl, rfl, rfl, rfl, rfl, rfl⟩, rfl⟩
    intro k q hq
    match k, hq with
    | 0, hq => cases hq; exact k0
    | 1, hq => cases hq; exact k1
    | 2, hq => cases hq; exact k2
    | 3, hq => cases hq; exact k3
    | 4, hq => cases hq; exact k4
    | 5, hq => cases hq; exact k5
    | 6, hq => cases hq; exact k6
    | 7, hq => cases hq; exact k7
    | k + 8, hq => simp [zcl] at hq
  have hA : ∀ a : Nat, a < s.heap.size → ¬ zA G a := fun a h q => by have q : G.2.2 ≤ a := q; omega
  have s_FIRST_SETTINGS : zSt1 G "FIRST_SETTINGS" zT1 s s.heap := by
    have ha : (Cond.arrayOf (Term.static "FerryCrews" "FIRST_SETTINGS" "[I") .int).before #[Value.ref b] s = true := hs _ (by decide +kernel)
    have hlen := va_eqt (t := .length (Term.static "FerryCrews" "FIRST_SETTINGS" "[I")) (z := 5) (hs _ (by decide +kernel))
    have e0 := va_eqt (t := .elem (Term.static "FerryCrews" "FIRST_SETTINGS" "[I") (.int 0)) (z := 10) (hs _ (by decide +kernel))
    have e1 := va_eqt (t := .elem (Term.static "FerryCrews" "FIRST_SETTINGS" "[I") (.int 1)) (z := 6) (hs _ (by decide +kernel))
    have e2 := va_eqt (t := .elem (Term.static "FerryCrews" "FIRST_SETTINGS" "[I") (.int 2)) (z := 77) (hs _ (by decide +kernel))
    have e3 := va_eqt (t := .elem (Term.static "FerryCrews" "FIRST_SETTINGS" "[I") (.int 3)) (z := 1) (hs _ (by decide +kernel))
    have e4 := va_eqt (t := .elem (Term.static "FerryCrews" "FIRST_SETTINGS" "[I") (.int 4)) (z := 48) (hs _ (by decide +kernel))
    obtain ⟨t, h1, h2⟩ := va_Tof (N := 5) (f := fun j => .int (zT1 j)) (A := zA G) (by decide) ha hlen (fun j hj => by
      rcases (show j = 0 ∨ j = 1 ∨ j = 2 ∨ j = 3 ∨ j = 4 by omega) with rfl | rfl | rfl | rfl | rfl
      · exact e0
      · exact e1
      · exact e2
      · exact e3
      · exact e4) hA
    exact ⟨t, va_Zof (hts (.laysStatic "FerryCrews" "FIRST_SETTINGS" "[I") (List.mem_of_getElem? (i := 61) (by decide +kernel))) (hB _ wi_X7) h1 hA, h2⟩
  have s_HIGHEST_SETTINGS : zSt1 G "HIGHEST_SETTINGS" zT2 s s.heap := by
    have ha : (Cond.arrayOf (Term.static "FerryCrews" "HIGHEST_SETTINGS" "[I") .int).before #[Value.ref b] s = true := hs _ (by decide +kernel)
    have hlen := va_eqt (t := .length (Term.static "FerryCrews" "HIGHEST_SETTINGS" "[I")) (z := 5) (hs _ (by decide +kernel))
    have e0 := va_eqt (t := .elem (Term.static "FerryCrews" "HIGHEST_SETTINGS" "[I") (.int 0)) (z := 20) (hs _ (by decide +kernel))
    have e1 := va_eqt (t := .elem (Term.static "FerryCrews" "HIGHEST_SETTINGS" "[I") (.int 1)) (z := 12) (hs _ (by decide +kernel))
    have e2 := va_eqt (t := .elem (Term.static "FerryCrews" "HIGHEST_SETTINGS" "[I") (.int 2)) (z := 140) (hs _ (by decide +kernel))
    have e3 := va_eqt (t := .elem (Term.static "FerryCrews" "HIGHEST_SETTINGS" "[I") (.int 3)) (z := 1) (hs _ (by decide +kernel))
    have e4 := va_eqt (t := .elem (Term.static "FerryCrews" "HIGHEST_SETTINGS" "[I") (.int 4)) (z := 100) (hs _ (by decide +kernel))
    obtain ⟨t, h1, h2⟩ := va_Tof (N := 5) (f := fun j => .int (zT2 j)) (A := zA G) (by decide) ha hlen (fun j hj => by
      rcases (show j = 0 ∨ j = 1 ∨ j = 2 ∨ j = 3 ∨ j = 4 by omega) with rfl | rfl | rfl | rfl | rfl
      · exact e0
      · exact e1
      · exact e2
      · exact e3
      · exact e4) hA
    exact ⟨t, va_Zof (hts (.laysStatic "FerryCrews" "HIGHEST_SETTINGS" "[I") (List.mem_of_getElem? (i := 644) (by decide +kernel))) (hB _ wi_X7) h1 hA, h2⟩
  have hK : va_K G.1 zcl (ztys G.2.1) s := by
    refine ⟨hG1, fun k q hq => ?_⟩
    obtain ⟨g0, g1, g2, g3, g4, g5⟩ := hG2
    match k, hq with
    | 0, hq => cases hq; rw [g0]; exact ⟨fun N z => ⟨fun k h => (by cases h), ka0, ob0, cm0, oc0⟩, oa0⟩
    | 1, hq => cases hq; rw [g1]; exact ⟨fun N z => ⟨fun k h => (by cases h), ka1, ob1, cm1, oc1⟩, oa1⟩
    | 2, hq => cases hq; rw [g2]; exact ⟨fun N z => ⟨fun k h => (by cases h), ka2, ob2, cm2, oc2⟩, ka2, cm2, ob2, oc2, oa2, od2⟩
    | 3, hq => cases hq; rw [g3]; exact ⟨fun N z => ⟨fun k h => (by cases h), ka3, ob3, cm3, oc3⟩, ka3, cm3, ob3, oc3, oa3, od3⟩
    | 4, hq => cases hq; rw [g4]; exact ⟨fun N z => ⟨fun k h => (by cases h), ka4, ob4, cm4, oc4⟩, ka4, cm4, ob4, oc4, oa4, od4⟩
    | 5, hq => cases hq; rw [g5]; exact ⟨fun N z => ⟨fun k h => (by cases h), ka5, ob5, cm5, oc5⟩, ka5, cm5, ob5, oc5, oa5, od5⟩
    | k + 6, hq => simp [ztys] at hq
  have Z : zF p s m #[Value.ref b] c meth cL_law 10 RL G := ⟨hx, hb, hml, hown, hB, hlocks, hK, ⟨s_FIRST_SETTINGS, s_HIGHEST_SETTINGS⟩, fun w hw hn => va_Nw.of (zNest_on hn) (hts w hw), ⟨va_AO.of ao2, va_AO.of ao3, va_AO.of ao4, va_AO.of ao5⟩⟩
  have E : zE G s (s.heap.size, fun _ => none) s.heap [] := ⟨⟨rfl, by rw [hG3]; exact Nat.le_refl _, fun a e h => by cases h⟩, va_S.rf⟩
  obtain ⟨o, hf⟩ := whole_pure L xs hL s.heap.size
  have hl := lv_entry ([.ref b]) (n := 10) (Nat.le_of_ble_eq_true rfl)
  rw [lg_entry_eq]
  generalize (lg_sl ([.ref b]) ++ List.replicate (10 - (lg_sl ([.ref b])).length) Slot.unset).toArray = ls at hl ⊢
  have hl : lv_has ls 10 [(0, .ref b)] := hl
  exact t_L Z hr ⟨⟨hX, hbl, hA b hbl⟩, hG3⟩ hf E hl (by decide) (by decide)
-- ===== YOUR PART ENDS =====
set_option maxHeartbeats 4000000 in
theorem lw_walk (l : Launch) (hflags : l.flags = flags0) (b : Addr) (xs : List Int32) : MetFree l x (headSpec (Jvm.Cond.code x code maxLocals ret :: tables_1) room_1) (lw_P b xs) (fun _ _ _ _ _ => True) lw_Q := by
  refine MetFree.of_bodyS (code := code) (maxLocals := maxLocals) (ret := ret) (by decide) ?_ ?_
  · intro args s m h hn
    obtain ⟨meth, c, h1, h2, h3, h4, h5, h6, -, -⟩ := Cond.code_spec hn (atoms_spec (ws := Jvm.Cond.code x code maxLocals ret :: tables_1) h _ List.mem_cons_self)
    exact ⟨meth, c, h1, h2, h3, h4, h5, h6⟩
  · intro p e s m args below meth c s₁ B hml0 hP _
    obtain ⟨rfl, hx, hbd, hgv⟩ := hP
    obtain ⟨scr, harrAt, hlist, hof, hsmall⟩ := hx
    obtain ⟨hcb, hkn, -, -⟩ := State.arrayAt?_spec harrAt
    have hown : s.vm.findClass R_law = some m.cls := findClass_of_methodNamed B.named
    have hts0 : ∀ c ∈ (Jvm.Cond.code x code maxLocals ret :: tables_1), c.before #[Value.ref b] s = true := atoms_spec (ws := Jvm.Cond.code x code maxLocals ret :: tables_1) B.pre
    have hts : ∀ w ∈ lw_tbl, w.before #[Value.ref b] s = true := k2_hts_sels lw_privs (fun w hw => hts0 w (List.mem_cons_of_mem _ hw)) lw_privs_ok
    have hml : c.maxLocals = 10 := B.maxLocals_eq (hts0 _ List.mem_cons_self)
    have X₀ : Stand p l e room_1 s m #[Value.ref b] below meth c s₁ [] 0 0 := Stand.of_body B
    have hh0 : s₁.heap = s.heap := by rw [B.state]; rfl
    have hsz : scr.slots.size = xs.length := by rw [← Array.length_toList, hlist, List.length_map]
    have hval : ∀ j : Nat, j < xs.length → scr.slots[j]? = some (.int (xs.getD j 0)) := fun j hj => by
      rw [← Array.getElem?_toList, hlist]
      simp [hj]
    have hbl : b < s.heap.size := (Array.getElem?_eq_some_iff.mp hcb).1
    have hX : va_X b xs.length (fun j => xs.getD j 0) s s.heap := ⟨scr, hcb, hof, hkn, hsz, hval⟩
    have K : W p l e room_1 s m #[Value.ref b] below meth c s₁.heap [] 0 0 (lw_Z below #[Value.ref b] s) (entryFrame m ([Value.ref b] : List Value).toArray 10) := by
      rw [hh0]
      exact whole_start l hflags hbd ⟨B.exec, B.bytes, B.returns, hml, hown, hts, hX, hbl, B.notSynchronized, hgv⟩
    obtain ⟨t, a1, o, b1, b2, b3⟩ := K s₁ rfl X₀
    exact ⟨t, o, a1, b1, b2, b3⟩
theorem lw_pre_spec {args : Array Value} {s : State} (h : (Jvm.Cond.and given_1 narrow_1).before args s = true) (hr : rest_1_c.before args s = true) : ∃ (b : Addr) (xs : List Int32), lw_P b xs args s := by
  have hs := flat_of_before _ h
  have hq := flat_of_before _ hr
  have hc : (Cond.count 1).before args s = true := hs _ (by decide +kernel)
  have harr : (Cond.arrayOf (.arg 0) .int).before args s = true := hs _ (by decide +kernel)
  have hle : (Cond.le (.length (.arg 0)) (.int 260)).before args s = true := hs _ (by decide +kernel)
  have hlen : (Cond.isInt (.length (.arg 0))).before args s = true := hq _ (by decide +kernel)
  have hall : (Cond.all (.arg 0) (.isInt (.elem (.arg 0) (.index 0)))).before args s = true := hq _ (by decide +kernel)
  obtain ⟨b, xs, hb, hx⟩ := State.ints_of_pre rfl harr hlen hall
  have hsm : xs.length < 2 ^ 31 := hx.choose_spec.2.2.2
  have hev : (Term.length (.arg 0)).eval args s none [] s = some (.int xs.length.toInt32) := hx.length_eval hb
  have hv := Cond.le_ints hev (show (Term.int 260).eval args s none [] s = some (.int 260) from rfl)
  have hd : xs.length.toInt32 ≤ 260 := by
    simpa [Cond.before, Cond.holds, hv] using hle
  have hN : xs.length ≤ 260 := (Int32.ofNat_le_ofNat hsm (by decide)).mp (show Int32.ofNat xs.length ≤ Int32.ofNat 260 from hd)
  exact ⟨b, xs, Cond.one_arg hc (show args[0]? = some (.ref b) from hb), hx, hN, h⟩
theorem lw_comes (l : Launch) (hflags : l.flags = flags0) : Comes l x (Jvm.Cond.code x code maxLocals ret :: tables_1) room_1 (fun tb e args s => Calls_1 tb e args s ∧ rest_1 tb e args s ∧ Pre_1 tb e args s)
    (fun _ _ args s o t => lw_Q args s o t) := by
  intro p e ha hc hk s m args below hf hfit hheap happ hpre
  obtain ⟨b, xs, hP⟩ := lw_pre_spec hpre.2.2 hpre.2.1
  obtain ⟨k, o, h1, h2, h3, hQ⟩ := lw_walk l hflags b xs p e ha hc hk s m args below hf ((Spec.applies_iff_loose hf).mp happ).1 hP trivial
  exact ⟨k, o, h1, h2, h3, hQ⟩
theorem lw_frame {s t : State} {o : Outcome} {args : Array Value} (h : Framed s o t [] 600000 7302250) :
    Framed s o t (fieldLocs frame_1_writes args s ++ arrayLocs frame_1_arrays args s ++ staticLocs frame_1_statics s) 600000 7302250 := h
theorem lw_limb (L : Cond) (hL : ∀ (args : Array Value) (s t : State), L.after args s (.returned (some (.int 1))) t = true) :
    ArmFor flags0 classFile x code maxLocals ret World_1 tables_1 room_1 Calls_1 rest_1 Pre_1
      (fun tb e a s o t => postC L tb e a s o t ∧ Framed s o t (fieldLocs frame_1_writes a s ++ arrayLocs frame_1_arrays a s ++ staticLocs frame_1_statics s) 600000 7302250) := by
  intro l hflags _ _ p e ha hc hk s m args below hf hfit hheap happ hpre
  obtain ⟨k, o, h1, h2, h3, rfl, hF⟩ := lw_comes l hflags p e ha hc hk s m args below hf hfit hheap happ hpre
  exact ⟨k, _, h1, h2, h3, hL args s _, lw_frame hF⟩
theorem i_vc : Claimed_1_1 ∧ Claimed_1_2 := ⟨lw_limb limb_1_1 (fun args s t => by simp [limb_1_1, Cond.after, Cond.holds, Cond.value]), lw_limb limb_1_2 (fun args s t => Cond.after_iff.mpr (by
  first | (rw [show limb_1_2 = Cond.eq .result (.int 1) from rfl, Cond.eq_ints (x := 1) (y := 1) rfl rfl]; simp; done) | (simp [limb_1_2, Cond.value, Term.eval]; done)))⟩
