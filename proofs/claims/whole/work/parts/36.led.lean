/-- the exception that was thrown and caught: a cell that nobody knows -/
def uX (h : Hp) : Hp := (hN h + 1, hS h, ((hB h).1 - 1, (hB h).2 - 6), hI h, hL h, hR h)
noncomputable def f_Law_led2 (v0 : Nat) (v1 : Int32) (v2 : Nat) (h : Hp) : Option (Int32 × Hp) := match f_Law_led v0 v1 v2 h with
  | some q => some q
  | none => gd (hS h v0 = some (.inl 0)) (bd (f_B_ledX v0 v1 h) fun _ h1 => gd (1 ≤ (hB h1).1 ∧ 6 ≤ (hB h1).2) (some (1, uX h1)))
theorem rd_err {α β : Type} {x : Reader DecodeError α} {f : α → Reader DecodeError β} {b : ByteArray} {p : Nat} {er : DecodeError} (hx : x.runAt b p = .error er) : (x >>= f).runAt b p = .error er := by
  have hx' : (ReaderT.run x b).run p = .error er := hx
  show (ReaderT.run (x >>= f) b).run p = .error er
  rw [ReaderT.run_bind, StateT.run_bind, hx']
  rfl
theorem decode_out {b : ByteArray} {pc : Nat} (h : b.size ≤ pc) (q : Instr × Nat) : decode b pc ≠ .ok q := by
  intro hd
  have hu : (Reader.u1 : Reader DecodeError Nat).runAt b pc = .error (HasTruncated.truncated pc) := by
    show (dite (pc < b.size) _ _ : Reader DecodeError Nat) b pc = _
    rw [dif_neg (Nat.not_lt.mpr h)]
    rfl
  have hi : (Decoder.instr pc).runAt b pc = .error (HasTruncated.truncated pc) := by
    unfold Decoder.instr
    exact rd_err hu
  unfold decode at hd
  rw [hi] at hd
  cases hd
theorem ledX_size : (mB M_B_ledX).size = 56 := by decide +kernel
theorem ledX_dec : ∀ pc, pc < 56 → decode (mB M_B_ledX) pc = .ok (.new 372, 3) → pc = 45 := by decide +kernel
theorem ledX_pc {pc : Nat} (h : decode (mB M_B_ledX) pc = .ok (.new 372, 3)) : pc = 45 := by
  rcases Nat.lt_or_ge pc 56 with q | q
  · exact ledX_dec pc q h
  · exact absurd h (decode_out (by rw [ledX_size]; exact q) _)
theorem ledX_45 : decode (mB M_B_led) 45 = .ok (.new 372, 3) := by decide +kernel
theorem ledX_48 : decode (mB M_B_led) 48 = .ok (.dup, 1) := by decide +kernel
theorem ledX_49 : decode (mB M_B_led) 49 = .ok (.ldc_w 374, 3) := by decide +kernel
theorem ledX_52 : decode (mB M_B_led) 52 = .ok (.invokespecial 376, 3) := by decide +kernel
theorem ledX_55 : decode (mB M_B_led) 55 = .ok (.athrow, 1) := by decide +kernel
theorem lx_372 : Lk (.classLink "BrassYear" 372 nNSE) := ⟨by decide +kernel, rfl⟩
theorem lx_ins : Lk (.instantiable nNSE 6) := ⟨by decide +kernel, rfl⟩
theorem lx_ini : Lk (.initialized nNSE) := ⟨by decide +kernel, rfl⟩
theorem Rf.uX {G : GG} {h : Hp} {H V : Heap} {ce : Cell} (hR : Rf G h H) (z : V.size = H.size + 1) (oq : ∀ q : Nat, q < H.size → V[q]? = H[q]?) (hc : V[H.size]? = some ce) (hvm : ce.vm = .none) : Rf G (uX h) V := by
  have hR0 := hR
  obtain ⟨r1, r2, r3, r4, r5⟩ := hR
  refine ⟨by show hN h + 1 = _; rw [r1, z], by omega, fun q hq => ⟨by rw [oq q (by omega)]; exact (r3 q hq).1, (r3 q hq).2⟩, fun q => ?_, fun q cell hq hcell => ?_⟩
  · by_cases hl : q < H.size
    · exact (r4 q).same rfl ⟨fun _ => rfl, fun _ => rfl, fun _ => rfl⟩ (oq q hl)
    · unfold cellOK
      rw [show hS (_root_.Jvm.Pilot.CBrassYearLaw_law_r2248_b69b05.uX h) q = hS h q from rfl]
      cases hq : hS h q with
      | none => trivial
      | some y => exact absurd (hR0.lt hq) hl
  · by_cases hl : q < H.size
    · rw [oq q hl] at hcell
      exact r5 q cell hq hcell
    · have hl2 := (Array.getElem?_eq_some_iff.mp hcell).1
      have e : q = H.size := by omega
      rw [e, hc] at hcell
      cases hcell
      rw [hvm]
      rfl
/-- what led has done when it throws -/
def QX (G : GG) (h1 : Hp) (mc ms : Nat) (st : State) (o : Outcome) (t : State) : Prop := ∃ (a : Addr) (ce : Cell), o = .threw a ∧ Rf G (uX h1) t.heap ∧ va_F (gF G) st t ∧ t.heap[a]? = some ce ∧ ce.vm = .none ∧ st.vm.findClass nNSE = some ce.cls ∧ st.WarmedH t.vm ∧ ∃ L : List Loc, st.sameButNew ({ t with vm := st.vm } : State) L mc ms ∧ ∀ q ∈ L, gF G q.base
set_option maxHeartbeats 4000000 in
theorem met_ledX {G : GG} {h h1 : Hp} {x : Nat} {v : Int32} (hF : f_B_ledX x v h = some ((), h1)) {mc ms : Nat} (hmc : mc = (hB h).1 - (hB h1).1 + 1) (hms : ms = (hB h).2 - (hB h1).2 + 6) (l : Launch) (lf : l.flags = flags0) :
    MetFree l (mY M_B_led) (headSpec [.code (mY M_B_led) (mB M_B_led) (mL M_B_led) (mR M_B_led)] { frames := 10, cells := mc, slots := ms, locals := 1000 }) (va_Pc [.ref x, .int v] (fun U => Rf G h U.heap ∧ KG G U)) (fun _ _ _ _ _ => True) (fun _ st o t => QX G h1 mc ms st o t) := by
  obtain ⟨hb, kk⟩ := tt_B_ledX (G := G) x v h () h1 hF
  refine MetFree.of_bodySF (code := mB M_B_led) (maxLocals := mL M_B_led) (ret := mR M_B_led) (by decide +kernel) ?_ ?_
  · intro args s m hq hn
    obtain ⟨meth, c, g1, g2, g3, g4, g5, g6, -, -⟩ := Cond.code_spec hn (atoms_spec (ws := [.code (mY M_B_led) (mB M_B_led) (mL M_B_led) (mR M_B_led)]) hq _ List.mem_cons_self)
    exact ⟨meth, c, g1, g2, g3, g4, g5, g6⟩
  · intro p e s m args below meth c s₁ B hml hv _
    obtain ⟨rfl, hRf, hK⟩ := hv
    have hh0 : s₁.heap = s.heap := by rw [B.state]; rfl
    have X0 := Stand.of_body B
    have hlocks := B.notSynchronized
    have hcode := (atoms_spec (ws := [.code (mY M_B_led) (mB M_B_led) (mL M_B_led) (mR M_B_led)]) B.pre) _ List.mem_cons_self
    obtain ⟨meth', c', gm, gc, -, -, -, -, gE, -⟩ := Cond.code_spec B.named hcode
    have hcc : c' = c := by
      cases gm.symm.trans X0.method
      exact Option.some.inj (gc.symm.trans X0.code)
    subst hcc
    have htab : c'.exceptionTable.toList = [] := List.eq_nil_of_length_eq_zero (by simpa [Array.isEmpty] using gE)
    have hroomR := X0.room
    have hl := lv_entry [Value.ref x, Value.int v] (n := mL M_B_led) (by show 2 ≤ mL M_B_led; decide)
    have key : W p l e { frames := 10, cells := (hB h).1 - (hB h1).1, slots := (hB h).2 - (hB h1).2, locals := 1000 } s m [Value.ref x, Value.int v].toArray below meth c' s.heap [] 0 0 (fun t => ∃ o, t.status = .running ∧ Ended t below o ∧ QX G h1 mc ms s o t) (entryFrame m [Value.ref x, Value.int v].toArray (mL M_B_led)) := by
      rw [lg_entry_eq]
      refine kk p l e _ s m _ below meth c' s.heap [] 0 0 _ _ ⟨B.exec, B.bytes, hml, findClass_of_methodNamed B.named, (name_of_methodNamed B.named B.method).1, hK, by show 2 ≤ 10; decide, by show 100 * 2 ≤ 1000; decide, hRf.2.1⟩ lf (Nat.zero_add _) (Nat.zero_add _) hRf va_S.rf hl ?_
      intro H' locs' pc' ls' hz ho hR' hS' hd
      have hpc : pc' = 45 := ledX_pc hd
      subst hpc
      intro U hU X'
      have X : Stand p l e { frames := 10, cells := mc, slots := ms, locals := 1000 } s m [Value.ref x, Value.int v].toArray below meth c' U locs' ((hB h).1 - (hB h1).1) ((hB h).2 - (hB h1).2) := ⟨X'.admits, X'.cas, X'.clock, X'.frames, hroomR, X'.hears, X'.method, X'.code, X'.here, X'.tail, X'.warmed, X'.limits, X'.bytes, X'.same⟩
      obtain ⟨cC, kC0, hfc, -⟩ := Cond.instantiable_spec (hK.1 _ lx_ins.1 lx_ins.2 [Value.ref x, Value.int v].toArray)
      have hown : s.vm.findClass "BrassYear" = some m.cls := findClass_of_methodNamed B.named
      have hB1 : c'.code = mB M_B_led := B.bytes
      have hzs := hK.2.2.2.2.2.1 0 _ rfl
      have hwd := th_at hK (fun a ha => (hRf.2.2.1 a ha).1) [Value.ref x, Value.int v].toArray
      have w2 : W p l e { frames := 10, cells := mc, slots := ms, locals := 1000 } s m [Value.ref x, Value.int v].toArray below meth c' H' locs' ((hB h).1 - (hB h1).1) ((hB h).2 - (hB h1).2) (fun t => ∃ o, t.status = .running ∧ Ended t below o ∧ QX G h1 mc ms s o t) (F0 m 45 ls' []) := by
        refine W.newcK B.exec hB1 hown (hK.1 _ lx_372.1 lx_372.2 _) (hK.1 _ lx_ins.1 lx_ins.2 _) (hK.1 _ lx_ini.1 lx_ini.2 _) rfl ledX_45 (by show _ ≤ mc; omega) (by show _ ≤ ms; omega) hfc rfl fun H1 kC hkC e1 z1 o1 => ?_
        refine W.eq (g2 := F0 m 48 ls' [.ref H'.size]) rfl ?_
        refine lv_dup B.exec hB1 ledX_48 rfl ?_
        refine W.eq (g2 := F0 m 49 ls' [.ref H'.size, .ref H'.size]) rfl ?_
        have w3 : W p l e { frames := 10, cells := mc, slots := ms, locals := 1000 } s m [Value.ref x, Value.int v].toArray below meth c' H1 locs' ((hB h).1 - (hB h1).1 + 1) ((hB h).2 - (hB h1).2 + 6) (fun t => ∃ o, t.status = .running ∧ Ended t below o ∧ QX G h1 mc ms s o t) (F0 m 52 ls' [.ref (gT G 0), .ref H'.size, .ref H'.size]) := by
          intro V0 hV X3
          obtain ⟨V, st, hrun, hended, hwarm, hsame, ce, hce, hcls, hvm⟩ := nse_throw X3 B.exec (Launch.traces_off lf X3.admits) hown hwd.1 hwd.2.1 hwd.2.2 (fun y hy cell hc => hRf.2.2.2.2 y.base cell (hS'.2.2 y hy) hc) (a := H'.size) hfc hkC (by rw [hV]; exact e1) hS'.1 (msg := .ref (gT G 0)) rfl (g := F0 m 52 ls' [.ref (gT G 0), .ref H'.size, .ref H'.size]) rfl (by rw [hml]; exact hz) rfl rfl rfl rfl (by rw [hB1]; exact ledX_52) (by rw [hB1]; exact ledX_55) (by rw [htab]; intro y hy; cases hy) (by show 6 < 10; decide) (by show 90 ≤ 1000; decide) hlocks
          have hlt : H'.size < H1.size := by omega
          have oq : ∀ q : Nat, q < H'.size → V.heap[q]? = H'[q]? := fun q hq => by
            rw [hce, Array.getElem?_setIfInBounds_ne (by omega), hV]
            exact o1 q hq
          have hat : V.heap[H'.size]? = some ce := by
            rw [hce, hV]
            simp [Array.getElem?_setIfInBounds, hlt]
          have hsz : V.heap.size = H'.size + 1 := by rw [hce, hV]; simp [z1]
          refine ⟨V, st, .threw H'.size, hrun, hended, H'.size, ce, rfl, hR'.uX hsz oq hat hvm, ⟨Nat.le_trans hS'.1 (by omega), fun q g1 g2 => ?_⟩, hat, hvm, by rw [hcls]; exact hfc, hwarm, locs', ?_, hS'.2.2⟩
          · rw [oq q (Nat.lt_of_lt_of_le g1 hS'.1)]
            exact hS'.2.1 q g1 g2
          · rw [hmc, hms]
            exact hsame
        intro V0 hV X3
        obtain ⟨t, a1, b1⟩ := w3 V0 hV X3
        exact ⟨t, X3.ldcStringW B.exec hown (text := "no such feast is on now") (a := gT G 0) hzs.1 hzs.2 (g := F0 m 49 ls' [.ref H'.size, .ref H'.size]) rfl (by rw [hB1]; exact ledX_49) t a1, b1⟩
      exact w2 U hU X
    have X0' : Stand p l e { frames := 10, cells := (hB h).1 - (hB h1).1, slots := (hB h).2 - (hB h1).2, locals := 1000 } s m [Value.ref x, Value.int v].toArray below meth c' s₁ [] 0 0 := by
      refine ⟨X0.admits, X0.cas, X0.clock, X0.frames, ?_, X0.hears, X0.method, X0.code, X0.here, X0.tail, X0.warmed, X0.limits, X0.bytes, X0.same⟩
      have q := hroomR
      simp only [State.hasRoom, Bool.and_eq_true, decide_eq_true_eq] at q ⊢
      have q1 : (headSpec [Cond.code (mY M_B_led) (mB M_B_led) (mL M_B_led) (mR M_B_led)] { frames := 10, cells := mc, slots := ms, locals := 1000 }).room.cells = mc := rfl
      have q2 : (headSpec [Cond.code (mY M_B_led) (mB M_B_led) (mL M_B_led) (mR M_B_led)] { frames := 10, cells := mc, slots := ms, locals := 1000 }).room.slots = ms := rfl
      rw [q1, q2] at q
      refine ⟨⟨⟨?_, ?_⟩, ?_⟩, ?_⟩ <;> first | exact q.1.1.1 | exact q.1.1.2 | exact q.1.2 | exact q.2 | omega
    obtain ⟨t, a1, o, b1, b2, b3⟩ := key s₁ hh0 X0'
    exact ⟨t, o, a1, b1, b2, b3⟩
def wLed : Cond := .codeWith (mY M_Law_led) (mB M_Law_led) (mL M_Law_led) (mR M_Law_led) [(0, 9, 12, 13)]
theorem lk_led : Lk wLed := ⟨by decide +kernel, rfl⟩
theorem lk_Law_led : Lk (.methodLink "BrassYearLaw" 208 (mY M_Law_led)) := ⟨by decide +kernel, rfl⟩
theorem lk_L7 : Lk (.methodLink "BrassYearLaw" 7 (mY M_B_led)) := ⟨by decide +kernel, rfl⟩
theorem lk_led2 : Lk (.static (mY M_Law_led)) := ⟨by decide +kernel, rfl⟩
theorem lk_led3 : Lk (.initialized "BrassYearLaw") := ⟨by decide +kernel, rfl⟩
theorem lk_led4 : Lk (.classLink "BrassYearLaw" 13 nNSE) := ⟨by decide +kernel, rfl⟩
theorem led_0 : decode (mB M_Law_led) 0 = .ok (.aload_n 2, 1) := by decide +kernel
theorem led_1 : decode (mB M_Law_led) 1 = .ok (.iconst 0, 1) := by decide +kernel
theorem led_2 : decode (mB M_Law_led) 2 = .ok (.aload_n 0, 1) := by decide +kernel
theorem led_3 : decode (mB M_Law_led) 3 = .ok (.iload_n 1, 1) := by decide +kernel
theorem led_4 : decode (mB M_Law_led) 4 = .ok (.invokevirtual 7, 3) := by decide +kernel
theorem led_12 : decode (mB M_Law_led) 12 = .ok (.astore_n 3, 1) := by decide +kernel
theorem led_13 : decode (mB M_Law_led) 13 = .ok (.iconst 1, 1) := by decide +kernel
theorem led_14 : decode (mB M_Law_led) 14 = .ok (.ireturn, 1) := by decide +kernel
set_option maxHeartbeats 4000000 in
/-- the walk of the law's led where BrassYear.led throws -/
theorem led_thrown {G : GG} {h h1 : Hp} {x o : Nat} {v : Int32} (hx0 : hS h x = some (.inl 0)) (hF : f_B_ledX x v h = some ((), h1)) {p : Program} {l : Launch} {e : Env} {R : Room} {s : State} {m : MethodId} {args : Array Value} {below : List Frame} {meth : Method} {c : Code} {ls : Array Slot} {Q : State → Prop} {mc ms : Nat}
    (lf : l.flags = flags0) (hmc : mc = (hB h).1 - (hB h1).1 + 1) (hms : ms = (hB h).2 - (hB h1).2 + 6) (hexec : p.tables.exec = Jvm.exec) (hcode : c.code = mB M_Law_led) (hml : c.maxLocals = mL M_Law_led) (hown : s.vm.findClass "BrassYearLaw" = some m.cls) (hK : KG G s) (hRf : Rf G h s.heap)
    (hRfr : 11 ≤ R.frames) (hRlo : 1100 ≤ R.locals) (hRc : mc ≤ R.cells) (hRs : ms ≤ R.slots) (hz : ls.size = mL M_Law_led) {xe : ExceptionTableEntry} (htab : c.exceptionTable.toList = [xe]) (hxe : xe.startPc = 0 ∧ xe.endPc = 9 ∧ xe.handlerPc = 12 ∧ xe.catchType = 13)
    (kk : ∀ (V : Heap) (L : List Loc) (a : Nat), Rf G (uX h1) V → va_S (gF G) s.heap V L → W p l e R s m args below meth c V L mc ms Q (F0 m 12 ls [.ref a])) :
    W p l e R s m args below meth c s.heap [] 0 0 Q (F0 m 4 ls [.int v, .ref x, .int 0, .ref o]) := by
  intro U hU X
  obtain ⟨cell, q1, q2, q3, -⟩ := hRf.obj hx0 (q := ("BrassYear", TF0, 16)) rfl
  obtain ⟨-, hfcB, -⟩ := hK.2.2.1 0 ("BrassYear", TF0, 16) rfl
  have hinst := hK.1 _ lv_B_led_.1.1 lv_B_led_.1.2 args
  have hsel := hK.1 _ lv_B_led_.2.1 lv_B_led_.2.2 args
  have hcd := hK.1 _ lc_B_led.1.1 lc_B_led.1.2 args
  obtain ⟨mk, methM, hnamed, hmethM, hstM, habM⟩ := Cond.instanceMethod_spec hinst
  obtain ⟨methM', cM, hmethM', hcM, -, hlM, -, -, -, hsigM⟩ := Cond.code_spec hnamed hcd
  cases hmethM.symm.trans hmethM'
  obtain ⟨c2, r2, m2, w1, w2, w3, w4, kP, hkP, hkPi⟩ := Cond.selects_spec hsel
  have hcl : s.vm.findClass "BrassYear" = some cell.cls := by rw [q2]; exact hfcB
  cases hcl.symm.trans w1
  cases (State.methodFound?_of_named hnamed (by decide +kernel)).symm.trans w2
  cases hnamed.symm.trans w3
  have hselP : selectMethod e.platform s.vm cell.cls mk = .method mk := by rw [Launch.admits_selectMethod X.admits]; exact w4
  have hlk : (Cond.methodLink "BrassYearLaw" 7 (mY M_B_led)).before args s = true := by
    exact hK.1 _ lk_L7.1 lk_L7.2 args
  obtain ⟨vm₁, X₁, hstep₁⟩ := X.invokevirtual hexec hown hlk hnamed hmethM hstM hkP hkPi (by decide +kernel) (a := x) (cell := cell) (by rw [hU]; exact q1)
    (fun z hh => by rw [q3] at hh; cases hh) hselP hmethM habM hkP hkPi (g := F0 m 4 ls [.int v, .ref x, .int 0, .ref o]) rfl (argsL := [.int v]) (rest := [.int 0, .ref o]) (by
      have q : parseMethodDescriptor (mY M_B_led).desc = some methM.sig := hsigM
      have q2 : (parseMethodDescriptor (mY M_B_led).desc).map (fun d => d.parameters.length) = some 1 := lc_B_led.2.2.2.1
      rw [q] at q2
      exact (Option.some.inj q2).symm) rfl (by rw [hcode]; exact led_4)
  have hn := X₁.named hnamed
  obtain ⟨kY, hkY, -⟩ := className_of_methodNamed hn
  have hini1 : (Cond.initialized (mY M_B_led).cls).before #[Value.ref x, Value.int v] (U.setVm vm₁) = true := word_at X₁.warmed (good_of_word lc_B_led.2.1.2) (hK.1 _ lc_B_led.2.1.1 lc_B_led.2.1.2 args)
  have hinitY : kY.init = .initialized := Cond.initialized_spec (findClass_of_methodNamed hn) hkY hini1
  have hcd1 : (Cond.code (mY M_B_led) (mB M_B_led) (mL M_B_led) (mR M_B_led)).before #[Value.ref x, Value.int v] (U.setVm vm₁) = true := word_at X₁.warmed (good_of_word lc_B_led.1.2) hcd
  obtain ⟨methY, cY, hmY, hcY, -, hlY, -⟩ := Cond.code_spec hn hcd1
  have hAt : At (U.setVm vm₁) (F0 m 4 ls [Value.int 0, Value.ref o]).method c below := X₁.here
  have happ : (headSpec [Cond.code (mY M_B_led) (mB M_B_led) (mL M_B_led) (mR M_B_led)] { frames := 10, cells := mc, slots := ms, locals := 1000 }).appliesLoose (mY M_B_led) e.platform ((U.setVm vm₁).calling (F0 m 4 ls [.int 0, .ref o]) mk #[Value.ref x, Value.int v]) = true := by
    refine Spec.appliesLoose_calling (g := F0 m 4 ls [.int 0, .ref o]) hAt (by rw [hcode]; exact led_4) hn hkY hinitY (X₁.room_calling (g := F0 m 4 ls [.int 0, .ref o]) (R' := { frames := 10, cells := mc, slots := ms, locals := 1000 }) (by rw [hml]; exact hz) hmY hcY (by show 10 + 1 ≤ _; omega) ?_ (by show 0 + mc ≤ _; omega) (by show 0 + ms ≤ _; omega)) (atoms_intro fun w hw => by rw [List.mem_singleton.mp hw]; exact hcd1)
    rw [hlY]
    show 2 * 0 + (1 + (1 + 0)) + (4 + 11) + 1000 ≤ R.locals
    omega
  obtain ⟨mid, hmid⟩ := hAt.above
  have hfr : ((U.setVm vm₁).setTop (F0 m 4 ls [.int 0, .ref o])).frames = (.java (F0 m 4 ls [.int 0, .ref o]) :: mid) ++ below := by rw [State.frames_setTop' _ hAt.top, hmid]; rfl
  obtain ⟨o', s₂, hsteps, -, hend, hq⟩ := Steps.callFree (met_ledX (G := G) hF hmc hms l lf) p X.admits X.cas X.clock (acts := []) hfr happ ⟨rfl, by show Rf G h U.heap; rw [hU]; exact hRf, KG.same (s := U.setVm vm₁) rfl (hK.warm X₁.warmed)⟩ trivial
  have hq' : QX G h1 mc ms ((U.setVm vm₁).calling (F0 m 4 ls [.int 0, .ref o]) mk #[Value.ref x, Value.int v]) o' s₂ := hq
  obtain ⟨a, ce, rfl, hRt, hFr, hce, hvm, hfc, hW₂, L, hsame, hL⟩ := hq'
  rw [State.frames_setTop' _ hAt.top] at hend
  have hend2 : s₂.frames = .throwing a :: .java (F0 m 4 ls [.int 0, .ref o]) :: (U.setVm vm₁).frames.tail := hend
  obtain ⟨e2, z2, z3, z4, z5, z6⟩ := id hsame
  have e3 : s₂ = ({ ((U.setVm vm₁).calling (F0 m 4 ls [.int 0, .ref o]) mk #[Value.ref x, Value.int v]).setFrames s₂.frames with heap := s₂.heap, slotsUsed := s₂.slotsUsed } : State).setVm s₂.vm := by
    have q : s₂ = ({ s₂ with vm := ((U.setVm vm₁).calling (F0 m 4 ls [.int 0, .ref o]) mk #[Value.ref x, Value.int v]).vm } : State).setVm s₂.vm := rfl
    rw [e2] at q
    exact q
  have hW' : (U.setVm vm₁).WarmedH s₂.vm := hW₂
  obtain ⟨g₀, hg0⟩ := Option.isSome_iff_exists.mp hAt.top
  obtain ⟨r, hr⟩ := State.topJava?_eq_some.mp hg0
  have hsame1 : (U.setVm vm₁).sameButNew ({ (U.setVm vm₁) with heap := s₂.heap, slotsUsed := s₂.slotsUsed } : State) L mc ms := by
    refine ⟨?_, z2, z3, z4, z5, z6⟩
    obtain ⟨t, ht, -⟩ := State.frames_cons hr
    show ({ (U.setVm vm₁) with heap := s₂.heap, slotsUsed := s₂.slotsUsed } : State) = { (U.setVm vm₁).setFrames (U.setVm vm₁).frames with heap := s₂.heap, slotsUsed := s₂.slotsUsed }
    rw [State.setFrames_self ht]
  have XV0 : Stand p l e R s m args below meth c (({ (U.setVm vm₁) with heap := s₂.heap, slotsUsed := s₂.slotsUsed } : State).setVm s₂.vm) ([] ++ L) (0 + mc) (0 + ms) :=
    ⟨X₁.admits, X₁.cas, X₁.clock, X₁.frames, X₁.room, X₁.hears, X₁.method, X₁.code, (X₁.here.setHeapUsed s₂.heap s₂.slotsUsed).setVm hW'.alike, X₁.tail, State.WarmedH.trans X₁.warmed hW', X₁.limits, X₁.bytes, X₁.same.trans (hsame1.setVm s.vm)⟩
  have XV : Stand p l e R s m args below meth c (({ (U.setVm vm₁) with heap := s₂.heap, slotsUsed := s₂.slotsUsed } : State).setVm s₂.vm) L mc ms := by
    rw [List.nil_append, Nat.zero_add, Nat.zero_add] at XV0
    exact XV0
  have hs₂ : s₂ = ((({ (U.setVm vm₁) with heap := s₂.heap, slotsUsed := s₂.slotsUsed } : State).setVm s₂.vm).setTop (F0 m 4 ls [.int 0, .ref o])).pushFrame (.throwing a) := by
    have hr' : (({ (U.setVm vm₁) with heap := s₂.heap, slotsUsed := s₂.slotsUsed } : State).setVm s₂.vm).frames = .java g₀ :: r := hr
    refine e3.trans ?_
    rw [hend2, State.calling_eq hAt.top, State.setFrames_setFrames, State.pushFrame, State.frames_setTop' _ XV.here.top, State.setTop_of_frames _ hr', State.setFrames_setFrames, hr', hr]
    rfl
  have hcT : s.vm.findClass nNSE = some ce.cls := by
    have q : (U.setVm vm₁).vm.findClass nNSE = some ce.cls := hfc
    rw [X₁.warmed.alike.findClass] at q
    exact q
  obtain ⟨vm', X4, hc4⟩ := nse_catch XV hown (hK.1 _ lk_led4.1 lk_led4.2 args) htab hxe.2.2.2 (a := a) (g := F0 m 4 ls [.int 0, .ref o]) rfl (by simp [covers, hxe.1, hxe.2.1]) hcT hce rfl hvm
  have hh0 : ((U.setVm vm₁).calling (F0 m 4 ls [.int 0, .ref o]) mk #[Value.ref x, Value.int v]).heap = s.heap := hU
  obtain ⟨hF1, hF2⟩ := hFr
  rw [hh0] at hF1 hF2
  obtain ⟨t, a1, b1⟩ := kk s₂.heap L a hRt ⟨hF1, fun q g1 g2 => hF2 q g1 g2, hL⟩ _ (by exact rfl) X4
  refine ⟨t, hstep₁ _ (fun acts => ?_), b1⟩
  rw [doInvoke_state]
  refine hsteps.trans ?_
  rw [hs₂]
  refine hc4 _ ?_
  rw [hxe.2.2.1]
  exact a1
theorem met_led {G : GG} {h h' : Hp} {x o : Nat} {v r : Int32} (hF : f_Law_led2 x v o h = some (r, h')) : ((hB h').1 ≤ (hB h).1 ∧ (hB h').2 ≤ (hB h).2) ∧ ∀ l : Launch, l.flags = flags0 →
    Met l (mY M_Law_led) [wLed] { frames := 12, cells := (hB h).1 - (hB h').1, slots := (hB h).2 - (hB h').2, locals := 1200 } (va_Pc [.ref x, .int v, .ref o] (fun U => Rf G h U.heap ∧ KG G U))
      (fun _ st out t => out = .returned (cI r) ∧ Rf G h' t.heap ∧ va_F (gF G) st t) ((hB h).1 - (hB h').1) ((hB h).2 - (hB h').2) (gF G) := by
  unfold f_Law_led2 at hF
  cases hq : f_Law_led x v o h with
  | some q =>
    rw [hq] at hF
    cases hF
    obtain ⟨hb, kk⟩ := tt_Law_led (G := G) x v o h r h' hq
    refine ⟨hb, fun l lf => ?_⟩
    refine va_MetW (cc := mB M_Law_led) (maxL := mL M_Law_led) (ret := mR M_Law_led) (hh := [(0, 9, 12, 13)]) (by decide +kernel) rfl ?_
    intro p e s m args below meth c s₁ B hml hv
    obtain ⟨rfl, hRf, hK⟩ := hv
    have hl := lv_entry [Value.ref x, Value.int v, Value.ref o] (n := mL M_Law_led) (by show 3 ≤ mL M_Law_led; decide)
    rw [lg_entry_eq]
    refine kk p l e _ s m _ below meth c s.heap [] 0 0 _ _ ⟨B.exec, B.bytes, hml, findClass_of_methodNamed B.named, (name_of_methodNamed B.named B.method).1, hK, by show _ ≤ 12; decide, by show _ ≤ 1200; decide, hRf.2.1⟩ lf (by rw [Nat.zero_add]; rfl) (by rw [Nat.zero_add]; rfl) hRf va_S.rf hl ?_
    intro H' locs' pc' ls' hz ho hR' hS' hd
    exact Rt.i (M := M_Law_led) rfl rfl r ho B.exec B.bytes B.returns B.notSynchronized (fun t ht hW => ⟨rfl, by rw [ht]; exact hR', hS'.F ht⟩) hS'.2.2 hd
  | none =>
    rw [hq] at hF
    obtain ⟨hx0, hF⟩ := gd_some hF
    obtain ⟨u, h1, hF1, hF2⟩ := bd_some hF
    obtain ⟨hroom, hF2⟩ := gd_some hF2
    cases hF2
    cases u
    have hb := (tt_B_ledX (G := G) x v h () h1 hF1).1
    have g1 : (hB (uX h1)).1 = (hB h1).1 - 1 := rfl
    have g2 : (hB (uX h1)).2 = (hB h1).2 - 6 := rfl
    rw [g1, g2]
    refine ⟨⟨by omega, by omega⟩, fun l lf => ?_⟩
    refine va_MetW (cc := mB M_Law_led) (maxL := mL M_Law_led) (ret := mR M_Law_led) (hh := [(0, 9, 12, 13)]) (by decide +kernel) rfl ?_
    intro p e s m args below meth c s₁ B hml hv
    obtain ⟨rfl, hRf, hK⟩ := hv
    have hl := lv_entry [Value.ref x, Value.int v, Value.ref o] (n := mL M_Law_led) (by show 3 ≤ mL M_Law_led; decide)
    rw [lg_entry_eq]
    generalize (lg_sl ([Value.ref x, Value.int v, Value.ref o]) ++ List.replicate (mL M_Law_led - (lg_sl ([Value.ref x, Value.int v, Value.ref o])).length) Slot.unset).toArray = ls at hl ⊢
    have hl : lv_has ls (mL M_Law_led) [(0, .ref x), (1, .int v), (2, .ref o)] := hl
    have hcw := (atoms_spec (ws := [wLed]) B.pre) _ List.mem_cons_self
    obtain ⟨m9, meth9, c9, n1, n2, n3, -, -, n4, -, -, -⟩ := Cond.codeWith_spec hcw
    cases B.named.symm.trans n1
    cases (B.method).symm.trans n2
    have hcc : c9 = c := Option.some.inj (n3.symm.trans (Stand.of_body B).code)
    subst hcc
    obtain ⟨xe, htab, hxe⟩ : ∃ xe : ExceptionTableEntry, c9.exceptionTable.toList = [xe] ∧ (xe.startPc = 0 ∧ xe.endPc = 9 ∧ xe.handlerPc = 12 ∧ xe.catchType = 13) := by
      cases hL : c9.exceptionTable.toList with
      | nil => rw [hL] at n4; cases n4
      | cons y ys =>
        rw [hL] at n4
        cases ys with
        | nil => simp at n4; exact ⟨y, rfl, n4⟩
        | cons z zs => simp at n4
    refine lv_aload_n B.exec B.bytes led_0 rfl (lv_at hl 2 rfl) ?_
    refine lv_iconst (v := 0) B.exec B.bytes led_1 (by decide) ?_
    refine lv_aload_n B.exec B.bytes led_2 rfl (lv_at hl 0 rfl) ?_
    refine lv_iload_n B.exec B.bytes led_3 rfl (lv_at hl 1 rfl) ?_
    refine led_thrown hx0 hF1 (mc := (hB h).1 - ((hB h1).1 - 1)) (ms := (hB h).2 - ((hB h1).2 - 6)) lf (by omega) (by omega) B.exec B.bytes hml (findClass_of_methodNamed B.named) hK hRf (by show 11 ≤ 12; decide) (by show 1100 ≤ 1200; decide) (Nat.le_refl _) (Nat.le_refl _) hl.1 htab hxe ?_
    intro V L a hR' hS'
    refine lv_astore_n B.exec B.bytes led_12 rfl hl (by decide) rfl (fun ls1 hl1 => ?_)
    refine lv_iconst (v := 1) B.exec B.bytes led_13 (by decide) ?_
    exact W.iret B.exec B.bytes B.returns (fun t ht hW => ⟨rfl, by rw [ht]; exact hR', hS'.F ht⟩) hS'.2.2 led_14 B.notSynchronized
theorem r_led {G : GG} {d : Nat} {α : Type} {cv : α → Option Value} {pc i x o : Nat} {v : Int32} {ls : List (Nat × Value)} {h : Hp} {K : Int32 → Hp → Option (α × Hp)} (hd : decode (mB M_Law_law) pc = .ok (.invokestatic i, 3)) (hlk : Lk (.methodLink "BrassYearLaw" i (mY M_Law_led))) (hdd : Nat.ble 13 d = true) (kk : ∀ r h1, T G M_Law_law d cv (pc + 3) ls (.int r :: []) h1 (K r h1)) : T G M_Law_law d cv pc ls (.ref o :: .int v :: .ref x :: []) h (bd (f_Law_led2 x v o h) K) := by
  have hdd := Nat.le_of_ble_eq_true hdd
  intro r h' hF
  obtain ⟨rc, h1, hFc, hK⟩ := bd_some hF
  obtain ⟨hb1, hmet⟩ := met_led (G := G) hFc
  obtain ⟨hb2, k2⟩ := kk rc h1 r h' hK
  refine ⟨⟨Nat.le_trans hb2.1 hb1.1, Nat.le_trans hb2.2 hb1.2⟩, fun p l e R s m args below meth c H locs cells slots Q ls0 C lf q1 q2 hR hSv hl hret => ?_⟩
  intro X0 hT X
  have hd1 := C.2.2.2.2.2.2.1
  have hd2 := C.2.2.2.2.2.2.2.1
  have hcw := C.lk lk_led args
  have hini := C.lk lk_led3 args
  have hBk : Back l R p e below s args (mY M_Law_led) 3 8 (PreOf R ((hB h).1 - (hB h1).1) ((hB h).2 - (hB h1).2) (va_Pc [.ref x, .int v, .ref o] (fun U => Rf G h U.heap ∧ KG G U))) (PostOf (fun _ st out t => out = .returned (cI rc) ∧ Rf G h1 t.heap ∧ va_F (gF G) st t) ((hB h).1 - (hB h1).1) ((hB h).2 - (hB h1).2) (gF G)) :=
    va_backW (hh := [(0, 9, 12, 13)]) (bytes := mB M_Law_led) (maxL := mL M_Law_led) (ret := mR M_Law_led) (hmet l lf) Pm_blind rfl rfl (by show 12 + 1 ≤ _; omega) (by show 8 + (mL M_Law_led + 11) + 1200 ≤ _; have q : mL M_Law_led = 4 := rfl; omega)
      (fun w hw a' U hW => by rw [List.mem_singleton.mp hw]; exact word_at hW (good_of_word lk_led.2) hcw) (List.mem_singleton.mpr rfl) (fun a' U hW => word_at hW (good_of_word lk_led3.2) hini)
  obtain ⟨mk, methM, cM, hnamed, hmethM, -, -, -, -, -, -, hsigM⟩ := Cond.codeWith_spec hcw
  have hstatic : methM.isStatic = true := Cond.static_spec hnamed hmethM (C.lk lk_led2 args)
  obtain ⟨kP, hkP, -⟩ := className_of_methodNamed hnamed
  have hinitP : kP.init = .initialized := Cond.initialized_spec (findClass_of_methodNamed hnamed) hkP hini
  obtain ⟨vm₁, X₁, hstep₁⟩ := X.invokestatic C.1 C.2.2.2.1 (C.lk hlk args) hnamed hmethM hstatic hkP hinitP (by decide +kernel) (g := F0 m pc ls0 [.ref o, .int v, .ref x]) rfl (argsL := [.ref x, .int v, .ref o]) (rest := []) (by
      have q2 : (parseMethodDescriptor (mY M_Law_led).desc).map (fun d => d.parameters.length) = some 3 := by decide +kernel
      rw [hsigM] at q2
      exact (Option.some.inj q2).symm) rfl (by rw [C.2.1]; exact hd)
  obtain ⟨vv, Bp, X', ⟨g', mk', t, L, e1, e2, ⟨hv, hRt, hz, hkq⟩, p1, hL, p2, p3⟩, hsteps⟩ := hBk m meth c ⟨X0.setVm vm₁, locs, cells, slots⟩ (F0 m pc ls0 []) (.invokestatic i) mk [.ref x, .int v, .ref o].toArray X₁ rfl (by rw [C.2.2.1]; exact hl.1) (by rw [C.2.1]; exact hd) (by show 2 * 0 + 0 ≤ 8; decide) (X₁.named hnamed) ⟨by show cells + _ ≤ _; omega, by show slots + _ ≤ _; omega, rfl, by show Rf G h X0.heap; rw [hT]; exact hR, C.2.2.2.2.2.1.warm X₁.warmed⟩
  cases hv
  obtain ⟨U', l2, c2, s2⟩ := Bp
  dsimp only [Pt.U, Pt.locs, Pt.cells, Pt.slots] at X' e1 e2 p1 p2 p3 hsteps
  subst p1; subst p2; subst p3
  have hh0 : ((X0.setVm vm₁).calling g' mk' [Value.ref x, Value.int v, Value.ref o].toArray).heap = H := hT
  rw [hh0] at hz hkq
  obtain ⟨t2, a1, b1⟩ := k2 p l e R s m args below meth c U'.heap (locs ++ L) (cells + ((hB h).1 - (hB h1).1)) (slots + ((hB h).2 - (hB h1).2)) Q ls0 C lf (by omega) (by omega) (by rw [e1]; exact hRt)
    ⟨Nat.le_trans hSv.1 (by rw [e1]; exact hz), fun q g1 g2 => by rw [e1, hkq q (Nat.lt_of_lt_of_le g1 hSv.1) g2]; exact hSv.2.1 q g1 g2, fun q hq => (List.mem_append.mp hq).elim (hSv.2.2 q) (hL q)⟩ hl hret U' rfl X'
  exact ⟨t2, hstep₁ _ fun acts => by rw [doInvoke_state]; exact hsteps.trans a1, b1⟩
