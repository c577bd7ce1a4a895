/-! throw new NoSuchElementException("..") in a launch without stack traces, and its catch in the caller -/
abbrev nNSE : String := "java/util/NoSuchElementException"
abbrev nRTE : String := "java/lang/RuntimeException"
def thB : List Cond := [.methodLink "BrassYear" 376 (Bundle.initS nNSE), .instantiable nNSE 6, .selects nNSE Bundle.tFill0 Bundle.tFill0, .selects nNSE Bundle.tFill Bundle.tFill,
  .lays nNSE Bundle.tN "cause" "Ljava/lang/Throwable;", .lays nNSE Bundle.tN "stackTrace" Bundle.steD, .lays nNSE Bundle.tN "suppressedExceptions" Bundle.listD, .lays nNSE Bundle.tN "detailMessage" "Ljava/lang/String;",
  .fieldLink Bundle.tN 198 Bundle.tN "backtrace" "Ljava/lang/Object;", .lays Bundle.tN Bundle.tN "backtrace" "Ljava/lang/Object;", .lays nNSE Bundle.tN "backtrace" "Ljava/lang/Object;"]
def thP : List Cond := Bundle.passSAtoms nNSE nRTE 13 prog_29_method_4_code
def thA : List Cond := Bundle.throwableAtoms ++ (Bundle.throwableSAtoms ++ (thP ++ (Bundle.chainSAtoms nRTE ["java/lang/Exception"] ++ thB)))
def thG (w : Cond) : Bool := goodWord w || match w with
  | .declares _ => true
  | .laysStatic _ _ _ => true
  | _ => false
theorem thA_in : ∀ w ∈ thA, w ∈ lw_tbl := by decide +kernel
theorem thA_ok : ∀ w ∈ thA, thG w = true := by decide +kernel
theorem ls_move {C n d : String} {args a0 : Array Value} {U0 s : State} (hW : U0.WarmedH s.vm) (hold : ∀ (a : Nat) (cell : Cell), U0.heap[a]? = some cell → s.heap[a]? = some cell) (h : (Cond.laysStatic C n d).before args U0 = true) : (Cond.laysStatic C n d).before a0 s = true := by
  obtain ⟨c, k, i, f, a, cell, h1, h2, h3, h4, h5, h6, h7, h8, h9⟩ := Cond.laysStatic_spec h
  obtain ⟨k', h2', he⟩ := State.fieldFound?_setVm hW.alike h2
  have g1 : s.vm.findClass C = some c := by rw [hW.alike.findClass]; exact h1
  have g2 : s.fieldFound? C n d = some (c, k', i, f) := h2'
  have g3 : k'.statics = some a := by rw [he]; exact h4
  have g4 : k'.staticTypes[f.slot]? = some f.type := by rw [he]; exact h9
  simp [Cond.before, Cond.holds, Cond.value, g1, g2, g3, hold a cell h5, h3, h6, h7, h8, g4]
theorem ir_of {C n d : String} {a0 : Array Value} {A : Nat → Prop} {s : State} (h : va_Zq C n d A s s.heap) : (Cond.isRef (.static C n d)).before a0 s = true := by
  rcases h with h | ⟨t, h⟩
  · obtain ⟨cf, kf, fi, f, a, cell, h1, h2, h3, h4, h5, h6, h7, h8⟩ := h
    simp [Cond.before, Cond.holds, Cond.value, Term.eval, State.fieldNamed?, h1, h2, h4, h5, h6, h7, Value.isRef]
  · obtain ⟨cf, kf, fi, f, a, cell, h1, h2, h3, h4, h5, h6, h7, h8⟩ := h
    simp [Cond.before, Cond.holds, Cond.value, Term.eval, State.fieldNamed?, h1, h2, h4, h5, h6, h7, Value.isRef]
theorem th_us : Cond.isRef (.static Bundle.tN "UNASSIGNED_STACK" Bundle.steD) ∈ flatC (Jvm.Cond.and given_1 narrow_1) := by decide +kernel
theorem th_ss : Cond.isRef (.static Bundle.tN "SUPPRESSED_SENTINEL" Bundle.listD) ∈ flatC (Jvm.Cond.and given_1 narrow_1) := by decide +kernel
theorem th_us2 : Cond.laysStatic Bundle.tN "UNASSIGNED_STACK" Bundle.steD ∈ lw_tbl := by decide +kernel
theorem th_ss2 : Cond.laysStatic Bundle.tN "SUPPRESSED_SENTINEL" Bundle.listD ∈ lw_tbl := by decide +kernel
theorem th_in : Cond.initialized Bundle.tN ∈ lw_tbl := by decide +kernel
theorem th_at {G : GG} {s : State} (hK : KG G s) (hold : ∀ a : Nat, a < (gH G).size → s.heap[a]? = (gH G)[a]?) (args : Array Value) : (∀ w ∈ thA, w.before args s = true) ∧ (Cond.isRef (.static Bundle.tN "UNASSIGNED_STACK" Bundle.steD)).before args s = true ∧ (Cond.isRef (.static Bundle.tN "SUPPRESSED_SENTINEL" Bundle.listD)).before args s = true := by
  obtain ⟨U0, a0, hW, hH, hgv, h0⟩ := hK.2.2.2.2.2.2.2.2.2.2
  have hold2 : ∀ (a : Nat) (cell : Cell), U0.heap[a]? = some cell → s.heap[a]? = some cell := fun a cell h => by
    rw [hold a (by rw [← hH]; exact (Array.getElem?_eq_some_iff.mp h).1), ← hH]
    exact h
  have hA : ∀ a : Nat, a < U0.heap.size → ¬ (fun _ : Nat => False) a := fun _ _ h => h
  have hfl := flat_of_before _ hgv
  refine ⟨fun w hw => ?_, ?_, ?_⟩
  · have hin := thA_in w hw
    have hok := thA_ok w hw
    unfold thG at hok
    rcases Bool.or_eq_true _ _ ▸ hok with hg | hm
    · exact hK.1 w hin hg args
    · cases w <;> first
        | exact va_Nw.use rfl (va_Nw.warmD hW (va_Nw.of rfl (h0 _ hin)))
        | exact ls_move hW hold2 (h0 _ hin)
        | (cases hm; done)
  · exact ir_of (((va_Zqof (h0 _ th_us2) (h0 _ th_in) (hfl _ th_us) hA).moved hW.alike).kept (fun a ha _ => by rw [hH] at ha ⊢; exact hold a ha))
  · exact ir_of (((va_Zqof (h0 _ th_ss2) (h0 _ th_in) (hfl _ th_ss) hA).moved hW.alike).kept (fun a ha _ => by rw [hH] at ha ⊢; exact hold a ha))
theorem nse_0 : decode prog_29_method_4_code 0 = .ok (.aload_n 0, 1) := by decide +kernel
theorem nse_1 : decode prog_29_method_4_code 1 = .ok (.aload_n 1, 1) := by decide +kernel
theorem nse_2 : decode prog_29_method_4_code 2 = .ok (.invokespecial 13, 3) := by decide +kernel
theorem nse_5 : decode prog_29_method_4_code 5 = .ok (.return_, 1) := by decide +kernel
section ZT
variable {p : Program} {l : Launch} {e : Env} {R : Room} {s : State} {m : MethodId} {args : Array Value} {below : List Frame} {meth : Method} {c : Code} {U : State} {locs : List Loc} {cells slots : Nat}
set_option maxHeartbeats 4000000 in
theorem nse_throw (X : Stand p l e R s m args below meth c U locs cells slots) (hexec : p.tables.exec = Jvm.exec) (htr : e.platform.stackTraces = false) (hown : s.vm.findClass "BrassYear" = some m.cls) (h : ∀ w ∈ thA, w.before args s = true)
    (hus : (Cond.isRef (.static Bundle.tN "UNASSIGNED_STACK" Bundle.steD)).before args s = true) (hss : (Cond.isRef (.static Bundle.tN "SUPPRESSED_SENTINEL" Bundle.listD)).before args s = true)
    (hlocs : ∀ x ∈ locs, ∀ cell, s.heap[x.base]? = some cell → cell.vm.isStatics = false) {a : Addr} {cX : ClassId} {kX : Class} (hfX : s.vm.findClass nNSE = some cX) (hkX : s.vm.classes[cX]? = some kX) (hcell : U.heap[a]? = some (freshCell cX kX)) (hnew : s.heap.size ≤ a)
    {msg : Value} (hmsg : msg.isRef = true) {g : JFrame} (hg : g.method = m) (hsize : g.locals.size = c.maxLocals) (hmon : g.monitorRoom = 0) (hlocked : g.locked = none) (hentered : g.entered = []) (hstack : g.stack = [msg, .ref a, .ref a])
    (hd6 : decode c.code g.pc = .ok (.invokespecial 376, 3)) (hd9 : decode c.code (g.pc + 3) = .ok (.athrow, 1)) (hout : ∀ x ∈ c.exceptionTable.toList, covers x (g.pc + 3) = false) (hF : 6 < R.frames) (hLo : 90 ≤ R.locals) (hlocks : meth.locks = false) :
    ∃ V : State, Steps p.tables e below (U.setTop g) V ∧ V.status = .running ∧ Ended V below (.threw a) ∧ s.WarmedH V.vm ∧ s.sameButNew ({ V with vm := s.vm } : State) locs cells slots ∧ ∃ ce : Cell, V.heap = U.heap.setIfInBounds a ce ∧ ce.cls = cX ∧ ce.vm = .none := by
  have howns : e.platform.frameOwnsMonitors = true := by rw [X.admits.platform]
  have hfin : e.platform.finalization = false := by rw [X.admits.platform]
  have hpl : e.platform.magicAccessors = ({} : Platform).magicAccessors := by rw [X.admits.platform]
  have i1 : ∀ w ∈ Bundle.throwableAtoms, w.before args s = true := fun w hw => h w (List.mem_append_left _ hw)
  have i2 : ∀ w ∈ Bundle.throwableSAtoms, w.before args s = true := fun w hw => h w (List.mem_append_right _ (List.mem_append_left _ hw))
  have i3 : ∀ w ∈ thP, w.before args s = true := fun w hw => h w (List.mem_append_right _ (List.mem_append_right _ (List.mem_append_left _ hw)))
  have i4 : ∀ w ∈ Bundle.chainSAtoms nRTE ["java/lang/Exception"], w.before args s = true := fun w hw => h w (List.mem_append_right _ (List.mem_append_right _ (List.mem_append_right _ (List.mem_append_left _ hw))))
  have i5 : ∀ w ∈ thB, w.before args s = true := fun w hw => h w (List.mem_append_right _ (List.mem_append_right _ (List.mem_append_right _ (List.mem_append_right _ hw))))
  obtain ⟨T, Z0, L, -, Y⟩ := ThrowableC.of_atoms (args := args) howns hfin hpl i1
  obtain ⟨Z, Mm, LZ, LM, hnZ⟩ := Init0T.ofS_atoms (args := args) hpl L Y i2
  obtain ⟨P2, Ps, hlen, L2, hL, hP2, hk2, hkl⟩ := Bundle.chainS (args := args) hpl hnZ ["java/lang/Exception"] nRTE (by decide +kernel) (by decide +kernel) i4
  obtain ⟨P1, L1, hP1, hS1⟩ := PassC.ofS_atoms (args := args) (s := s) hpl (X := nNSE) (Y := nRTE) (by decide +kernel) ⟨by decide +kernel, by decide +kernel⟩ nse_0 nse_1 nse_2 nse_5 i3
  have e12 : P1.sup = P2.m := Option.some.inj (hS1.symm.trans hP2)
  have hcls : s.vm.findClass nNSE = some P1.m.cls := findClass_of_methodNamed hP1
  cases Option.some.inj (hfX.symm.trans hcls)
  obtain ⟨c1, kX', hc1, hk, hord, -, -, hn6⟩ := Cond.instantiable_spec (i5 (.instantiable nNSE 6) (by decide +kernel))
  cases Option.some.inj (hc1.symm.trans hcls)
  cases Option.some.inj (hkX.symm.trans hk)
  have hsel0 : selectMethod e.platform s.vm P1.m.cls T.fill0 = .method T.fill0 := by
    obtain ⟨c2, r2, m2, q1, q2, q3, q4, -⟩ := Cond.selects_spec (i5 (.selects nNSE Bundle.tFill0 Bundle.tFill0) (by decide +kernel))
    cases Option.some.inj (q1.symm.trans hcls)
    cases Option.some.inj (q2.symm.trans (State.methodFound?_of_named Y.fill0 (by decide)))
    cases Option.some.inj (q3.symm.trans Y.fill0)
    rw [Launch.admits_selectMethod X.admits]
    exact q4
  have hselF : selectMethod e.platform s.vm P1.m.cls T.fill = .method T.fill := by
    obtain ⟨c2, r2, m2, q1, q2, q3, q4, -⟩ := Cond.selects_spec (i5 (.selects nNSE Bundle.tFill Bundle.tFill) (by decide +kernel))
    cases Option.some.inj (q1.symm.trans hcls)
    cases Option.some.inj (q2.symm.trans (State.methodFound?_of_named Y.fill (by decide)))
    cases Option.some.inj (q3.symm.trans Y.fill)
    rw [Launch.admits_selectMethod X.admits]
    exact q4
  obtain ⟨cS0, hcS0, hiss⟩ := Y.statics
  obtain ⟨u0, hu0⟩ := Cond.staticRefV Y.unassigned L.unassignedStatic L.statics hcS0 hiss hus
  obtain ⟨sen, hsen⟩ := Cond.staticRefV Y.sentinel L.sentinelStatic L.statics hcS0 hiss hss
  obtain ⟨ci, i, fB, hb1, hb2, hb3, hb4, -, hb5, hb6, hb7⟩ := Cond.ownField (t := .object "java/lang/Object") Y.found L.cls (by decide +kernel) (i5 (.fieldLink Bundle.tN 198 Bundle.tN "backtrace" "Ljava/lang/Object;") (by decide +kernel)) (i5 (.lays Bundle.tN Bundle.tN "backtrace" "Ljava/lang/Object;") (by decide +kernel)) e.platform hpl
  obtain ⟨cS, hcS', heS, -, hkeep⟩ := X.same.2.2.2.2.2 T.aS cS0 hcS0
  have hcS : U.heap[T.aS]? = some cS := hcS'
  have hnotin : ∀ j, (⟨T.aS, j⟩ : Loc) ∉ locs := fun j hmem => by
    have q := hlocs _ hmem cS0 hcS0
    rw [hiss] at q
    cases q
  have hknown : cS.vm ≠ .unknown := by
    rw [heS]
    intro q
    rw [show cS0.vm = .unknown from q] at hiss
    cases hiss
  have hne : T.aS ≠ a := Nat.ne_of_lt (Nat.lt_of_lt_of_le (Array.getElem?_eq_some_iff.mp hcS0).1 hnew)
  obtain ⟨iM, hffM⟩ := Y.msg
  obtain ⟨tyC, dC, hdC, hnC⟩ := Cond.laysAt hcls hk Y.cause (i5 (.lays nNSE Bundle.tN "cause" "Ljava/lang/Throwable;") (by decide +kernel))
  obtain ⟨tyS, dS, hdS, hnS⟩ := Cond.laysAt hcls hk Y.stack (i5 (.lays nNSE Bundle.tN "stackTrace" Bundle.steD) (by decide +kernel))
  obtain ⟨tyP, dP, hdP, hnP⟩ := Cond.laysAt hcls hk Y.supp (i5 (.lays nNSE Bundle.tN "suppressedExceptions" Bundle.listD) (by decide +kernel))
  obtain ⟨tyM, dM, hdM, hnM⟩ := Cond.laysAt hcls hk hffM (i5 (.lays nNSE Bundle.tN "detailMessage" "Ljava/lang/String;") (by decide +kernel))
  obtain ⟨tyB, dB, hdB, hnB⟩ := Cond.laysAt hcls hk hb7 (i5 (.lays nNSE Bundle.tN "backtrace" "Ljava/lang/Object;") (by decide +kernel))
  have bC := Cond.laysApart hdB hdC hnB hnC (by rw [hb5, Y.causeName]; decide)
  have bS := Cond.laysApart hdB hdS hnB hnS (by rw [hb5, Y.stackName]; decide)
  have bP := Cond.laysApart hdB hdP hnB hnP (by rw [hb5, Y.suppName]; decide)
  have hskip : SkipFacts T e.platform s (fun u => u) u0 ((preparedCellV T.toThrowableT (freshCell P1.m.cls kX) a u0 sen).withEntry U.cur) := by
    refine ⟨{ ci198 := ci, i198 := i, fBack := fB }, ⟨hb1, hb2, hb3, hb4⟩, ?_, fun _ _ => rfl⟩
    have q := fresh_default (c := P1.m.cls) tyB
    rw [hb6] at q
    simpa [preparedCellV, Cell.setSlot, Cell.withEntry, Array.getElem?_setIfInBounds, bC, bS, bP, bC.symm, bS.symm, bP.symm, defaultValue] using q
  obtain ⟨tm, mC, cdC, kC, vm₁, hnm, -, -, -, -, -, -, -, hW₁, st1⟩ := Steps.initColdS (tb := p.tables) (e := e) (below := below) (s := s) (U := U) X.here hexec X.warmed hpl hown (t := Bundle.initS nNSE) rfl rfl ⟨by decide +kernel, by decide +kernel⟩
    (i5 (.methodLink "BrassYear" 376 (Bundle.initS nNSE)) (by decide +kernel)) (i3 (.instanceMethod (Bundle.initS nNSE)) (by decide +kernel)) (bytes := prog_29_method_4_code) (maxL := 2) (i3 (.code (Bundle.initS nNSE) prog_29_method_4_code 2 none) (by decide +kernel))
    (f := g) hg (a := a) (msg := msg) (rest := [.ref a]) hstack hd6
  cases Option.some.inj (hnm.symm.trans hP1)
  have X₁ := X.noted hW₁
  have hlen1 : Ps.length = 1 := hlen
  obtain ⟨vm₂, X₂, st2⟩ := X₁.ctorMessageOffV hexec (g := { g with stack := [.ref a] }) hg hsize T L Z LZ Mm LM (P1 :: P2 :: Ps)
    (fun P hP => by
      rcases List.mem_cons.mp hP with rfl | hP
      · exact L1
      · rcases List.mem_cons.mp hP with rfl | hP
        · exact L2
        · exact hL P hP) ⟨e12, hk2, hkl⟩ (u0 := u0) (sen := sen) (self := a) hmsg (cell := freshCell P1.m.cls kX) (cellS := cS)
    hcell (fun _ => by simp) (by simp) rfl rfl hsel0 hselF hcS hne hknown (by rw [hkeep _ (hnotin _)]; exact hu0) (by rw [hkeep _ (hnotin _)]; exact hsen)
    (Takes.of_laid hk hord tyC (by rw [Y.causeType]; rfl)) (Takes.of_laid hk hord tyS (by rw [Y.stackType]; exact fits_refV_array _ u0)) (Takes.of_laid hk hord tyP (by rw [Y.suppType]; exact fits_refV_object _ sen))
    (Takes.of_laid hk hord tyM (by rw [Y.msgType]; exact fits_refV_object _ ⟨msg, hmsg⟩)) Y.objLocals hskip htr [] hd6
    (by simp only [List.length_cons, hlen1]; omega) (by simp only [List.length_cons, hlen1, hmon, List.map_cons, List.map_nil, List.sum_cons, List.sum_nil]; show 2 * 0 + (1 + 0) + (13 * (1 + 1 + 1) + 42) ≤ R.locals; omega)
  obtain ⟨hwalk, hrun, hended, hWU, hsame⟩ := X₂.athrowLeaves hexec (g := { g with stack := [.ref a], pc := g.pc + 3 }) hg hlocked hentered hout (a := a) (rest := []) rfl hd9 hlocks
  refine ⟨_, st1 _ (fun acts => ?_), hrun, hended, hWU, hsame.weaken (fun y hy hlt => ?_) (Nat.le_refl _) (Nat.le_refl _), plainBareV T.toThrowableT (freshCell P1.m.cls kX) a u0 sen msg, rfl, rfl, rfl⟩
  · rw [doInvoke_state]
    exact st2 _ hwalk
  · rcases List.mem_append.mp hy with q | q
    · exact q
    · exfalso
      have hb : y.base = a := by
        simp only [List.mem_cons, List.not_mem_nil, or_false] at q
        rcases q with rfl | rfl | rfl | rfl | rfl <;> rfl
      rw [hb] at hlt
      exact Nat.not_lt.mpr hnew hlt
/-- caught by the method's one handler, whose class may be unresolved still -/
theorem nse_catch (X : Stand p l e R s m args below meth c U locs cells slots) (hown : s.vm.findClass "BrassYearLaw" = some m.cls) (hlink : (Cond.classLink "BrassYearLaw" 13 nNSE).before args s = true) {x : ExceptionTableEntry} (htab : c.exceptionTable.toList = [x]) (h13 : x.catchType = 13) {a : Addr} {g : JFrame} (hg : g.method = m) (hx : covers x g.pc = true)
    {cT : ClassId} {ce : Cell} (hcT : s.vm.findClass nNSE = some cT) (hce : U.heap[a]? = some ce) (hcls : ce.cls = cT) (hvm : ce.vm = .none) :
    ∃ vm' : Vm, Stand p l e R s m args below meth c (U.setVm vm') locs cells slots ∧ ∀ target, Steps p.tables e below ((U.setVm vm').setTop { g with pc := x.handlerPc, stack := [.ref a] }) target → Steps p.tables e below ((U.setTop g).pushFrame (.throwing a)) target := by
  have hpl : e.platform.magicAccessors = ({} : Platform).magicAccessors := by rw [X.admits.platform]
  obtain ⟨c', hc', hcl⟩ := Cond.classLink_spec hown hlink e.platform hpl
  cases hcT.symm.trans hc'
  subst hg
  obtain ⟨hg₁, hwarm₁, -⟩ := State.classEntry (e := e) X.warmed hcl
  have hsz : (U.vm.noted g.method.cls 13 (.cls cT)).classes.size ≤ U.vm.classes.size := by first | no_record | simp [Vm.noted]
  generalize hv : U.vm.noted g.method.cls 13 (.cls cT) = vm' at hg₁ hwarm₁ hsz
  refine ⟨vm', X.noted hwarm₁, fun target hrest => ?_⟩
  obtain ⟨dk, _, _, kt, _, _, _, _, _, hkt, _, _⟩ := hcl.here
  obtain ⟨kt', hkt', -⟩ := hwarm₁.alike.2.2 _ _ hkt
  obtain ⟨ha, ht⟩ := hg₁.op (op := VmOp.resolveClass g.method.cls 13) rfl
  have hfind : ∀ (Q : Handler → Pre) (E : CtlPost) (d : Bool) (acts : List Action), wp (findHandler g a) Q E e d acts ((U.setTop g).pushFrame (.throwing a)) ↔ Q (.found x.handlerPc) d acts (((U.setTop g).pushFrame (.throwing a)).setVm vm') := by
    intro Q E d acts
    rw [W.findHandler_eq (meth := meth) (code := c) (by rw [Stand.throwing_vm]; exact X.method') X.code, htab]
    simp only [covers] at hx
    have e1 : ((U.setTop g).pushFrame (.throwing a)).vm = U.vm := Stand.throwing_vm U g a
    have e2 : ((U.setTop g).pushFrame (.throwing a)).heap = U.heap := Stand.throwing_heap U g a
    have hasg : vm'.assignable cT cT = true := va_asg _ _
    have hsz2 : vm'.classes.size ≤ ((U.setTop g).pushFrame (.throwing a)).vm.classes.size := by rw [e1]; exact hsz
    simp [findHandler.go, hx, h13, hsz2, hsz, e1, e2, ha, ht, hce, hvm, hcls, hkt', hasg, VmOp.dirties, VmOp.acts]
  have hstep : (stepThrowing e ((U.setTop g).pushFrame (.throwing a)) a (.java g :: U.frames.tail)).Is ((((U.setTop g).pushFrame (.throwing a)).setVm vm').setFrames (.java { g with pc := x.handlerPc, stack := [.ref a] } :: U.frames.tail)) [] := by
    simp only [stepThrowing, searchFrame, vmDo]
    generalize hr : Sem.go _ e false [] _ = res
    obtain ⟨as, rfl, hq⟩ := Sem.eq_ok_of hr (a := Handler.found x.handlerPc) (s' := ((U.setTop g).pushFrame (.throwing a)).setVm vm') (acts' := []) (by simp [hfind _ _ _ _])
    exact ⟨rfl, hq⟩
  obtain ⟨hgo, hw⟩ := X.here.throwing (g := g) a
  refine Steps.head hgo hw ?_
  rw [stepThread_throwing (frames_entered X.here.top _), hstep.1]
  obtain ⟨g₀, hg0⟩ := Option.isSome_iff_exists.mp X.here.top
  obtain ⟨r, hr⟩ := State.topJava?_eq_some.mp hg0
  have hr' : (U.setVm vm').frames = .java g₀ :: r := hr
  rw [State.setTop_of_frames _ hr'] at hrest
  have e3 : (((U.setTop g).pushFrame (.throwing a)).setVm vm').setFrames (.java { g with pc := x.handlerPc, stack := [.ref a] } :: U.frames.tail) = (U.setVm vm').setFrames (.java { g with pc := x.handlerPc, stack := [.ref a] } :: r) := by
    rw [hr, List.tail_cons, State.pushFrame, State.setTop_of_frames _ hr]
    show (((U.setVm vm').setFrames _).setFrames _).setFrames _ = _
    rw [State.setFrames_setFrames, State.setFrames_setFrames]
  rw [e3]
  exact hrest
end ZT
