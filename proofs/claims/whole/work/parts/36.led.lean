/-- the exception that was thrown and caught: a cell that nobody knows -/
def uX (h : Hp) : Hp := (hN h + 1, hS h, ((hB h).1 - 1, (hB h).2 - 6), hI h, hL h, hR h)
noncomputable def f_Law_led2 (v0 : Nat) (v1 : Int32) (v2 : Nat) (h : Hp) : Option (Int32 × Hp) := match f_Law_led v0 v1 v2 h with
  | some q => some q
  | none => gd (hS h v0 = some (.inl 0)) (bd (f_B_ledX v0 v1 h) fun _ h1 => gd (1 ≤ (hB h1).1 ∧ 6 ≤ (hB h1).2) (some (1, uX h1)))
theorem rd_err {α β : Type} {x : Reader DecodeError α} {f : α → Reader DecodeError β} {b : ByteArray} {p : Nat} {er : DecodeError} (hx : x.runAt b p = .error er) : (x >>= f).runAt b p = .error er := by
  have hx' : (ReaderT.run x b).run p = .error er := hx
  show (ReaderT.run (x >>= f) b).run p = .error er
  rw [ReaderT.run_bind, StateT.run_bind, hx']
  rfl
theorem decode_out {b : ByteArray} {pc : Nat} (h : b.size ≤ pc) (q : Instr × Nat) : decode b pc ≠ .ok q := by
  intro hd
  have hu : (Reader.u1 : Reader DecodeError Nat).runAt b pc = .error (HasTruncated.truncated pc) := by
    unfold Reader.u1 Reader.runAt
    simp [Nat.not_lt.mpr h]
    rfl
  have hi : (Decoder.instr pc).runAt b pc = .error (HasTruncated.truncated pc) := by
    unfold Decoder.instr
    exact rd_err hu
  unfold decode at hd
  rw [hi] at hd
  cases hd
theorem ledX_size : (mB M_B_ledX).size = 56 := by decide +kernel
theorem ledX_dec : ∀ pc, pc < 56 → decode (mB M_B_ledX) pc = .ok (.new 372, 3) → pc = 45 := by decide +kernel
theorem ledX_pc {pc : Nat} (h : decode (mB M_B_ledX) pc = .ok (.new 372, 3)) : pc = 45 := by
  rcases Nat.lt_or_ge pc 56 with q | q
  · exact ledX_dec pc q h
  · exact absurd h (decode_out (by rw [ledX_size]; exact q) _)
theorem ledX_45 : decode (mB M_B_led) 45 = .ok (.new 372, 3) := by decide +kernel
theorem ledX_48 : decode (mB M_B_led) 48 = .ok (.dup, 1) := by decide +kernel
theorem ledX_49 : decode (mB M_B_led) 49 = .ok (.ldc_w 374, 3) := by decide +kernel
theorem ledX_52 : decode (mB M_B_led) 52 = .ok (.invokespecial 376, 3) := by decide +kernel
theorem ledX_55 : decode (mB M_B_led) 55 = .ok (.athrow, 1) := by decide +kernel
theorem lx_372 : Lk (.classLink "BrassYear" 372 nNSE) := ⟨by decide +kernel, rfl⟩
theorem lx_ins : Lk (.instantiable nNSE 6) := ⟨by decide +kernel, rfl⟩
theorem lx_ini : Lk (.initialized nNSE) := ⟨by decide +kernel, rfl⟩
theorem Rf.uX {G : GG} {h : Hp} {H V : Heap} {ce : Cell} (hR : Rf G h H) (z : V.size = H.size + 1) (oq : ∀ q : Nat, q < H.size → V[q]? = H[q]?) (hc : V[H.size]? = some ce) (hvm : ce.vm = .none) : Rf G (uX h) V := by
  have hR0 := hR
  obtain ⟨r1, r2, r3, r4, r5⟩ := hR
  refine ⟨by show hN h + 1 = _; rw [r1, z], by omega, fun q hq => ⟨by rw [oq q (by omega)]; exact (r3 q hq).1, (r3 q hq).2⟩, fun q => ?_, fun q cell hq hcell => ?_⟩
  · by_cases hl : q < H.size
    · exact (r4 q).same rfl ⟨fun _ => rfl, fun _ => rfl, fun _ => rfl⟩ (oq q hl)
    · unfold cellOK
      rw [show hS (_root_.Jvm.Pilot.CBrassYearLaw_law_r2248_b69b05.uX h) q = hS h q from rfl]
      cases hq : hS h q with
      | none => trivial
      | some y => exact absurd (hR0.lt hq) hl
  · by_cases hl : q < H.size
    · rw [oq q hl] at hcell
      exact r5 q cell hq hcell
    · have hl2 := (Array.getElem?_eq_some_iff.mp hcell).1
      have e : q = H.size := by omega
      rw [e, hc] at hcell
      cases hcell
      rw [hvm]
      rfl
/-- what led has done when it throws -/
def QX (G : GG) (h1 : Hp) (mc ms : Nat) (st : State) (o : Outcome) (t : State) : Prop := ∃ (a : Addr) (ce : Cell), o = .threw a ∧ Rf G (uX h1) t.heap ∧ va_F (gF G) st t ∧ t.heap[a]? = some ce ∧ ce.vm = .none ∧ st.vm.findClass nNSE = some ce.cls ∧ st.WarmedH t.vm ∧ ∃ L : List Loc, st.sameButNew ({ t with vm := st.vm } : State) L mc ms ∧ ∀ q ∈ L, gF G q.base
set_option maxHeartbeats 4000000 in
theorem met_ledX {G : GG} {h h1 : Hp} {x : Nat} {v : Int32} (hF : f_B_ledX x v h = some ((), h1)) {mc ms : Nat} (hmc : mc = (hB h).1 - (hB h1).1 + 1) (hms : ms = (hB h).2 - (hB h1).2 + 6) (l : Launch) (lf : l.flags = flags0) :
    MetFree l (mY M_B_led) (headSpec [.code (mY M_B_led) (mB M_B_led) (mL M_B_led) (mR M_B_led)] { frames := 10, cells := mc, slots := ms, locals := 1000 }) (va_Pc [.ref x, .int v] (fun U => Rf G h U.heap ∧ KG G U)) (fun _ _ _ _ _ => True) (fun _ st o t => QX G h1 mc ms st o t) := by
  obtain ⟨hb, kk⟩ := tt_B_ledX (G := G) x v h () h1 hF
  refine MetFree.of_bodySF (code := mB M_B_led) (maxLocals := mL M_B_led) (ret := mR M_B_led) (by decide +kernel) ?_ ?_
  · intro args s m hq hn
    obtain ⟨meth, c, g1, g2, g3, g4, g5, g6, -, -⟩ := Cond.code_spec hn (atoms_spec (ws := [.code (mY M_B_led) (mB M_B_led) (mL M_B_led) (mR M_B_led)]) hq _ List.mem_cons_self)
    exact ⟨meth, c, g1, g2, g3, g4, g5, g6⟩
  · intro p e s m args below meth c s₁ B hml hv _
    obtain ⟨rfl, hRf, hK⟩ := hv
    have hh0 : s₁.heap = s.heap := by rw [B.state]; rfl
    have X0 := Stand.of_body B
    have hlocks := B.notSynchronized
    have hcode := (atoms_spec (ws := [.code (mY M_B_led) (mB M_B_led) (mL M_B_led) (mR M_B_led)]) B.pre) _ List.mem_cons_self
    obtain ⟨meth', c', gm, gc, -, -, -, -, gE, -⟩ := Cond.code_spec B.named hcode
    have hcc : c' = c := by
      cases gm.symm.trans X0.method
      exact Option.some.inj (gc.symm.trans X0.code)
    subst hcc
    have htab : c'.exceptionTable.toList = [] := List.eq_nil_of_length_eq_zero (by simpa [Array.isEmpty] using gE)
    have hroomR := X0.room
    have hl := lv_entry [Value.ref x, Value.int v] (n := mL M_B_led) (by decide)
    have key : W p l e { frames := 10, cells := (hB h).1 - (hB h1).1, slots := (hB h).2 - (hB h1).2, locals := 1000 } s m [Value.ref x, Value.int v].toArray below meth c' s.heap [] 0 0 (fun t => ∃ o, t.status = .running ∧ Ended t below o ∧ QX G h1 mc ms s o t) (entryFrame m [Value.ref x, Value.int v].toArray (mL M_B_led)) := by
      rw [lg_entry_eq]
      refine kk p l e _ s m _ below meth c' s.heap [] 0 0 _ _ ⟨B.exec, B.bytes, hml, findClass_of_methodNamed B.named, (name_of_methodNamed B.named B.method).1, hK, by decide, by decide, hRf.2.1⟩ lf (Nat.zero_add _) (Nat.zero_add _) hRf va_S.rf hl ?_
      intro H' locs' pc' ls' hz ho hR' hS' hd
      have hpc : pc' = 45 := ledX_pc hd
      subst hpc
      intro U hU X'
      have X : Stand p l e { frames := 10, cells := mc, slots := ms, locals := 1000 } s m [Value.ref x, Value.int v].toArray below meth c' U locs' ((hB h).1 - (hB h1).1) ((hB h).2 - (hB h1).2) := ⟨X'.admits, X'.cas, X'.clock, X'.frames, hroomR, X'.hears, X'.method, X'.code, X'.here, X'.tail, X'.warmed, X'.limits, X'.bytes, X'.same⟩
      sorry
    sorry
theorem r_led {G : GG} {d : Nat} {α : Type} {cv : α → Option Value} {pc i x o : Nat} {v : Int32} {ls : List (Nat × Value)} {st : List Value} {h : Hp} {K : Int32 → Hp → Option (α × Hp)} (hd : decode (mB M_Law_law) pc = .ok (.invokestatic i, 3)) (kk : ∀ r h1, T G M_Law_law d cv (pc + 3) ls (.int r :: st) h1 (K r h1)) : T G M_Law_law d cv pc ls (.ref o :: .int v :: .ref x :: st) h (bd (f_Law_led2 x v o h) K) := by
  sorry
