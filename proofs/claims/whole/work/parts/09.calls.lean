/-! calls, and the rows in the form that the printed functions have -/
def lt {α β : Sort _} (x : α) (f : α → β) : β := f x
section TK
variable {G : GG} {M : MI} {d : Nat} {α β : Type} {cv : α → Option Value} {cc : β → Option Value} {pc : Nat} {ls ls' : List (Nat × Value)} {st rest av : List Value} {h : Hp} {F : Option (α × Hp)} {Fc : Option (β × Hp)} {K : β → Hp → Option (α × Hp)} {Mc : MI} {dc : Nat}
theorem T.gd {P : Prop} (k : P → T G M d cv pc ls st h F) : T G M d cv pc ls st h (gd P F) := by
  intro r h' hF
  obtain ⟨hP, hF⟩ := gd_some hF
  exact k hP r h' hF
theorem T.un {P : Prop} (hP : P) (k : T G M d cv pc ls st h (_root_.Jvm.Pilot.CBrassYearLaw_law_r2248_b69b05.gd P F)) : T G M d cv pc ls st h F := fun r h' hF => k r h' ((gd_pos hP).trans hF)
theorem T.lsub (is : List Nat) (hs : lv_pick ls is = ls') (k : T G M d cv pc ls' st h F) : T G M d cv pc ls st h F := by
  intro r h' hF
  obtain ⟨hb, kk⟩ := k r h' hF
  refine ⟨hb, fun p l e R s m args below meth c H locs cells slots Q ls0 C lf h1 h2 hR hS hl hret => ?_⟩
  exact kk p l e R s m args below meth c H locs cells slots Q ls0 C lf h1 h2 hR hS (lv_sub hl is hs) hret
theorem Pm_blind : FrameBlind (va_Pc av (fun U => Rf G h U.heap ∧ KG G U)) := by
  intro a U g mk hq
  obtain ⟨h1, h2, h3⟩ := hq
  exact ⟨h1, h2, KG.same (s := U) (U := U.calling g mk a) rfl h3⟩
theorem T.call (hM : Mt G Mc dc av cc h Fc)
    (run : ∀ {p : Program} {l : Launch} {e : Env} {R : Room} {s : State} {m : MethodId} {args : Array Value} {below : List Frame} {meth : Method} {c : Code} {H : Heap} {locs : List Loc} {cells slots : Nat} {ls0 : Array Slot} {Qc : Array Value → State → Outcome → State → Prop} {mc ms : Nat},
      Cx G M d p R s m meth c → Rf G h H → ls0.size = mL M → Met l (mY Mc) [.code (mY Mc) (mB Mc) (mL Mc) (mR Mc)] { frames := dc, cells := mc, slots := ms, locals := 100 * dc } (va_Pc av (fun U => Rf G h U.heap ∧ KG G U)) Qc mc ms (gF G) → (cells + mc ≤ R.cells ∧ slots + ms ≤ R.slots) →
      va_Run p l e R s m args below meth c H locs cells slots mc ms (F0 m pc ls0 st) rest (Qc av.toArray) (gF G))
    (kk : ∀ r h1, T G M d cv (pc + 3) ls ((cc r).toList ++ rest) h1 (K r h1)) : T G M d cv pc ls st h (bd Fc K) := by
  intro r h' hF
  obtain ⟨rc, h1, hFc, hK⟩ := bd_some hF
  obtain ⟨hb1, hmet⟩ := hM rc h1 hFc
  obtain ⟨hb2, k2⟩ := kk rc h1 r h' hK
  refine ⟨⟨Nat.le_trans hb2.1 hb1.1, Nat.le_trans hb2.2 hb1.2⟩, fun p l e R s m args below meth c H locs cells slots Q ls0 C lf q1 q2 hR hS hl hret => ?_⟩
  intro X0 hT X
  obtain ⟨v, st₀, t, T', L, h0, X', hL, e1, e2, ⟨hv, hRt, hz, hkq⟩, stp⟩ := run C hR hl.1 (hmet l lf) ⟨by omega, by omega⟩ X0 hT X
  cases hv
  rw [h0] at hz hkq
  obtain ⟨t2, a1, b1⟩ := k2 p l e R s m args below meth c T'.heap (locs ++ L) (cells + ((hB h).1 - (hB h1).1)) (slots + ((hB h).2 - (hB h1).2)) Q ls0 C lf (by omega) (by omega) (by rw [e1]; exact hRt)
    ⟨Nat.le_trans hS.1 (by rw [e1]; exact hz), fun q g1 g2 => by rw [e1, hkq q (Nat.lt_of_lt_of_le g1 hS.1) g2]; exact hS.2.1 q g1 g2, fun q hq => (List.mem_append.mp hq).elim (hS.2.2 q) (hL q)⟩ hl hret T' rfl X'
  exact ⟨t2, stp t2 a1, b1⟩
theorem Cx.cb {G : GG} {M Mc : MI} {d dc i n : Nat} {p : Program} {R : Room} {s : State} {m : MethodId} {meth : Method} {c : Code} {args : Array Value} {mc ms : Nat} (C : Cx G M d p R s m meth c) (hc : LkC Mc n) (hl : Lk (.methodLink (mY M).cls i (mY Mc))) (hd : dc + 1 ≤ d) :
    CallB R s args (mY M).cls i (mY Mc) (mB Mc) (mL Mc) (mR Mc) [.code (mY Mc) (mB Mc) (mL Mc) (mR Mc)] { frames := dc, cells := mc, slots := ms, locals := 100 * dc } mc ms n := by
  have h1 := C.2.2.2.2.2.2.1
  have h2 := C.2.2.2.2.2.2.2.1
  have h3 := Nat.le_of_ble_eq_true hc.2.2.2.2
  refine ⟨rfl, rfl, by show dc + 1 ≤ _; omega, by show 8 + (mL Mc + 11) + 100 * dc ≤ _; omega, fun w hw a' U hW => ?_, List.mem_singleton.mpr rfl, C.lk hc.1 args, C.lk hc.2.1 args, hc.2.2.1, fun sig hs => ?_, C.lk hl args⟩
  · rw [List.mem_singleton.mp hw]
    exact word_at hW (good_of_word hc.1.2) (C.lk hc.1 args)
  · have h4 := hc.2.2.2.1
    rw [hs] at h4
    exact (Option.some.inj h4).symm
theorem Cx.cn {G : GG} {M Mc : MI} {d dc i n : Nat} {host : String} {p : Program} {R : Room} {s : State} {m : MethodId} {meth : Method} {c : Code} {args : Array Value} {mc ms : Nat} (C : Cx G M d p R s m meth c) (hc : LkC Mc n) (hl : LkN (.methodLinkNest (mY M).cls i (mY Mc) host)) (hd : dc + 1 ≤ d) :
    va_CN R s args (mY M).cls i (mY Mc) host (mB Mc) (mL Mc) (mR Mc) [.code (mY Mc) (mB Mc) (mL Mc) (mR Mc)] { frames := dc, cells := mc, slots := ms, locals := 100 * dc } mc ms n := by
  have h1 := C.2.2.2.2.2.2.1
  have h2 := C.2.2.2.2.2.2.2.1
  have h3 := Nat.le_of_ble_eq_true hc.2.2.2.2
  refine ⟨⟨rfl, rfl, by show dc + 1 ≤ _; omega, by show 8 + (mL Mc + 11) + 100 * dc ≤ _; omega, fun w hw a' U hW => ?_, List.mem_singleton.mpr rfl⟩, C.lk hc.1 args, C.lk hc.2.1 args, hc.2.2.1, fun sig hs => ?_, C.lkN hl args⟩
  · rw [List.mem_singleton.mp hw]
    exact word_at hW (good_of_word hc.1.2) (C.lk hc.1 args)
  · have h4 := hc.2.2.2.1
    rw [hs] at h4
    exact (Option.some.inj h4).symm
theorem Cx.fix {G : GG} {M : MI} {d : Nat} {p : Program} {R : Room} {s : State} {m : MethodId} {meth : Method} {c : Code} {args : Array Value} (C : Cx G M d p R s m meth c) : CallFix p m c (mB M) (mL M) s args [] (mY M).cls := ⟨C.1, C.2.1, C.2.2.1, C.2.2.2.1, fun _ h => absurd h List.not_mem_nil⟩
theorem Cx.pre {G : GG} {M : MI} {d : Nat} {p : Program} {R : Room} {s : State} {m : MethodId} {meth : Method} {c : Code} {H : Heap} {h : Hp} {av : List Value} (C : Cx G M d p R s m meth c) (hR : Rf G h H) : PreS s H (va_Pc av (fun U => Rf G h U.heap ∧ KG G U)) av :=
  ⟨Pm_blind, fun U hU hW => ⟨rfl, by rw [hU]; exact hR, C.2.2.2.2.2.1.warm hW⟩⟩
theorem r_inv {i ci a : Nat} {q : vw_C} (dc n : Nat) (As : List Value) (hd : decode (mB M) pc = .ok (.invokevirtual i, 3)) (hq : classes[ci]? = some q) (hy : (mY Mc).cls = q.1) (hc : LkC Mc n) (hv : LkV Mc) (hl : MLk (mY M).cls i (mY Mc)) (hdd : Nat.ble (dc + 1) d = true) (hn : As.length = n) (hst : st = As.reverse ++ .ref a :: rest) (hw : Nat.ble (rest.map fun v => v.category).sum 8 = true) (hM : Mt G Mc dc (.ref a :: As) cc h Fc) (kk : ∀ r h1, T G M d cv (pc + 3) ls ((cc r).toList ++ rest) h1 (K r h1)) : T G M d cv pc ls st h (gd (hS h a = some (.inl ci)) (bd Fc K)) := by
  have hdd := Nat.le_of_ble_eq_true hdd
  have hw := Nat.le_of_ble_eq_true hw
  refine T.gd fun hP => T.call hM (fun {p l e R s m args below meth c H locs cells slots ls0 Qc mc ms} C hR hz met hf => ?_) kk
  obtain ⟨cell, q1, q2, q3, q4⟩ := hR.obj hP hq
  obtain ⟨hSl, hfc, kC, hkC, hkind⟩ := C.2.2.2.2.2.1.2.2.1 ci q hq
  have hpre : PreV s H (mY Mc).cls a (va_Pc (.ref a :: As) (fun U => Rf G h U.heap ∧ KG G U)) As := ⟨Pm_blind, ⟨cell, q1, by rw [q3]; rfl, by rw [hy, q2]; exact hfc⟩, (C.pre hR).2⟩
  rcases hl with hl | ⟨host, hl⟩
  · exact va_runV C.fix met ⟨C.cb hc hl hdd, C.lk hv.1 _, C.lk hv.2 _⟩ hpre rfl hn hz hst (by show 2 * 0 + _ ≤ 8; omega) hd hf
  · exact va_runVN C.fix met ⟨C.cn hc hl hdd, C.lk hv.1 _, C.lk hv.2 _⟩ hpre rfl hn hz hst (by show 2 * 0 + _ ≤ 8; omega) hd hf
theorem r_ins {i : Nat} (dc n : Nat) (As : List Value) (hd : decode (mB M) pc = .ok (.invokestatic i, 3)) (hc : LkC Mc n) (hs : Lk (.static (mY Mc))) (hl : MLk (mY M).cls i (mY Mc)) (hdd : Nat.ble (dc + 1) d = true) (hn : As.length = n) (hst : st = As.reverse ++ rest) (hw : Nat.ble (rest.map fun v => v.category).sum 8 = true) (hM : Mt G Mc dc As cc h Fc) (kk : ∀ r h1, T G M d cv (pc + 3) ls ((cc r).toList ++ rest) h1 (K r h1)) : T G M d cv pc ls st h (bd Fc K) := by
  have hdd := Nat.le_of_ble_eq_true hdd
  have hw := Nat.le_of_ble_eq_true hw
  refine T.call hM (fun {p l e R s m args below meth c H locs cells slots ls0 Qc mc ms} C hR hz met hf => ?_) kk
  rcases hl with hl | ⟨host, hl⟩
  · exact va_runS C.fix met ⟨C.cb hc hl hdd, C.lk hs _⟩ (C.pre hR) rfl hn hz hst (by show 2 * 0 + _ ≤ 8; omega) hd hf
  · exact va_runSN C.fix met ⟨C.cn hc hl hdd, C.lk hs _, trivial⟩ (C.pre hR) rfl hn hz hst (by show 2 * 0 + _ ≤ 8; omega) hd hf
theorem r_ini {i a : Nat} (dc n : Nat) (As : List Value) (hd : decode (mB M) pc = .ok (.invokespecial i, 3)) (hc : LkC Mc n) (hr : mR Mc = none) (hnm : (mY Mc).name = "<init>") (hi : Lk (.instanceMethod (mY Mc))) (hl : MLk (mY M).cls i (mY Mc)) (hdd : Nat.ble (dc + 1) d = true) (hn : As.length = n) (hst : st = As.reverse ++ .ref a :: rest) (hw : Nat.ble (rest.map fun v => v.category).sum 8 = true) (hM : Mt G Mc dc (.ref a :: As) cc h Fc) (kk : ∀ r h1, T G M d cv (pc + 3) ls ((cc r).toList ++ rest) h1 (K r h1)) : T G M d cv pc ls st h (bd Fc K) := by
  have hdd := Nat.le_of_ble_eq_true hdd
  have hw := Nat.le_of_ble_eq_true hw
  refine T.call hM (fun {p l e R s m args below meth c H locs cells slots ls0 Qc mc ms} C hR hz met hf => ?_) kk
  rcases hl with hl | ⟨host, hl⟩
  · have cb := C.cb (args := args) (mc := mc) (ms := ms) hc hl hdd
    rw [hr] at cb met
    exact va_runI C.fix met ⟨cb, hnm, C.lk hi _⟩ (C.pre hR) rfl hn hz hst (by show 2 * 0 + _ ≤ 8; omega) hd hf
  · have cb := C.cn (args := args) (mc := mc) (ms := ms) hc hl hdd
    rw [hr] at cb met
    exact va_runIN C.fix met ⟨cb, hnm, C.lk hi _⟩ (C.pre hR) rfl hn hz hst (by show 2 * 0 + _ ≤ 8; omega) hd hf
/-- Object's constructor -/
theorem r_obj {i a : Nat} (hd : decode (mB M) pc = .ok (.invokespecial i, 3)) (h1 : Lk (.methodLink (mY M).cls i objectInit)) (h2 : Lk (.instanceMethod objectInit)) (h3 : Lk (.code objectInit ⟨#[0xb1]⟩ 1 none)) (hdd : Nat.ble 1 d = true) (hw : Nat.ble (st.map fun v => v.category).sum 8 = true) (k : T G M d cv (pc + 3) ls st h F) : T G M d cv pc ls (.ref a :: st) h F := by
  have hdd := Nat.le_of_ble_eq_true hdd
  have hw := Nat.le_of_ble_eq_true hw
  refine T.lift (fun C hl kk => ?_) k
  have g1 := C.2.2.2.2.2.2.1
  have g2 := C.2.2.2.2.2.2.2.1
  exact W.objInit C.1 C.2.1 C.2.2.2.1 (C.lk h1 _) (C.lk h2 _) (C.lk h3 _) rfl (by rw [C.2.2.1]; exact hl.1) rfl hd (by omega) (by show 2 * 0 + _ + 12 ≤ _; omega) kk
theorem Rt.a {n : String} (h1 : mR M = some (.object n)) (h2 : mE M = .areturn) : Rt M cA := by
  intro r _ p l e R s m args below meth c H locs cells slots Qc free pc ls hx hb hr hl hq hf hd
  rw [mN1 h2 rfl, h2] at hd
  rw [h1] at hr
  exact W.aret hx hb hr (Or.inl ⟨n, rfl⟩) (Or.inr ⟨r, rfl⟩) hq hf hd hl
end TK
