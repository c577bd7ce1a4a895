theorem Rf.lt {G : GG} {h : Hp} {H : Heap} (hR : Rf G h H) {a : Nat} {x : Nat ⊕ (Nat × Nat)} (hs : hS h a = some x) : a < H.size := by
  cases x with
  | inl c =>
    have h1 := hR.2.2.2.1 a
    unfold cellOK at h1
    rw [hs] at h1
    obtain ⟨q', e, cell, h2, -⟩ := h1
    exact (Array.getElem?_eq_some_iff.mp h2).1
  | inr p => exact (Array.getElem?_eq_some_iff.mp (hR.arr (t := p.1) (n := p.2) hs)).1
theorem Rf.new {G : GG} {h : Hp} {H H1 : Heap} {x : Nat ⊕ (Nat × Nat)} {n : Nat} (hR : Rf G h H) (z : H1.size = H.size + 1) (oq : ∀ q : Nat, q < H.size → H1[q]? = H[q]?) (hc : cellOK G (uN h x n) H1 (hN h)) : Rf G (uN h x n) H1 := by
  have hR0 := hR
  obtain ⟨r1, r2, r3, r4, r5⟩ := hR
  refine ⟨by show hN h + 1 = _; rw [r1, z], by omega, fun q hq => ?_, fun q => ?_, fun q cell hq hcell => ?_⟩
  · have hne : q ≠ hN h := by omega
    refine ⟨by rw [oq q (by omega)]; exact (r3 q hq).1, ?_⟩
    show (if q = hN h then _ else _) = _
    rw [if_neg hne]
    exact (r3 q hq).2
  · by_cases e : q = hN h
    · rw [e]; exact hc
    · have hs1 : hS (uN h x n) q = hS h q := if_neg e
      by_cases hl : q < H.size
      · exact (r4 q).same hs1 ⟨fun k => if_neg e, fun k => if_neg e, fun k => if_neg e⟩ (oq q hl)
      · unfold cellOK
        rw [hs1]
        cases hq : hS h q with
        | none => trivial
        | some y => exact absurd (hR0.lt hq) hl
  · by_cases e : q = hN h
    · subst e
      exact hc.plain (if_pos rfl) cell hcell
    · have hl := (Array.getElem?_eq_some_iff.mp hcell).1
      rw [oq q (by omega)] at hcell
      exact r5 q cell hq hcell
theorem aV_new {h : Hp} {x : Nat ⊕ (Nat × Nat)} {n j t : Nat} : aV t (uN h x n) (hN h) j = (match t with | 0 => .int 0 | 1 => .long 0 | 2 => .int 0 | 3 => .int 0 | _ => .null) := by
  have e1 : hI (uN h x n) (hN h) j = 0 := if_pos rfl
  have e2 : hL (uN h x n) (hN h) j = 0 := if_pos rfl
  have e3 : hR (uN h x n) (hN h) j = none := if_pos rfl
  unfold aV
  rw [e1, e2, e3]
  rcases t with _ | _ | _ | _ | t <;> rfl
theorem fV_new {h : Hp} {x : Nat ⊕ (Nat × Nat)} {n j t : Nat} : fV t (uN h x n) (hN h) j = dfV t := by
  have e1 : hI (uN h x n) (hN h) j = 0 := if_pos rfl
  have e2 : hL (uN h x n) (hN h) j = 0 := if_pos rfl
  have e3 : hR (uN h x n) (hN h) j = none := if_pos rfl
  unfold fV dfV
  rw [e1, e2, e3]
  rcases t with _ | _ | t <;> rfl
section TC
variable {G : GG} {M : MI} {d : Nat} {α : Type} {cv : α → Option Value} {pc : Nat} {ls : List (Nat × Value)} {st : List Value} {h : Hp} {F F1 F2 : Option (α × Hp)}
theorem T.nw {n : Nat} {x : Nat ⊕ (Nat × Nat)} {pc' : Nat} {st' : List Value} (row : ∀ {p : Program} {l : Launch} {e : Env} {R : Room} {s : State} {m : MethodId} {args : Array Value} {below : List Frame} {meth : Method} {c : Code} {H : Heap} {locs : List Loc} {cells slots : Nat} {Q : State → Prop} {ls0 : Array Slot},
      Cx G M d p R s m meth c → Rf G h H → va_S (gF G) s.heap H locs → cells + 1 ≤ R.cells → slots + n ≤ R.slots → (∀ H1 : Heap, Rf G (uN h x n) H1 → va_S (gF G) s.heap H1 locs → W p l e R s m args below meth c H1 locs (cells + 1) (slots + n) Q (F0 m pc' ls0 st')) → W p l e R s m args below meth c H locs cells slots Q (F0 m pc ls0 st))
    (kk : T G M d cv pc' ls st' (uN h x n) F) : T G M d cv pc ls st h (gd (1 ≤ (hB h).1 ∧ n ≤ (hB h).2) F) := by
  intro r h' hF
  obtain ⟨hP, hF⟩ := gd_some hF
  obtain ⟨hb, k2⟩ := kk r h' hF
  have q1 : (hB (uN h x n)).1 = (hB h).1 - 1 := rfl
  have q2 : (hB (uN h x n)).2 = (hB h).2 - n := rfl
  rw [q1, q2] at hb k2
  refine ⟨⟨by omega, by omega⟩, fun p l e R s m args below meth c H locs cells slots Q ls0 C lf h1 h2 hR hS hl hret => ?_⟩
  refine row C hR hS (by omega) (by omega) (fun H1 hR1 hS1 => ?_)
  exact k2 p l e R s m args below meth c H1 locs (cells + 1) (slots + n) Q ls0 C lf (by omega) (by omega) hR1 hS1 hl hret
theorem va_S.grow {A : Nat → Prop} {H0 H H1 : Heap} {locs : List Loc} (hS : va_S A H0 H locs) (z : H1.size = H.size + 1) (oq : ∀ q : Nat, q < H.size → H1[q]? = H[q]?) : va_S A H0 H1 locs :=
  ⟨Nat.le_trans hS.1 (by omega), fun x h1 h2 => (oq x (Nat.lt_of_lt_of_le h1 hS.1)).trans (hS.2.1 x h1 h2), hS.2.2⟩
theorem q_new {i ci : Nat} {q : vw_C} (hd : decode (mB M) pc = .ok (.new i, 3)) (hq : classes[ci]? = some q) (w1 : Lk (.classLink (mY M).cls i q.1)) (w2 : Lk (.instantiable q.1 q.2.2)) (w3 : Lk (.initialized q.1)) (hdf : ∀ k, k < q.2.2 → defaultValue (cTYf ci k) = dfV (kd ci k)) (kk : T G M d cv (pc + 3) ls (.ref (hN h) :: st) (uN h (.inl ci) q.2.2) F) : T G M d cv pc ls st h (gd (1 ≤ (hB h).1 ∧ q.2.2 ≤ (hB h).2) F) := by
  refine T.nw (fun {p l e R s m args below meth c H locs cells slots Q ls0} C hR hSv hc hs kk => ?_) kk
  have hKn := C.2.2.2.2.2.1.2.2.1 ci q hq
  refine W.newcK C.1 C.2.1 C.2.2.2.1 (C.lk w1 args) (C.lk w2 args) (C.lk w3 args) rfl hd hc hs hKn.2.1 hR.1.symm fun H1 kC hkC e1 z1 o1 => ?_
  rw [hR.1] at z1 o1
  refine kk H1 (hR.new z1 o1 ?_) (hSv.grow z1 o1)
  unfold cellOK
  rw [show hS (uN h (.inl ci) q.2.2) (hN h) = some (.inl ci) from if_pos rfl]
  refine ⟨q, hq, (u_born (cTYf ci) (C.hts hq args) (fun _ h => h) hKn hkC e1 (cl_ty ci q hq)).to (fun k hk => ?_)⟩
  rw [hdf k hk, fV_new]
theorem q_newa {atype : ArrayType} {t N : Nat} {ty : FieldType} {n : Int32} (hd : decode (mB M) pc = .ok (.newarray atype, 2)) (hty : newarray.typeOf atype = ty) (ht : aTy[t]? = some ty) (hw : Lk (.arrayClass ty)) (hn : ¬ n < 0) (hN' : n.toNatClampNeg = N) (hby : N * componentBytes ty ≤ 536870912) (hra : ∀ (U : State) (cA : ClassId), va_RA U cA ty → U.vm.findClass ("[" ++ ty.toString) = some cA) (hdf : ∀ j, aV t (uN h (.inr (t, N)) N) (hN h) j = defaultValue ty) (kk : T G M d cv (pc + 2) ls (.ref (hN h) :: st) (uN h (.inr (t, N)) N) F) : T G M d cv pc ls (.int n :: st) h (gd (1 ≤ (hB h).1 ∧ N ≤ (hB h).2) F) := by
  subst hty
  refine T.nw (fun {p l e R s m args below meth c H locs cells slots Q ls0} C hR hSv hc hs kk => ?_) kk
  refine va_newaK C.1 C.2.1 (C.lk hw args) rfl hd rfl hn hN' hby hc hs hR.1.symm fun H1 cA e1 z1 o1 hAr hNm => ?_
  rw [hR.1] at z1 o1
  have hcA : cA = gA G t := Option.some.inj (hNm.symm.trans (hra _ _ (C.ara ht)))
  refine kk H1 (hR.new z1 o1 ?_) (hSv.grow z1 o1)
  unfold cellOK
  rw [show hS (uN h (.inr (t, N)) N) (hN h) = some (.inr (t, N)) from if_pos rfl]
  show H1[hN h]? = _
  rw [e1, hcA]
  exact congrArg (fun f => some (arrV (gA G t) N f)) (funext fun j => (hdf j).symm)
theorem Cx.ao {G : GG} {M : MI} {d : Nat} {p : Program} {R : Room} {s : State} {m : MethodId} {meth : Method} {c : Code} (C : Cx G M d p R s m meth c) {C0 : String} (h : Cond.arrayOver (.object C0) ∈ lw_tbl) {a : Array Value} : (Cond.arrayOver (.object C0)).before a s = true := by
  obtain ⟨U0, args, h1, -, -, h2⟩ := C.2.2.2.2.2.1.2.2.2.2.2.2.2.2.2.2
  exact (va_AO.moved h1.alike (va_AO.of (h2 _ h))).use
theorem q_anew {i t N : Nat} {C0 : String} {n : Int32} (hd : decode (mB M) pc = .ok (.anewarray i, 3)) (ht : aTy[t]? = some (.object C0)) (w1 : Lk (.classLink (mY M).cls i C0)) (w2 : Cond.arrayOver (.object C0) ∈ lw_tbl) (hn : ¬ n < 0) (hN' : n.toNatClampNeg = N) (hby : N * 4 ≤ 536870912) (hdf : ∀ j, aV t (uN h (.inr (t, N)) N) (hN h) j = .null) (kk : T G M d cv (pc + 3) ls (.ref (hN h) :: st) (uN h (.inr (t, N)) N) F) : T G M d cv pc ls (.int n :: st) h (gd (1 ≤ (hB h).1 ∧ N ≤ (hB h).2) F) := by
  subst hN'
  refine T.nw (fun {p l e R s m args below meth c H locs cells slots Q ls0} C hR hSv hc hs kk => ?_) kk
  refine W.anew C.1 C.2.1 C.2.2.2.1 (C.lk w1 args) (C.ao w2) rfl hd rfl hn hby hc hs fun cA kA comp f1 f2 f3 f4 => ?_
  obtain ⟨kA', comp', r1, r2, r3, r4⟩ := C.ara ht
  have hcA : cA = gA G t := Option.some.inj (f1.symm.trans r4)
  generalize hH1 : H.push ({ cls := cA, slots := Array.replicate n.toNatClampNeg .null, vm := .none } : Cell) = H1
  have z1 : H1.size = H.size + 1 := by rw [← hH1, Array.size_push]
  have e1 : H1[H.size]? = some (arrV cA n.toNatClampNeg (fun _ => .null)) := by rw [← hH1, Array.getElem?_push_size, ← arrV_new]
  have o1 : ∀ q : Nat, q < H.size → H1[q]? = H[q]? := fun q hq => by rw [← hH1, Array.getElem?_push, if_neg (Nat.ne_of_lt hq)]
  rw [← hR.1] at e1 ⊢
  refine kk H1 (hR.new z1 o1 ?_) (hSv.grow z1 o1)
  unfold cellOK
  rw [show hS (uN h (.inr (t, n.toNatClampNeg)) n.toNatClampNeg) (hN h) = some (.inr (t, n.toNatClampNeg)) from if_pos rfl]
  show H1[hN h]? = _
  rw [e1, hcA]
  exact congrArg (fun f => some (arrV (gA G t) n.toNatClampNeg f)) (funext fun j => (hdf j).symm)
/-! a method's contract -/
def Mt (G : GG) (M : MI) (d : Nat) (av : List Value) {α : Type} (cv : α → Option Value) (h : Hp) (F : Option (α × Hp)) : Prop :=
  ∀ (r : α) (h' : Hp), F = some (r, h') → ((hB h').1 ≤ (hB h).1 ∧ (hB h').2 ≤ (hB h).2) ∧ ∀ l : Launch, l.flags = flags0 →
    Met l (mY M) [.code (mY M) (mB M) (mL M) (mR M)] { frames := d, cells := (hB h).1 - (hB h').1, slots := (hB h).2 - (hB h').2, locals := 100 * d } (va_Pc av (fun U => Rf G h U.heap ∧ KG G U))
      (fun _ st o t => o = .returned (cv r) ∧ Rf G h' t.heap ∧ va_F (gF G) st t) ((hB h).1 - (hB h').1) ((hB h).2 - (hB h').2) (gF G)
/-- how a method of that sort ends -/
def Rt (M : MI) {α : Type} (cv : α → Option Value) : Prop := ∀ (r : α), okv (mR M) (cv r).toList → ∀ {p : Program} {l : Launch} {e : Env} {R : Room} {s : State} {m : MethodId} {args : Array Value} {below : List Frame} {meth : Method} {c : Code} {H : Heap} {locs : List Loc} {cells slots : Nat} {Qc : Array Value → State → Outcome → State → Prop} {free : Addr → Prop} {pc : Nat} {ls : Array Slot}, p.tables.exec = Jvm.exec → c.code = mB M → meth.sig.returnType = mR M → meth.locks = false →
  (∀ t : State, t.heap = H → s.WarmedH t.vm → Qc args s (.returned (cv r)) t) → (∀ q ∈ locs, free q.base) → decode (mB M) pc = .ok (mE M, mN M) → W p l e R s m args below meth c H locs cells slots (MQ below Qc args s cells slots free) (F0 m pc ls (cv r).toList)
def cI (x : Int32) : Option Value := some (.int x)
def cL (x : Int64) : Option Value := some (.long x)
def cA (x : Nat) : Option Value := some (.ref x)
def cU (_ : Unit) : Option Value := none
theorem mN1 {M : MI} {i : Instr} (h : mE M = i) (hi : (match i with | .new _ => 3 | _ => 1) = 1) : mN M = 1 := by
  unfold mN
  rw [h]
  exact hi
theorem Rt.i (h1 : mR M = some .int) (h2 : mE M = .ireturn) : Rt M cI := by
  intro r _ p l e R s m args below meth c H locs cells slots Qc free pc ls hx hb hr hl hq hf hd
  rw [mN1 h2 rfl, h2] at hd
  rw [h1] at hr
  exact W.iret hx hb hr hq hf hd hl
theorem Rt.z (h1 : mR M = some .boolean) (h2 : mE M = .ireturn) : Rt M cI := by
  intro r ho p l e R s m args below meth c H locs cells slots Qc free pc ls hx hb hr hl hq hf hd
  rw [mN1 h2 rfl, h2] at hd
  rw [h1] at hr
  refine W.zret hx hb hr ?_ hq hf hd hl
  rcases ho h1 with h | h
  · cases h; rfl
  · cases h; rfl
theorem Rt.l (h1 : mR M = some .long) (h2 : mE M = .lreturn) : Rt M cL := by
  intro r _ p l e R s m args below meth c H locs cells slots Qc free pc ls hx hb hr hl hq hf hd
  rw [mN1 h2 rfl, h2] at hd
  rw [h1] at hr
  exact W.lret hx hb hr hq hf hd hl
theorem Rt.v (h1 : mR M = none) (h2 : mE M = .return_) : Rt M cU := by
  intro r _ p l e R s m args below meth c H locs cells slots Qc free pc ls hx hb hr hl hq hf hd
  rw [mN1 h2 rfl, h2] at hd
  rw [h1] at hr
  exact W.vret hx hb hr hq hf hd hl
theorem Mt.of {av : List Value} (hp : plainName (mY M).cls = true) (hlen : Nat.ble (lg_sl av).length (mL M) = true) (hrt : Rt M cv) (k : T G M d cv 0 (lv_args 0 av) [] h F) : Mt G M d av cv h F := by
  intro r h' hF
  obtain ⟨hb, kk⟩ := k r h' hF
  refine ⟨hb, fun l lf => ?_⟩
  refine Met.ofW (cc := mB M) (maxL := mL M) (ret := mR M) hp rfl ?_
  intro p e s m args below meth c s₁ B hml hv
  obtain ⟨rfl, hRf, hK⟩ := hv
  have hl := lv_entry av (n := mL M) (Nat.le_of_ble_eq_true hlen)
  rw [lg_entry_eq]
  refine kk p l e _ s m av.toArray below meth c s.heap [] 0 0 _ _ ⟨B.exec, B.bytes, hml, findClass_of_methodNamed B.named, (name_of_methodNamed B.named B.method).1, hK, Nat.le_refl _, Nat.le_refl _, hRf.2.1⟩ lf (by rw [Nat.zero_add]; rfl) (by rw [Nat.zero_add]; rfl) hRf va_S.rf hl ?_
  intro H' locs' pc' ls' hz ho hR' hS' hd
  exact hrt r ho B.exec B.bytes B.returns B.notSynchronized (fun t ht hW => ⟨rfl, by rw [ht]; exact hR', hS'.F ht⟩) hS'.2.2 hd
end TC
