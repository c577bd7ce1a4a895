/-! new int[7][8], at one stroke -/
def mgF (b i : Nat) : Nat → Value := fun j => if j < i then .ref (b + 1 + j) else .null
def mgO (c : ClassId) (b i : Nat) : Cell := arrV c 7 (mgF b i)
def mgI (c : ClassId) : Cell := arrV c 8 (fun _ => .int 0)
def mgS (U : State) (cA cI : ClassId) : Nat → State
  | 0 => U.pushCell (mgO cA U.heap.size 0)
  | i + 1 => ((mgS U cA cI i).pushCell (mgI cI)).setCell U.heap.size (mgO cA U.heap.size (i + 1))
theorem mgO_next (c : ClassId) (b i : Nat) : (mgO c b i).setSlot i (.ref (b + 1 + i)) = mgO c b (i + 1) := by
  unfold mgO
  rw [arrV_store]
  congr 1
  funext j
  unfold updV mgF
  by_cases h : j = i
  · rw [if_pos h, h, if_pos (Nat.lt_succ_self i)]
  · rw [if_neg h]
    by_cases q : j < i
    · rw [if_pos q, if_pos (by omega)]
    · rw [if_neg q, if_neg (by omega)]
theorem mgS_facts (U : State) (cA cI : ClassId) (i : Nat) : (mgS U cA cI i).heap.size = U.heap.size + 1 + i ∧ (mgS U cA cI i).heap[U.heap.size]? = some (mgO cA U.heap.size i) ∧ (mgS U cA cI i).vm = U.vm ∧ (mgS U cA cI i).slotsUsed = U.slotsUsed + 7 + i * 8 ∧ (∀ a, a < U.heap.size → (mgS U cA cI i).heap[a]? = U.heap[a]?) ∧ ∀ j, j < i → (mgS U cA cI i).heap[U.heap.size + 1 + j]? = some (mgI cI) := by
  induction i with
  | zero => exact ⟨by simp [mgS], by simp [mgS], rfl, by simp [mgS, mgO, arrV], fun a ha => State.heap_pushCell_of_lt _ _ ha, fun j hj => absurd hj (Nat.not_lt_zero j)⟩
  | succ i ih =>
    obtain ⟨h1, h2, h3, h4, h5, h6⟩ := ih
    have hlt : U.heap.size < (mgS U cA cI i).heap.size := by omega
    have hb : ((mgS U cA cI i).pushCell (mgI cI)).heap[U.heap.size]? = some (mgO cA U.heap.size i) := by rw [State.heap_pushCell_of_lt _ _ hlt]; exact h2
    refine ⟨?_, State.heap_setCell_self hb, by simp [mgS, h3], ?_, fun a ha => ?_, fun j hj => ?_⟩
    · show (((mgS U cA cI i).pushCell (mgI cI)).setCell U.heap.size _).heap.size = _
      simp [State.setCell, h1]; omega
    · show (((mgS U cA cI i).pushCell (mgI cI)).setCell U.heap.size _).slotsUsed = _
      simp [State.setCell, h4, mgI, arrV]; omega
    · show (((mgS U cA cI i).pushCell (mgI cI)).setCell U.heap.size _).heap[a]? = _
      rw [State.heap_setCell_other (Nat.ne_of_gt ha), State.heap_pushCell_of_lt _ _ (show a < (mgS U cA cI i).heap.size by omega)]
      exact h5 a ha
    · show (((mgS U cA cI i).pushCell (mgI cI)).setCell U.heap.size _).heap[U.heap.size + 1 + j]? = _
      rw [State.heap_setCell_other (show U.heap.size ≠ U.heap.size + 1 + j by omega)]
      rcases Nat.lt_or_ge j i with q | q
      · rw [State.heap_pushCell_of_lt _ _ (show U.heap.size + 1 + j < (mgS U cA cI i).heap.size by omega)]
        exact h6 j q
      · have e : j = i := by omega
        rw [e, ← h1]
        exact State.heap_pushCell_size _ _
theorem mgS_top (U : State) (f : JFrame) (cA cI : ClassId) (i : Nat) : mgS (U.setTop f) cA cI i = (mgS U cA cI i).setTop f := by
  induction i with
  | zero => rfl
  | succ i ih => simp only [mgS, ih, State.heap_setTop, State.pushCell_setTop, State.setCell_setTop]
section MG
variable {E : CtlPost} {e : Env} {d : Bool} {acts : List Action} {s : State}
theorem mg_new {c comp : ClassId} {k : Class} {ty : FieldType} {n : Nat} {v : Value} (hk : s.vm.classes[c]? = some k) (hkind : k.kind = .array comp ty) (h1 : ¬ n > e.platform.arrayLengthLimit) (h2 : ¬ n * componentBytes ty > e.platform.maxHeapBytes) (hf : fits ty v = true) (hv : v.isDefault = true) (h3 : s.heap.size < e.platform.maxCells) (h4 : s.slotsUsed + n ≤ e.platform.maxSlots) {Q : Addr → Pre} (hq : Q s.heap.size d acts (s.pushCell (arrV c n (fun _ => v)))) : wp (Jvm.newArray c n v) Q E e d acts s := by
  have g1 : ∀ i w, (Array.replicate n v)[i]? = some w → s.fitsSlot c .none i w = true := by
    intro i w hw
    rw [Array.getElem?_replicate] at hw
    split at hw
    · cases hw
      simp [State.fitsSlot, State.slotType?, hk, hkind, hf]
    · cases hw
  have g2 : allocActs (Array.replicate n v) s.heap.size acts = acts := by
    have g3 : ((Array.replicate n v).all (·.isDefault)) = true := by
      rw [Array.all_replicate]
      split <;> simp [hv]
    unfold allocActs
    rw [if_pos g3]
  rw [← arrV_new] at hq
  simp only [Jvm.newArray, Jvm.arrayFits, wp_bind', W.ask, W.ite, h1, if_false, wp_pure', W.theClass, hk, hkind, h2, W.alloc, W.stop, Option.some.injEq, exists_eq_left', Array.size_replicate, g2]
  rw [if_neg (by omega)]
  exact ⟨h3, h4, g1, hq⟩
theorem mg_in {cI cc : ClassId} {kI : Class} (hk : s.vm.classes[cI]? = some kI) (hkind : kI.kind = .array cc .int) (h1 : ¬ 8 > e.platform.arrayLengthLimit) (h2 : ¬ 8 * componentBytes .int > e.platform.maxHeapBytes) (h3 : s.heap.size < e.platform.maxCells) (h4 : s.slotsUsed + 8 ≤ e.platform.maxSlots) {Q : Addr → Pre} (hq : Q s.heap.size d acts (s.pushCell (mgI cI))) : wp (multianewarray.make cI [8]) Q E e d acts s := by
  rw [multianewarray.make]
  simp only [wp_bind', W.ite, show ¬ ((8 : Int32) < 0) from by decide, if_false, wp_pure', W.theClass, hk, hkind, Option.some.injEq, exists_eq_left']
  exact mg_new hk hkind h1 h2 rfl rfl h3 h4 hq
theorem mg_all {cA cI cc : ClassId} {kA kI : Class} (hkA : s.vm.classes[cA]? = some kA) (hA : kA.kind = .array cI (.array .int)) (hkI : s.vm.classes[cI]? = some kI) (hI : kI.kind = .array cc .int) (h1 : ¬ 8 > e.platform.arrayLengthLimit) (h2 : ¬ 32 > e.platform.maxHeapBytes) (h3 : s.heap.size + 8 ≤ e.platform.maxCells) (h4 : s.slotsUsed + 63 ≤ e.platform.maxSlots) {Q : Addr → Pre} (hq : ∀ d' acts', Q s.heap.size d' acts' (mgS s cA cI 7)) : wp (multianewarray.make cA [7, 8]) Q E e d acts s := by
  rw [multianewarray.make]
  simp only [wp_bind', W.ite, show ¬ ((7 : Int32) < 0) from by decide, if_false, wp_pure', W.theClass, hkA, hA, Option.some.injEq, exists_eq_left']
  refine mg_new (n := 7) hkA hA (by omega) (by show ¬ 7 * 4 > _; omega) rfl rfl (by omega) (by omega) ?_
  rw [show ((7 : Int32) == 0) = false from by decide]
  simp only [Bool.false_eq_true, if_false]
  rw [wp_bind', Std.Legacy.Range.forIn_eq_forIn_range']
  show wp (forIn (List.range' 0 7 1) PUnit.unit _) _ E e d acts _
  refine wp_forIn_inv (fun rest s' => ∃ i, i ≤ 7 ∧ rest = List.range' i (7 - i) ∧ s' = mgS s cA cI i) _ _ ⟨0, by omega, rfl, ?_⟩ ?_ ?_
  · show _ = s.pushCell (mgO cA s.heap.size 0)
    unfold mgO mgF
    congr 2
  · rintro x rest s' d' acts' Q' ⟨i, hi, hl, rfl⟩ hn
    have hlt : i < 7 := by
      rcases Nat.lt_or_ge i 7 with q | q
      · exact q
      · rw [show 7 - i = 0 from by omega] at hl
        simp at hl
    rw [show 7 - i = (7 - (i + 1)) + 1 from by omega, List.range'_succ] at hl
    obtain ⟨rfl, hr⟩ := List.cons.inj hl
    obtain ⟨f1, f2, f3, f4, f5, f6⟩ := mgS_facts s cA cI x
    simp only [wp_bind']
    refine mg_in (by rw [f3]; exact hkI) hI h1 (by show ¬ 8 * 4 > _; omega) (by omega) (by omega) ?_
    simp only [wp_bind', W.writeLoc, wp_pure']
    refine ⟨mgO cA s.heap.size x, by rw [State.heap_pushCell_of_lt _ _ (show s.heap.size < (mgS s cA cI x).heap.size by omega)]; exact f2, by simp [mgO, arrV], by rw [mgO, arrV_size]; exact hlt, ?_, hn _ _ _ ⟨x + 1, hlt, hr, ?_⟩⟩
    · show State.fitsSlot _ cA .none x _ = true
      simp [State.fitsSlot, State.slotType?, f3, hkA, hA, fits]
    · rw [f1, mgO_next]
      rfl
  · rintro s' d' acts' ⟨i, hi, hl, rfl⟩
    have hi7 : i = 7 := by
      rcases Nat.lt_or_ge i 7 with q | q
      · rw [show 7 - i = (7 - (i + 1)) + 1 from by omega, List.range'_succ] at hl
        cases hl
      · omega
    subst hi7
    simp only [wp_pure']
    exact hq _ _
end MG
theorem mg_stand {p : Program} {l : Launch} {e : Env} {R : Room} {s : State} {m : MethodId} {args : Array Value} {below : List Frame} {meth : Method} {c : Code} {U : State} {locs : List Loc} {cells slots : Nat} (X : Stand p l e R s m args below meth c U locs cells slots) (cA cI : ClassId) (i : Nat) :
    Stand p l e R s m args below meth c (mgS U cA cI i) (locs ++ (List.range i).map fun j => ⟨U.heap.size, j⟩) (cells + 1 + i) (slots + 7 + i * 8) := by
  induction i with
  | zero =>
    have q := X.pushed (mgO cA U.heap.size 0)
    rw [show (mgO cA U.heap.size 0).slots.size = 7 from arrV_size _ _ _] at q
    simpa [mgS] using q
  | succ i ih =>
    obtain ⟨f1, f2, f3, f4, f5, f6⟩ := mgS_facts U cA cI i
    have hc : ((mgS U cA cI i).pushCell (mgI cI)).heap[U.heap.size]? = some (mgO cA U.heap.size i) := by rw [State.heap_pushCell_of_lt _ _ (show U.heap.size < (mgS U cA cI i).heap.size by omega)]; exact f2
    have q := (ih.pushed (mgI cI)).stored hc i (.ref (U.heap.size + 1 + i))
    rw [mgO_next, show (mgI cI).slots.size = 8 from arrV_size _ _ _] at q
    have e2 : (locs ++ (List.range (i + 1)).map fun j => (⟨U.heap.size, j⟩ : Loc)) = (locs ++ (List.range i).map fun j => (⟨U.heap.size, j⟩ : Loc)) ++ [⟨U.heap.size, i⟩] := by simp [List.range_succ, List.append_assoc]
    have e3 : slots + 7 + (i + 1) * 8 = slots + 7 + i * 8 + 8 := by omega
    rw [e2, e3]
    exact q
def mgN (b a : Nat) : Bool := Nat.ble b a && Nat.ble a (b + 7)
def uM (h : Hp) : Hp := (hN h + 8, (fun a => if a = hN h then some (.inr (6, 7)) else if mgN (hN h) a = true then some (.inr (0, 8)) else hS h a), ((hB h).1 - 8, (hB h).2 - 63), (fun a k => if mgN (hN h) a = true then 0 else hI h a k), (fun a k => if mgN (hN h) a = true then 0 else hL h a k), (fun a k => if mgN (hN h) a = true then (if a = hN h ∧ k < 7 then some (hN h + 1 + k) else none) else hR h a k))
theorem mgN_iff {b a : Nat} : mgN b a = true ↔ b ≤ a ∧ a ≤ b + 7 := by
  unfold mgN
  rw [Bool.and_eq_true, Nat.ble_eq, Nat.ble_eq]
theorem Rf.multi {G : GG} {h : Hp} {H H1 : Heap} (hR : Rf G h H) (z : H1.size = H.size + 8) (oq : ∀ q : Nat, q < H.size → H1[q]? = H[q]?) (ho : H1[H.size]? = some (mgO (gA G 6) H.size 7)) (hi : ∀ j, j < 7 → H1[H.size + 1 + j]? = some (mgI (gA G 0))) : Rf G (uM h) H1 := by
  have hR0 := hR
  obtain ⟨r1, r2, r3, r4, r5⟩ := hR
  have eS : ∀ q, q < H.size → hS (uM h) q = hS h q := fun q hq => by
    show (if q = hN h then _ else if mgN (hN h) q = true then _ else _) = _
    rw [if_neg (by omega), if_neg (by rw [mgN_iff]; omega)]
  refine ⟨by show hN h + 8 = _; rw [r1, z], by omega, fun q hq => ⟨by rw [oq q (by omega)]; exact (r3 q hq).1, by rw [eS q (by omega)]; exact (r3 q hq).2⟩, fun q => ?_, fun q cell hq hcell => ?_⟩
  rotate_left
  · by_cases hl : q < H.size
    · rw [oq q hl] at hcell
      exact r5 q cell hq hcell
    · have hl2 := (Array.getElem?_eq_some_iff.mp hcell).1
      by_cases e : q = H.size
      · rw [e, ho] at hcell
        cases hcell
        rfl
      · have e2 : q = H.size + 1 + (q - H.size - 1) := by omega
        rw [e2, hi _ (by omega)] at hcell
        cases hcell
        rfl
  by_cases hl : q < H.size
  · have hn : ¬ mgN (hN h) q = true := by rw [mgN_iff]; omega
    exact (r4 q).same (eS q hl) ⟨fun k => if_neg hn, fun k => if_neg hn, fun k => if_neg hn⟩ (oq q hl)
  · by_cases e : q = hN h
    · subst e
      unfold cellOK
      rw [show hS (uM h) (hN h) = some (.inr (6, 7)) from if_pos rfl]
      show H1[hN h]? = _
      rw [r1, ho]
      unfold mgO
      congr 2
      funext j
      show mgF H.size 7 j = va_rf (if mgN (hN h) H.size = true then (if H.size = hN h ∧ j < 7 then some (hN h + 1 + j) else none) else hR h H.size j)
      rw [if_pos (by rw [mgN_iff]; omega)]
      unfold mgF
      by_cases hj : j < 7
      · rw [if_pos hj, if_pos ⟨r1.symm, hj⟩, r1]
        rfl
      · rw [if_neg hj, if_neg (fun q => hj q.2)]
        rfl
    · by_cases hn : mgN (hN h) q = true
      · have hq := mgN_iff.mp hn
        unfold cellOK
        rw [show hS (uM h) q = some (.inr (0, 8)) by
          show (if q = hN h then _ else if mgN (hN h) q = true then _ else _) = _
          rw [if_neg e, if_pos hn]]
        show H1[q]? = _
        have e2 : q = H.size + 1 + (q - H.size - 1) := by omega
        rw [e2, hi _ (by omega), ← e2]
        unfold mgI
        congr 2
        funext j
        show Value.int 0 = Value.int (if mgN (hN h) q = true then 0 else hI h q j)
        rw [if_pos hn]
      · unfold cellOK
        rw [show hS (uM h) q = hS h q by
          show (if q = hN h then _ else if mgN (hN h) q = true then _ else _) = _
          rw [if_neg e, if_neg hn]]
        cases hq : hS h q with
        | none => trivial
        | some y => exact absurd (hR0.lt hq) hl
theorem r_multi {G : GG} {M : MI} {d : Nat} {α : Type} {cv : α → Option Value} {pc : Nat} {ls : List (Nat × Value)} {st : List Value} {h : Hp} {KN : Nat → Hp → Option (α × Hp)} {i : Nat} (hd : decode (mB M) pc = .ok (.multianewarray i 2, 4)) (w1 : Lk (.classLink (mY M).cls i "[[I")) (w2 : Cond.arrayOver (.array .int) ∈ lw_tbl) (w3 : Lk (.arrayClass .int)) (kk : ∀ a h1, T G M d cv (pc + 4) ls (.ref a :: st) h1 (KN a h1)) : T G M d cv pc ls (.int 8 :: .int 7 :: st) h (gd (8 ≤ (hB h).1 ∧ 63 ≤ (hB h).2) (lt (hN h) fun a => lt (uM h) (KN a))) := by
  intro r h' hF
  obtain ⟨hP, hF⟩ := gd_some hF
  obtain ⟨hb, k2⟩ := kk _ _ r h' hF
  have q1 : (hB (uM h)).1 = (hB h).1 - 8 := rfl
  have q2 : (hB (uM h)).2 = (hB h).2 - 63 := rfl
  rw [q1, q2] at hb k2
  refine ⟨⟨by omega, by omega⟩, fun p l e R s m args below meth c H locs cells slots Q ls0 C lf h1 h2 hRf hSv hl hret => ?_⟩
  intro U hU X
  have hpl : e.platform.magicAccessors = ({} : Platform).magicAccessors := by rw [X.admits.platform]
  obtain ⟨U0, args0, g1, -, -, g2⟩ := C.2.2.2.2.2.1.2.2.2.2.2.2.2.2.2.2
  have hover : (Cond.arrayOver (.array .int)).before args s = true := over_moved g1.alike (g2 _ w2)
  obtain ⟨comp, cA, kA, hcomp, -, hkA, hkindA, hnameA⟩ := arrayOverA_spec hover
  obtain ⟨comp', kI, cc, hcomp', hkI, hkindI⟩ := Cond.arrayClass_spec (C.lk w3 args)
  have e1 : comp' = comp := Option.some.inj (hcomp'.symm.trans hcomp)
  subst e1
  have eA : cA = gA G 6 := Option.some.inj (hnameA.symm.trans (C.ara (t := 6) rfl))
  have eI : comp' = gA G 0 := Option.some.inj (hcomp'.symm.trans (C.ara (t := 0) rfl))
  obtain ⟨c0, hfc0, hcl⟩ := Cond.classLink_spec C.2.2.2.1 (C.lk w1 args) e.platform hpl
  have ec : c0 = cA := Option.some.inj (hfc0.symm.trans hnameA)
  subst ec
  obtain ⟨hg₁, hwarm₁, hready₁⟩ := State.classEntry (e := e) X.warmed hcl
  generalize U.vm.noted m.cls i (.cls c0) = vm₁ at hg₁ hwarm₁ hready₁
  have hal : s.vm.Alike vm₁ := hwarm₁.alike
  obtain ⟨kA₁, hkA₁, heA⟩ := hal.2.2 _ _ hkA
  obtain ⟨kI₁, hkI₁, heI⟩ := hal.2.2 _ _ hkI
  have X₁ := X.noted hwarm₁
  obtain ⟨hr1, hr2⟩ := X.roomAbove (a := 8) (b := 63) (by omega) (by omega)
  have XF := mg_stand X₁ c0 comp' 7
  obtain ⟨f1, f2, f3, f4, f5, f6⟩ := mgS_facts (U.setVm vm₁) c0 comp' 7
  have hz : (U.setVm vm₁).heap.size = H.size := by rw [← hU]; rfl
  have hRm : Rf G (uM h) (mgS (U.setVm vm₁) c0 comp' 7).heap := by
    refine hRf.multi (by rw [f1, hz]) (fun q hq => by rw [f5 q (by rw [hz]; exact hq)]; show U.heap[q]? = _; rw [hU]) (by rw [← hz, f2, eA]) (fun j hj => by rw [← hz, f6 j hj, eI])
  obtain ⟨t, a1, b1⟩ := k2 p l e R s m args below meth c _ (locs ++ (List.range 7).map fun j => ⟨(U.setVm vm₁).heap.size, j⟩) (cells + 1 + 7) (slots + 7 + 7 * 8) Q ls0 C lf (by omega) (by omega) hRm
    ⟨Nat.le_trans hSv.1 (by rw [f1, hz]; omega), fun q g1 g2 => by
      have hq : q < H.size := Nat.lt_of_lt_of_le g1 hSv.1
      rw [f5 q (by rw [hz]; exact hq)]
      show U.heap[q]? = _
      rw [hU]
      exact hSv.2.1 q g1 g2, fun q hq => by
      rcases List.mem_append.mp hq with g | g
      · exact hSv.2.2 q g
      · obtain ⟨j, -, rfl⟩ := List.mem_map.mp g
        show (gH G).size ≤ (U.setVm vm₁).heap.size
        rw [hz]
        exact hRf.2.1⟩ hl hret _ rfl XF
  refine ⟨t, ?_, b1⟩
  have hdc : decode c.code pc = .ok (.multianewarray i 2, 4) := by rw [C.2.1]; exact hd
  have hl2 : ¬ 8 > e.platform.arrayLengthLimit := by rw [Launch.admits_arrayLengthLimit X.admits]; omega
  have hh2 : ¬ 32 > e.platform.maxHeapBytes := by rw [Launch.admits_maxHeapBytes X.admits]; omega
  jvm_step X.here [C.1, hdc]
  simp only [multianewarray.sem, wp_bind', W.resolveClassAt_links (State.method?_setTop (F0 m pc ls0 (.int 8 :: .int 7 :: st)) X.here.top) hg₁]
  rw [W.popN, if_neg (by decide)]
  refine ⟨F0 m pc ls0 (.int 8 :: .int 7 :: st), State.topJava?_setTop' (s := U.setVm vm₁) _ X.here.top, [.int 7, .int 8], st, rfl, rfl, ?_⟩
  simp only [List.mapM_cons, List.mapM_nil, wp_bind', wp_pure']
  refine mg_all (kA := kA₁) (kI := kI₁) (cI := comp') (cc := cc) hkA₁ (by rw [heA]; exact hkindA) hkI₁ (by rw [heI]; exact hkindI) hl2 hh2 (by show U.heap.size + 8 ≤ _; omega) (by show U.slotsUsed + 63 ≤ _; omega) (fun d' acts' => ?_)
  have eS : ((U.setTop (F0 m pc ls0 (.int 8 :: .int 7 :: st))).setVm vm₁).setTop { F0 m pc ls0 (.int 8 :: .int 7 :: st) with stack := st } = (U.setVm vm₁).setTop { F0 m pc ls0 (.int 8 :: .int 7 :: st) with stack := st } := by
    show ((U.setVm vm₁).setTop _).setTop _ = _
    rw [State.setTop_setTop]
  rw [eS, mgS_top]
  simp only [wp_bind', W.mark, W.pushRef, State.topJava?_setTop' _ XF.here.top, Option.some.injEq, exists_eq_left', State.setTop_setTop, State.heap_setTop]
  intro acts
  simp [jvm, XF.here.top]
  rw [hU, ← hRf.1]
  exact a1
