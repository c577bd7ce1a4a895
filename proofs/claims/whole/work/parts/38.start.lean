/-! THE CLAIM OUT OF ONE WALK OF THE LAW'S BODY. Your part is whole_start (and what it stands on); all else here is the same for every law, but numbers. -/
def R_law : String := "BrassYearLaw"
def lw_P (b : Addr) (xs : List Int32) (args : Array Value) (s : State) : Prop := args = #[.ref b] ∧ s.IntsAt b xs ∧ xs.length ≤ 3072 ∧ (Jvm.Cond.and given_1 narrow_1).before args s = true
def lw_Q (_ : Array Value) (s : State) (o : Outcome) (t : State) : Prop := o = .returned (some (.int 1)) ∧ Framed s o t [] 601024 7293034
def lw_Z (below : List Frame) (a : Array Value) (s : State) : State → Prop := fun t => ∃ o, t.status = .running ∧ Ended t below o ∧ lw_Q a s o t
/-- the law's own end, with 1 on the stack, nothing written that was there before, its room as the claim has it -/
theorem lw_ret {p : Program} {l : Launch} {e : Env} {s : State} {m : MethodId} {below : List Frame} {meth : Method} {c : Code} {b : Nat} (hx : p.tables.exec = Jvm.exec) (hb : c.code = code) (hr : meth.sig.returnType = ret) (hlocks : meth.locks = false) {pc : Nat} {H : Heap} {ls : Array Slot} (hdg : decode code pc = .ok (.ireturn, 1)) : W p l e room_1 s m #[Value.ref b] below meth c H [] 601024 7293034 (lw_Z below #[Value.ref b] s) (F0 m pc ls [.int 1]) := by
  intro T hT X
  obtain ⟨fs, hret, hrun, hended, hW, hframe⟩ := X.leave (v := some (.int 1)) (hlocks := hlocks) (fun h => by rw [hr] at h; cases h)
  have hmeth' : T.vm.method? m = some meth := X.method'
  refine ⟨T.setFrames fs, ?_, .returned (some (.int 1)), hrun, hended, rfl, ⟨_, rfl⟩, hW, hframe⟩
  jvm_step X.here [X.here.top, hx, hb, hdg, hmeth', hr, ret, narrow_b1]
  (try refine ⟨rfl, ?_⟩); (try refine ⟨rfl, ?_⟩)
  first | (intro acts; rw [hret _ acts rfl rfl rfl]) | rw [hret _ _ rfl rfl rfl]
  exact Steps.refl _
/-- what holds at the law's entry: the machine, the code, the tables' words (any of lw_tbl by 'hts w (by decide +kernel)'), the script of L ints xs at the cell b, what the Statement gives of the start (any of its parts by flat_of_before) -/
def lw_At (p : Program) (s : State) (m : MethodId) (meth : Method) (c : Code) (b L : Nat) (xs : Nat → Int32) : Prop :=
  p.tables.exec = Jvm.exec ∧ c.code = code ∧ meth.sig.returnType = ret ∧ c.maxLocals = 7 ∧ s.vm.findClass R_law = some m.cls ∧ (∀ w ∈ lw_tbl, w.before #[Value.ref b] s = true) ∧ va_X b L xs s s.heap ∧ b < s.heap.size ∧ meth.locks = false ∧ (Jvm.Cond.and given_1 narrow_1).before #[Value.ref b] s = true ∧ meth.name = "law"
-- ===== YOUR PART BEGINS =====
/-- the abstract heap at the law's entry: nothing is known, all the room is left -/
def hp0 (n : Nat) : Hp := (n, (fun _ => none), (601024, 7293034), (fun _ _ => 0), (fun _ _ => 0), (fun _ _ => none))
/-- what the law computes, and nothing of the machine -/
def LawPure : Prop := ∀ (n L : Nat) (xs : Nat → Int32), L ≤ 3072 → ∃ h' : Hp, f_Law_law L xs (hp0 n) = some (1, h')
def stm (i : Nat) : Term := .string (strs.getD i ("", 0, "")).1 (strs.getD i ("", 0, "")).2.1
abbrev flN : List Cond := flatC (Jvm.Cond.and given_1 narrow_1)
theorem fl_ex : ∀ i, i < 24 → Cond.exactly (stm i) "java/lang/String" ∈ flN := by decide +kernel
theorem fl_co : ∀ i, i < 24 → Cond.eq (.field (stm i) "java/lang/String" "coder" "B") (.int 0) ∈ flN := by decide +kernel
theorem fl_ar : ∀ i, i < 24 → Cond.arrayOf (.field (stm i) "java/lang/String" "value" "[B") .byte ∈ flN := by decide +kernel
theorem fl_le : ∀ i, i < 24 → Cond.eq (.length (.field (stm i) "java/lang/String" "value" "[B")) (.int (Int32.ofNat (slen.getD i 0))) ∈ flN := by decide +kernel
theorem fl_el : ∀ i, i < 24 → ∀ j, j < slen.getD i 0 → Cond.eq (.elem (.field (stm i) "java/lang/String" "value" "[B") (.int (Int32.ofNat j))) (.int ((sbyt.getD i []).getD j 0)) ∈ flN := by decide +kernel
def neB : List Nat := [0, 90, 98, 109, 121, 133, 147, 161, 175, 194, 213, 233, 254, 274, 298, 320, 344, 366, 389, 416, 444, 473, 502, 531]
theorem fl_ne0 : ∀ i, i < 24 → (flN.drop (neB.getD i 0)).take i = (List.range i).map (fun j => Cond.not (Cond.eq (stm j) (stm i))) := by decide +kernel
theorem fl_ne (i : Nat) (hi : i < 24) (j : Nat) (hj : j < i) : Cond.not (Cond.eq (stm j) (stm i)) ∈ flN := by
  have h : Cond.not (Cond.eq (stm j) (stm i)) ∈ (flN.drop (neB.getD i 0)).take i := by
    rw [fl_ne0 i hi]
    exact List.mem_map.mpr ⟨j, List.mem_range.mpr hj, rfl⟩
  exact List.mem_of_mem_drop (List.mem_of_mem_take h)
theorem fl_cs : Cond.eq (.static "java/lang/String" "COMPACT_STRINGS" "Z") (.int 1) ∈ flN := by decide +kernel
theorem fl_fm : Cond.isRef (.static "jdk/internal/util/Preconditions" "SIOOBE_FORMATTER" "Ljava/util/function/BiFunction;") ∈ flN := by decide +kernel
theorem st_len : strs.length = 24 := by decide
theorem st_wd : ∀ i, i < 24 → Cond.stringRef (strs.getD i ("", 0, "")).1 (strs.getD i ("", 0, "")).2.1 (strs.getD i ("", 0, "")).2.2 ∈ lw_tbl := by decide +kernel
theorem tb_cs : Cond.laysStatic "java/lang/String" "COMPACT_STRINGS" "Z" ∈ lw_tbl := by decide +kernel
theorem tb_cs2 : Cond.initialized "java/lang/String" ∈ lw_tbl := by decide +kernel
theorem tb_fm : Cond.laysStatic "jdk/internal/util/Preconditions" "SIOOBE_FORMATTER" "Ljava/util/function/BiFunction;" ∈ lw_tbl := by decide +kernel
theorem tb_fm2 : Cond.initialized "jdk/internal/util/Preconditions" ∈ lw_tbl := by decide +kernel
theorem slen_31 : ∀ i, i < 24 → slen.getD i 0 < 2 ^ 31 := by decide +kernel
theorem cl_known {s : State} {args : Array Value} (hts : ∀ w ∈ lw_tbl, w.before args s = true) : ∀ (c : Nat) (q : vw_C), classes[c]? = some q → ∃ (cC : ClassId) (iS : Nat → Nat), u_Kn s q.1 q.2.1 q.2.2 cC iS := by
  intro c q hq
  match c, hq with
  | 0, hq => cases hq; exact u_known hts (cl_in 0 _ rfl) (hts (.instantiable "BrassYear" 16) (List.mem_of_getElem? (i := 149) (by decide +kernel)))
  | 1, hq => cases hq; exact u_known hts (cl_in 1 _ rfl) (hts (.instantiable "BrassYear$Reader" 16) (List.mem_of_getElem? (i := 157) (by decide +kernel)))
  | 2, hq => cases hq; exact u_known hts (cl_in 2 _ rfl) (hts (.instantiable "BrassYear$Orrery" 16) (List.mem_of_getElem? (i := 216) (by decide +kernel)))
  | 3, hq => cases hq; exact u_known hts (cl_in 3 _ rfl) (hts (.instantiable "BrassYear$Wheel" 6) (List.mem_of_getElem? (i := 223) (by decide +kernel)))
  | 4, hq => cases hq; exact u_known hts (cl_in 4 _ rfl) (hts (.instantiable "BrassYear$Past" 5) (List.mem_of_getElem? (i := 356) (by decide +kernel)))
  | 5, hq => cases hq; exact u_known hts (cl_in 5 _ rfl) (hts (.instantiable "BrassYear$Calendar" 9) (List.mem_of_getElem? (i := 380) (by decide +kernel)))
  | 6, hq => cases hq; exact u_known hts (cl_in 6 _ rfl) (hts (.instantiable "BrassYear$Course" 8) (List.mem_of_getElem? (i := 389) (by decide +kernel)))
  | 7, hq => cases hq; exact u_known hts (cl_in 7 _ rfl) (hts (.instantiable "BrassYear$WorkOrder" 6) (List.mem_of_getElem? (i := 450) (by decide +kernel)))
  | 8, hq => cases hq; exact u_known hts (cl_in 8 _ rfl) (hts (.instantiable "BrassYear$Suspicion" 8) (List.mem_of_getElem? (i := 478) (by decide +kernel)))
  | 9, hq => cases hq; exact u_known hts (cl_in 9 _ rfl) (hts (.instantiable "BrassYear$Game" 4) (List.mem_of_getElem? (i := 515) (by decide +kernel)))
  | 10, hq => cases hq; exact u_known hts (cl_in 10 _ rfl) (hts (.instantiable "BrassYear$Chances" 4) (List.mem_of_getElem? (i := 537) (by decide +kernel)))
  | 11, hq => cases hq; exact u_known hts (cl_in 11 _ rfl) (hts (.instantiable "BrassYearModel" 36) (List.mem_of_getElem? (i := 1395) (by decide +kernel)))
  | 12, hq => cases hq; exact u_known hts (cl_in 12 _ rfl) (hts (.instantiable "BrassYearModel$Orrery" 27) (List.mem_of_getElem? (i := 1526) (by decide +kernel)))
  | c + 13, hq => simp [classes] at hq
theorem ar_prim {s : State} {args : Array Value} {ty : FieldType} (h : (Cond.arrayClass ty).before args s = true) : ∃ cA, ArrOfT s cA ty ∧ s.vm.findClass ("[" ++ ty.toString) = some cA := by
  obtain ⟨c, k, comp, h1, h2, h3⟩ := Cond.arrayClass_spec h
  exact ⟨c, fun N z => ⟨fun k h => (by cases h), k, h2, comp, h3⟩, h1⟩
theorem ar_obj {s : State} {args : Array Value} {C : String} (h : (Cond.arrayOver (.object C)).before args s = true) : ∃ cA, ArrOfT s cA (.object C) ∧ va_RA s cA (.object C) := by
  obtain ⟨comp, c, k, h1, -, h2, h3, h4⟩ := Cond.arrayOver_spec h
  exact ⟨c, fun N z => ⟨fun k h => (by cases h), k, h2, comp, h3⟩, k, comp, h2, h3, h1, h4⟩
theorem ar_arr {s : State} {args : Array Value} {t : FieldType} (h : (Cond.arrayOver (.array t)).before args s = true) : ∃ cA, ArrOfT s cA (.array t) ∧ va_RA s cA (.array t) := by
  obtain ⟨comp, c, k, h1, -, h2, h3, h4⟩ := arrayOverA_spec h
  exact ⟨c, fun N z => ⟨fun k h => (by cases h), k, h2, comp, h3⟩, h4⟩
theorem ar_known {s : State} {args : Array Value} (hts : ∀ w ∈ lw_tbl, w.before args s = true) : ∀ (t : Nat) (ty : FieldType), aTy[t]? = some ty → ∃ cA, ArrOfT s cA ty ∧ va_RA s cA ty := by
  intro t ty ht
  match t, ht with
  | 0, ht => cases ht; exact ar_prim (hts (.arrayClass .int) (List.mem_of_getElem? (i := 214) (by decide +kernel)))
  | 1, ht => cases ht; exact ar_prim (hts (.arrayClass .long) (List.mem_of_getElem? (i := 213) (by decide +kernel)))
  | 2, ht => cases ht; exact ar_prim (hts (.arrayClass .byte) (List.mem_of_getElem? (i := 212) (by decide +kernel)))
  | 3, ht => cases ht; exact ar_prim (hts (.arrayClass .boolean) (List.mem_of_getElem? (i := 265) (by decide +kernel)))
  | 4, ht => cases ht; exact ar_obj (hts _ lko_W)
  | 5, ht => cases ht; exact ar_obj (hts _ lko_U)
  | 6, ht => cases ht; exact ar_arr (hts _ lko_aI)
  | t + 7, ht => simp [aTy] at ht
/-- the ground at the law's entry -/
theorem kg_start {s : State} {b L : Nat} {xs : Nat → Int32} (hts : ∀ w ∈ lw_tbl, w.before #[Value.ref b] s = true) (hX : va_X b L xs s s.heap) (hbl : b < s.heap.size) (hgv : (Jvm.Cond.and given_1 narrow_1).before #[Value.ref b] s = true) : ∃ G : GG, KG G s ∧ gH G = s.heap ∧ gX G = (b, L, xs) := by
  have hfl := flat_of_before _ hgv
  have c1 : ∀ c : Nat, ∃ r : ClassId × (Nat → Nat), ∀ q : vw_C, classes[c]? = some q → u_Kn s q.1 q.2.1 q.2.2 r.1 r.2 := by
    intro c
    cases hc : classes[c]? with
    | none => exact ⟨(0, fun _ => 0), fun q hq => by cases hq⟩
    | some q =>
      obtain ⟨cC, iS, hk⟩ := cl_known hts c q hc
      exact ⟨(cC, iS), fun q' hq' => by cases hq'; exact hk⟩
  obtain ⟨fc, hfc⟩ := Classical.axiomOfChoice c1
  have c2 : ∀ t : Nat, ∃ cA : ClassId, ∀ ty : FieldType, aTy[t]? = some ty → ArrOfT s cA ty ∧ va_RA s cA ty := by
    intro t
    cases ht : aTy[t]? with
    | none => exact ⟨0, fun q hq => by cases hq⟩
    | some ty =>
      obtain ⟨cA, hk⟩ := ar_known hts t ty ht
      exact ⟨cA, fun q' hq' => by cases hq'; exact hk⟩
  obtain ⟨fa, hfa⟩ := Classical.axiomOfChoice c2
  have hA : ∀ a : Nat, a < s.heap.size → ¬ (fun q : Nat => s.heap.size ≤ q) a := fun a h1 h2 => Nat.not_le.mpr h1 h2
  obtain ⟨adK, adV, hS, hev⟩ := vk_Sof (args := #[Value.ref b]) (s := s) (N := 24) (tm := stm) (len := slen) (byt := sbyt) (A := fun q => s.heap.size ≤ q) slen_31 (fun i hi => hfl _ (fl_ex i hi)) (fun i hi => hfl _ (fl_co i hi)) (fun i hi => hfl _ (fl_ar i hi)) (fun i hi => hfl _ (fl_le i hi)) (fun i hi j hj => hfl _ (fl_el i hi j hj))
    (fun i j hi hj hne => by
      rcases Nat.lt_or_ge i j with q | q
      · exact Or.inl (hfl _ (fl_ne j hj i q))
      · exact Or.inr (hfl _ (fl_ne i hi j (by omega)))) hA
  refine ⟨(fun c => (fc c).1, fun c => (fc c).2, fa, s.heap, adK, (b, L, xs), adV), ⟨fun w hw hg a => word_at (State.WarmedH.refl s) (good_of_word hg) (hts w hw), fun w hw hn a => va_Nw.use (nest_tab hn) (va_Nw.of (nest_tab hn) (hts w hw)), fun c q hq => hfc c q hq, fun t ty ht => hfa t ty ht, Nat.lt_of_le_of_lt (Nat.zero_le b) hbl, ?_⟩, rfl, rfl⟩
  refine ⟨fun k q hq => ?_, hS, ⟨hX, hbl⟩, va_Zof (hts _ tb_cs) (hts _ tb_cs2) (va_eqt (hfl _ fl_cs)) hA, va_Zqof (hts _ tb_fm) (hts _ tb_fm2) (hfl _ fl_fm) hA, s, _, State.WarmedH.refl s, rfl, hgv, hts⟩
  have hk : k < 24 := by
    rw [← st_len]
    exact (List.getElem?_eq_some_iff.mp hq).1
  have e : strs.getD k ("", 0, "") = q := by rw [List.getD_eq_getElem?_getD, hq]; rfl
  have h1 := hts _ (st_wd k hk)
  have h2 := hev k hk
  unfold stm at h2
  rw [e] at h1 h2
  exact vk_R.of h1 h2
theorem rf_start {G : GG} {H : Heap} (e : gH G = H) : Rf G (hp0 H.size) H := by
  refine ⟨rfl, by rw [e]; exact Nat.le_refl _, fun a _ => ⟨by rw [e], rfl⟩, fun a => ?_, fun a cell ha hc => ?_⟩
  · show cellOK G (hp0 H.size) H a
    unfold cellOK
    rw [show hS (hp0 H.size) a = none from rfl]
    trivial
  · rw [e] at ha
    exact absurd (Array.getElem?_eq_some_iff.mp hc).1 (Nat.not_lt.mpr ha)
theorem whole_pure (hpure : LawPure) {p : Program} {e : Env} {s : State} {m : MethodId} {below : List Frame} {meth : Method} {c : Code} (l : Launch) (lf : l.flags = flags0) {b L : Nat} {xs : Nat → Int32} (hL : L ≤ 3072) (C0 : lw_At p s m meth c b L xs) : W p l e room_1 s m #[Value.ref b] below meth c s.heap [] 0 0 (lw_Z below #[Value.ref b] s) (entryFrame m ([Value.ref b] : List Value).toArray 7) := by
  obtain ⟨hx, hb, hr, hml, hown, hts, hX, hbl, hlocks, hgv, hname⟩ := C0
  obtain ⟨G, hK, eH, eX⟩ := kg_start hts hX hbl hgv
  obtain ⟨h', hF⟩ := hpure s.heap.size L xs hL
  have hT := tt_Law_law (G := G) (hp0 s.heap.size)
  rw [eX] at hT
  obtain ⟨hb2, kk⟩ := hT 1 h' hF
  have g1 : (hB (hp0 s.heap.size)).1 = 601024 := rfl
  have g2 : (hB (hp0 s.heap.size)).2 = 7293034 := rfl
  rw [g1, g2] at hb2 kk
  have hl := lv_entry ([Value.ref b]) (n := 7) (by show 1 ≤ 7; decide)
  rw [lg_entry_eq]
  refine W.widen (k := (hB h').1) (n := (hB h').2) (Nat.zero_le _) (Nat.zero_le _) ?_
  refine kk p l e room_1 s m #[Value.ref b] below meth c s.heap [] _ _ _ _ ⟨hx, hb, hml, hown, hname, hK, by show _ ≤ 2048; decide, by show _ ≤ 84000; decide, by rw [eH]; exact Nat.le_refl _⟩ lf (by show _ = 601024; omega) (by show _ = 7293034; omega) (rf_start eH) va_S.rf hl ?_
  intro H' locs' pc' ls' hz ho hR' hS' hd
  refine va_forget (fun q hq => ?_) (lw_ret hx hb hr hlocks hd)
  have h1 : (gH G).size ≤ q.base := hS'.2.2 q hq
  rw [eH] at h1
  exact h1
