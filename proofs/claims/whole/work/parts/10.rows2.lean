def ai (h : Hp) (a t : Nat) (i : Int32) : Prop := ∃ n, hS h a = some (.inr (t, n)) ∧ vp_in i n
def al (h : Hp) (a t : Nat) : Option Nat := match hS h a with
  | some (.inr (t', n)) => if t' = t then some n else none
  | _ => none
theorem al_some {h : Hp} {a t n : Nat} (e : al h a t = some n) : hS h a = some (.inr (t, n)) := by
  unfold al at e
  split at e
  · rename_i t' n' e2
    by_cases q : t' = t
    · rw [if_pos q] at e
      rw [e2, q, Option.some.inj e]
    · rw [if_neg q] at e
      cases e
  · cases e
def uC (h : Hp) (a0 a sp dp n : Nat) : Hp := (hN h, hS h, hB h, (fun b k => if b = a then va_cpy (hI h a0) (hI h a) sp dp n k else hI h b k), hL h, hR h)
def cpok (h : Hp) (a0 a : Nat) (sp dp n : Int32) : Prop := ∃ n0 n1, hS h a0 = some (.inr (0, n0)) ∧ hS h a = some (.inr (0, n1)) ∧ ¬ sp < 0 ∧ ¬ dp < 0 ∧ ¬ n < 0 ∧ sp.toNatClampNeg + n.toNatClampNeg ≤ n0 ∧ dp.toNatClampNeg + n.toNatClampNeg ≤ n1
section TB
variable {G : GG} {M : MI} {d : Nat} {α : Type} {cv : α → Option Value} {pc : Nat} {ls : List (Nat × Value)} {st : List Value} {h : Hp} {F F1 F2 : Option (α × Hp)} {KI : Int32 → Option (α × Hp)} {KL : Int64 → Option (α × Hp)} {KR : Nat → Option (α × Hp)} {KH : Hp → Option (α × Hp)} {KN : Nat → Hp → Option (α × Hp)}
theorem r_getI {i ci k a : Nat} (hd : decode (mB M) pc = .ok (.getfield i, 3)) (hf : FA (mY M).cls i ci k) (hk : kd ci k = 0) (kk : ∀ x, T G M d cv (pc + 3) ls (.int x :: st) h (KI x)) : T G M d cv pc ls (.ref a :: st) h (gd (hS h a = some (.inl ci)) (lt (hI h a k) KI)) := q_getI hd hf hk (kk _)
theorem r_getL {i ci k a : Nat} (hd : decode (mB M) pc = .ok (.getfield i, 3)) (hf : FA (mY M).cls i ci k) (hk : kd ci k = 1) (kk : ∀ x, T G M d cv (pc + 3) ls (.long x :: st) h (KL x)) : T G M d cv pc ls (.ref a :: st) h (gd (hS h a = some (.inl ci)) (lt (hL h a k) KL)) := q_getL hd hf hk (kk _)
theorem r_putI {i ci k a : Nat} {v : Int32} (hd : decode (mB M) pc = .ok (.putfield i, 3)) (hf : FP (mY M) i ci k) (hk : kd ci k = 0) (ht : cTYf ci k = .int) (kk : ∀ h1, T G M d cv (pc + 3) ls st h1 (KH h1)) : T G M d cv pc ls (.int v :: .ref a :: st) h (gd (hS h a = some (.inl ci)) (lt (uI h a k v) KH)) := q_putI hd hf hk ht (kk _)
theorem r_putZ {i ci k a : Nat} {v : Int32} (hd : decode (mB M) pc = .ok (.putfield i, 3)) (hf : FP (mY M) i ci k) (hk : kd ci k = 0) (ht : cTYf ci k = .boolean) (kk : ∀ h1, T G M d cv (pc + 3) ls st h1 (KH h1)) : T G M d cv pc ls (.int v :: .ref a :: st) h (gd (zb v ∧ hS h a = some (.inl ci)) (lt (uI h a k v) KH)) := q_putZ hd hf hk ht (kk _)
theorem r_putL {i ci k a : Nat} {v : Int64} (hd : decode (mB M) pc = .ok (.putfield i, 3)) (hf : FP (mY M) i ci k) (hk : kd ci k = 1) (ht : cTYf ci k = .long) (kk : ∀ h1, T G M d cv (pc + 3) ls st h1 (KH h1)) : T G M d cv pc ls (.long v :: .ref a :: st) h (gd (hS h a = some (.inl ci)) (lt (uL h a k v) KH)) := q_putL hd hf hk ht (kk _)
theorem r_putR {i ci k a v : Nat} (hd : decode (mB M) pc = .ok (.putfield i, 3)) (hf : FP (mY M) i ci k) (hk : kd ci k = 2) (ht : narrow (cTYf ci k) (.ref v) = .ref v) (ht2 : fits (cTYf ci k) (.ref v) = true) (kk : ∀ h1, T G M d cv (pc + 3) ls st h1 (KH h1)) : T G M d cv pc ls (.ref v :: .ref a :: st) h (gd (hS h a = some (.inl ci)) (lt (uR h a k (some v)) KH)) := q_putR hd hf hk ht ht2 (kk _)
theorem r_iald {a : Nat} {i : Int32} (hd : decode (mB M) pc = .ok (.iaload, 1)) (kk : ∀ x, T G M d cv (pc + 1) ls (.int x :: st) h (KI x)) : T G M d cv pc ls (.int i :: .ref a :: st) h (gd (ai h a 0 i) (lt (hI h a i.toNatClampNeg) KI)) := T.gd fun hP => by
  obtain ⟨n, h1, h2⟩ := hP
  exact T.un ⟨h1, h2⟩ (q_iald hd (kk _))
theorem r_bald {a : Nat} {i : Int32} (hd : decode (mB M) pc = .ok (.baload, 1)) (kk : ∀ x, T G M d cv (pc + 1) ls (.int x :: st) h (KI x)) : T G M d cv pc ls (.int i :: .ref a :: st) h (gd (ai h a 2 i) (lt (hI h a i.toNatClampNeg) KI)) := T.gd fun hP => by
  obtain ⟨n, h1, h2⟩ := hP
  exact T.un ⟨h1, h2⟩ (q_bald hd (kk _))
theorem r_zald {a : Nat} {i : Int32} (hd : decode (mB M) pc = .ok (.baload, 1)) (kk : ∀ x, T G M d cv (pc + 1) ls (.int x :: st) h (KI x)) : T G M d cv pc ls (.int i :: .ref a :: st) h (gd (ai h a 3 i) (lt (hI h a i.toNatClampNeg) KI)) := T.gd fun hP => by
  obtain ⟨n, h1, h2⟩ := hP
  exact T.un ⟨h1, h2⟩ (q_zald hd (kk _))
theorem r_lald {a : Nat} {i : Int32} (hd : decode (mB M) pc = .ok (.laload, 1)) (kk : ∀ x, T G M d cv (pc + 1) ls (.long x :: st) h (KL x)) : T G M d cv pc ls (.int i :: .ref a :: st) h (gd (ai h a 1 i) (lt (hL h a i.toNatClampNeg) KL)) := T.gd fun hP => by
  obtain ⟨n, h1, h2⟩ := hP
  exact T.un ⟨h1, h2⟩ (q_lald hd (kk _))
theorem r_aald {a : Nat} (t : Nat) {ty : FieldType} {i : Int32} (hd : decode (mB M) pc = .ok (.aaload, 1)) (ht : aTy[t]? = some ty) (hr : ty.isReference = true) (hv : ∀ j, aV t h a j = va_rf (hR h a j)) (kk : ∀ x, T G M d cv (pc + 1) ls (.ref x :: st) h (KR x)) : T G M d cv pc ls (.int i :: .ref a :: st) h (gd (ai h a t i) (bR (hR h a i.toNatClampNeg) KR)) := T.gd fun hP => by
  obtain ⟨n, h1, h2⟩ := hP
  exact T.un ⟨h1, h2⟩ (q_aald hd ht hr hv kk)
theorem r_iast {a : Nat} {i v : Int32} (hd : decode (mB M) pc = .ok (.iastore, 1)) (kk : ∀ h1, T G M d cv (pc + 1) ls st h1 (KH h1)) : T G M d cv pc ls (.int v :: .int i :: .ref a :: st) h (gd (ai h a 0 i) (lt (uI h a i.toNatClampNeg v) KH)) := T.gd fun hP => by
  obtain ⟨n, h1, h2⟩ := hP
  exact T.un ⟨h1, h2⟩ (q_iast hd (kk _))
theorem r_bast {a : Nat} {i v : Int32} (hd : decode (mB M) pc = .ok (.bastore, 1)) (kk : ∀ h1, T G M d cv (pc + 1) ls st h1 (KH h1)) : T G M d cv pc ls (.int v :: .int i :: .ref a :: st) h (gd (ai h a 2 i) (lt (uI h a i.toNatClampNeg v.toInt8.toInt32) KH)) := T.gd fun hP => by
  obtain ⟨n, h1, h2⟩ := hP
  exact T.un ⟨h1, h2⟩ (q_bast hd (kk _))
theorem r_zast {a : Nat} {i v : Int32} (hd : decode (mB M) pc = .ok (.bastore, 1)) (kk : ∀ h1, T G M d cv (pc + 1) ls st h1 (KH h1)) : T G M d cv pc ls (.int v :: .int i :: .ref a :: st) h (gd (zb v ∧ ai h a 3 i) (lt (uI h a i.toNatClampNeg v) KH)) := T.gd fun hP => by
  obtain ⟨hz, n, h1, h2⟩ := hP
  exact T.un ⟨hz, h1, h2⟩ (q_zast hd (kk _))
theorem r_last {a : Nat} {i : Int32} {v : Int64} (hd : decode (mB M) pc = .ok (.lastore, 1)) (kk : ∀ h1, T G M d cv (pc + 1) ls st h1 (KH h1)) : T G M d cv pc ls (.long v :: .int i :: .ref a :: st) h (gd (ai h a 1 i) (lt (uL h a i.toNatClampNeg v) KH)) := T.gd fun hP => by
  obtain ⟨n, h1, h2⟩ := hP
  exact T.un ⟨h1, h2⟩ (q_last hd (kk _))
theorem r_aast {a v ci : Nat} (t : Nat) {q : vw_C} {i : Int32} (hd : decode (mB M) pc = .ok (.aastore, 1)) (hq : classes[ci]? = some q) (ht : aTy[t]? = some (.object q.1)) (hv : ∀ (g : Hp) j, aV t g a j = va_rf (hR g a j)) (kk : ∀ h1, T G M d cv (pc + 1) ls st h1 (KH h1)) : T G M d cv pc ls (.ref v :: .int i :: .ref a :: st) h (gd (hS h v = some (.inl ci) ∧ ai h a t i) (lt (uR h a i.toNatClampNeg (some v)) KH)) := T.gd fun hP => by
  obtain ⟨hz, n, h1, h2⟩ := hP
  exact T.un ⟨hz, h1, h2⟩ (q_aast hd hq ht hv (kk _))
theorem r_alen {a : Nat} (t : Nat) {ty : FieldType} (hd : decode (mB M) pc = .ok (.arraylength, 1)) (ht : aTy[t]? = some ty) (kk : ∀ n, T G M d cv (pc + 1) ls (.int (Int32.ofNat n) :: st) h (KR n)) : T G M d cv pc ls (.ref a :: st) h (bR (al h a t) KR) := by
  intro r h' hF
  obtain ⟨n, hn, hF⟩ := bR_some hF
  exact T.un (al_some hn) (q_alen hd ht (kk n)) r h' hF
theorem r_new {i ci : Nat} {q : vw_C} (hd : decode (mB M) pc = .ok (.new i, 3)) (hq : classes[ci]? = some q) (w1 : Lk (.classLink (mY M).cls i q.1)) (w2 : Lk (.instantiable q.1 q.2.2)) (w3 : Lk (.initialized q.1)) (hdf : ∀ k, k < q.2.2 → defaultValue (cTYf ci k) = dfV (kd ci k)) (kk : ∀ a h1, T G M d cv (pc + 3) ls (.ref a :: st) h1 (KN a h1)) : T G M d cv pc ls st h (gd (1 ≤ (hB h).1 ∧ q.2.2 ≤ (hB h).2) (lt (hN h) fun a => lt (uN h (.inl ci) q.2.2) (KN a))) := q_new hd hq w1 w2 w3 hdf (kk _ _)
theorem r_newa {atype : ArrayType} {t : Nat} (N : Nat) {ty : FieldType} {n : Int32} (hd : decode (mB M) pc = .ok (.newarray atype, 2)) (hty : newarray.typeOf atype = ty) (ht : aTy[t]? = some ty) (hw : Lk (.arrayClass ty)) (hn : ¬ n < 0) (hN' : n.toNatClampNeg = N) (hby : N * componentBytes ty ≤ 536870912) (hra : ∀ (U : State) (cA : ClassId), va_RA U cA ty → U.vm.findClass ("[" ++ ty.toString) = some cA) (hdf : ∀ j, aV t (uN h (.inr (t, N)) N) (hN h) j = defaultValue ty) (kk : ∀ a h1, T G M d cv (pc + 2) ls (.ref a :: st) h1 (KN a h1)) : T G M d cv pc ls (.int n :: st) h (gd (1 ≤ (hB h).1 ∧ N ≤ (hB h).2) (lt (hN h) fun a => lt (uN h (.inr (t, N)) N) (KN a))) := q_newa hd hty ht hw hn hN' hby hra hdf (kk _ _)
theorem r_newI {n : Int32} (N : Nat) (hd : decode (mB M) pc = .ok (.newarray .int, 2)) (hw : Lk (.arrayClass .int)) (hn : ¬ n < 0) (hN' : n.toNatClampNeg = N) (hby : N * componentBytes .int ≤ 536870912) (kk : ∀ a h1, T G M d cv (pc + 2) ls (.ref a :: st) h1 (KN a h1)) : T G M d cv pc ls (.int n :: st) h (gd (1 ≤ (hB h).1 ∧ N ≤ (hB h).2) (lt (hN h) fun a => lt (uN h (.inr (0, N)) N) (KN a))) := r_newa N hd rfl (t := 0) rfl hw hn hN' hby (fun U cA hra => hra) (fun j => aV_new) kk
theorem r_newL {n : Int32} (N : Nat) (hd : decode (mB M) pc = .ok (.newarray .long, 2)) (hw : Lk (.arrayClass .long)) (hn : ¬ n < 0) (hN' : n.toNatClampNeg = N) (hby : N * componentBytes .long ≤ 536870912) (kk : ∀ a h1, T G M d cv (pc + 2) ls (.ref a :: st) h1 (KN a h1)) : T G M d cv pc ls (.int n :: st) h (gd (1 ≤ (hB h).1 ∧ N ≤ (hB h).2) (lt (hN h) fun a => lt (uN h (.inr (1, N)) N) (KN a))) := r_newa N hd rfl (t := 1) rfl hw hn hN' hby (fun U cA hra => hra) (fun j => aV_new) kk
theorem r_newB {n : Int32} (N : Nat) (hd : decode (mB M) pc = .ok (.newarray .byte, 2)) (hw : Lk (.arrayClass .byte)) (hn : ¬ n < 0) (hN' : n.toNatClampNeg = N) (hby : N * componentBytes .byte ≤ 536870912) (kk : ∀ a h1, T G M d cv (pc + 2) ls (.ref a :: st) h1 (KN a h1)) : T G M d cv pc ls (.int n :: st) h (gd (1 ≤ (hB h).1 ∧ N ≤ (hB h).2) (lt (hN h) fun a => lt (uN h (.inr (2, N)) N) (KN a))) := r_newa N hd rfl (t := 2) rfl hw hn hN' hby (fun U cA hra => hra) (fun j => aV_new) kk
theorem r_newZ {n : Int32} (N : Nat) (hd : decode (mB M) pc = .ok (.newarray .boolean, 2)) (hw : Lk (.arrayClass .boolean)) (hn : ¬ n < 0) (hN' : n.toNatClampNeg = N) (hby : N * componentBytes .boolean ≤ 536870912) (kk : ∀ a h1, T G M d cv (pc + 2) ls (.ref a :: st) h1 (KN a h1)) : T G M d cv pc ls (.int n :: st) h (gd (1 ≤ (hB h).1 ∧ N ≤ (hB h).2) (lt (hN h) fun a => lt (uN h (.inr (3, N)) N) (KN a))) := r_newa N hd rfl (t := 3) rfl hw hn hN' hby (fun U cA hra => hra) (fun j => aV_new) kk
theorem r_anew {i : Nat} (t N : Nat) {C0 : String} {n : Int32} (hd : decode (mB M) pc = .ok (.anewarray i, 3)) (ht : aTy[t]? = some (.object C0)) (w1 : Lk (.classLink (mY M).cls i C0)) (w2 : Cond.arrayOver (.object C0) ∈ lw_tbl) (hn : ¬ n < 0) (hN' : n.toNatClampNeg = N) (hby : N * 4 ≤ 536870912) (hdf : ∀ j, aV t (uN h (.inr (t, N)) N) (hN h) j = .null) (kk : ∀ a h1, T G M d cv (pc + 3) ls (.ref a :: st) h1 (KN a h1)) : T G M d cv pc ls (.int n :: st) h (gd (1 ≤ (hB h).1 ∧ N ≤ (hB h).2) (lt (hN h) fun a => lt (uN h (.inr (t, N)) N) (KN a))) := q_anew hd ht w1 w2 hn hN' hby hdf (kk _ _)
theorem nn_cl {z : Int32} (hz : ¬ z < 0) : z.toInt = (z.toNatClampNeg : Int) := by
  have hz0 : (0 : Int) ≤ z.toInt := by
    have := Int32.not_lt.mp hz
    simpa using Int32.le_iff_toInt_le.mp this
  show z.toInt = ((z.toInt.toNat : Nat) : Int)
  omega
theorem r_copy {i a0 a : Nat} {sp dp n : Int32} (hd : decode (mB M) pc = .ok (.invokestatic i, 3)) (w1 : Lk (.methodLink (mY M).cls i arraycopyName)) (w2 : Lk (.native arraycopyName)) (w3 : Lk (.static arraycopyName)) (w4 : Lk (.initialized "java/lang/System")) (hdd : Nat.ble 1 d = true) (hw : Nat.ble (st.map fun v => v.category).sum 8 = true) (kk : ∀ h1, T G M d cv (pc + 3) ls st h1 (KH h1)) : T G M d cv pc ls (.int n :: .int dp :: .ref a :: .int sp :: .ref a0 :: st) h (gd (cpok h a0 a sp dp n) (lt (uC h a0 a sp.toNatClampNeg dp.toNatClampNeg n.toNatClampNeg) KH)) := by
  have hdd := Nat.le_of_ble_eq_true hdd
  have hw := Nat.le_of_ble_eq_true hw
  intro r h' hF
  obtain ⟨hP, hF⟩ := gd_some hF
  obtain ⟨n0, n1, s0, s1, p1, p2, p3, p4, p5⟩ := hP
  obtain ⟨hb, k2⟩ := kk _ r h' hF
  refine ⟨hb, fun p l e R s m args below meth c H locs cells slots Q ls0 C lf q1 q2 hRf hS hl hret => ?_⟩
  intro T0 hT X
  have c0 := hRf.arr s0
  have c1 := hRf.arr s1
  obtain ⟨-, k0, hk0, cm0, hkk0⟩ := (C.aof (t := 0) rfl) n0 (fun j => aV 0 h a0 j)
  obtain ⟨-, k1, hk1, cm1, hkk1⟩ := (C.aof (t := 0) rfl) n1 (fun j => aV 0 h a j)
  have g1 := C.2.2.2.2.2.2.1
  have g2 := C.2.2.2.2.2.2.2.1
  have hnf : nativeFrameWords "java/lang/System" "arraycopy" 5 + 11 ≤ 92 := by decide
  obtain ⟨vm', X', step⟩ := X.arraycopy C.1 C.2.2.2.1 (C.lk w1 _) (C.lk w2 _) (C.lk w3 _) (C.lk w4 _) (src := a0) (dst := a) (cs := arrV (gA G 0) n0 (fun j => aV 0 h a0 j)) (cd := arrV (gA G 0) n1 (fun j => aV 0 h a j)) (srcPos := sp) (destPos := dp) (n := n) (by rw [hT]; exact c0) (by rw [hT]; exact c1)
    (fun _ h => by cases h) (fun _ h => by cases h) (fun h => by cases h) (fun h => by cases h) hk0 hk1 hkk0 hkk1 (by simp [refKind]) p1 p2 p3
    (by rw [nn_cl p1, nn_cl p3, arrV_size]; omega) (by rw [nn_cl p2, nn_cl p3, arrV_size]; omega)
    (fun vm₁ _ i hi => by
      have e : (arrV (gA G 0) n0 (fun j => aV 0 h a0 j)).slots.getD (sp.toNatClampNeg + i) .null = .int (hI h a0 (sp.toNatClampNeg + i)) := by
        rw [Array.getD_eq_getD_getElem?, arrV_read _ _ (by omega)]
        rfl
      refine ⟨?_, ?_⟩
      · rw [e]
        rfl
      · rw [e]
        exact trivial)
    (g := F0 m pc ls0 (.int n :: .int dp :: .ref a :: .int sp :: .ref a0 :: st)) rfl (by rw [C.2.2.1]; exact hl.1) (rest := st) rfl (by rw [C.2.1]; exact hd) (by omega) (by show 2 * 0 + _ + _ ≤ _; omega)
  have e1 : copied (arrV (gA G 0) n0 (fun j => aV 0 h a0 j)) (arrV (gA G 0) n1 (fun j => aV 0 h a j)) sp dp n = arrV (gA G 0) n1 (fun j => .int (va_cpy (hI h a0) (hI h a) sp.toNatClampNeg dp.toNatClampNeg n.toNatClampNeg j)) := va_copied (fun z => .int z) _ _ (hI h a0) (hI h a) p4
  rw [e1] at X' step
  have hlt : a < H.size := (Array.getElem?_eq_some_iff.mp c1).1
  generalize hcc : arrV (gA G 0) n1 (fun j => .int (va_cpy (hI h a0) (hI h a) sp.toNatClampNeg dp.toNatClampNeg n.toNatClampNeg j)) = cell at X' step
  have hheap : ((T0.setVm vm').setCell a cell).heap = H.setIfInBounds a cell := by rw [← hT]; rfl
  have oq : ∀ q : Nat, q ≠ a → (H.setIfInBounds a cell)[q]? = H[q]? := fun q hq => by simp [Array.getElem?_setIfInBounds, Ne.symm hq]
  have hself : (H.setIfInBounds a cell)[a]? = some cell := by simp [Array.getElem?_setIfInBounds, hlt]
  have hR2 : Rf G (uC h a0 a sp.toNatClampNeg dp.toNatClampNeg n.toNatClampNeg) (H.setIfInBounds a cell) := by
    refine hRf.upd s1 rfl rfl (by simp) oq (fun b hb => ⟨fun k => if_neg hb, fun _ => rfl, fun _ => rfl⟩) ?_
    unfold cellOK
    rw [show _root_.Jvm.Pilot.CBrassYearLaw_law_r2248_b69b05.hS (uC h a0 a sp.toNatClampNeg dp.toNatClampNeg n.toNatClampNeg) a = some (.inr (0, n1)) from s1]
    show (H.setIfInBounds a cell)[a]? = _
    rw [hself, ← hcc]
    congr 2
    funext j
    show Value.int _ = Value.int _
    exact congrArg Value.int (if_pos rfl).symm
  obtain ⟨t, a1, b1⟩ := k2 p l e R s m args below meth c _ _ cells slots Q ls0 C lf q1 q2 hR2 ⟨by simp; exact hS.1, fun q g1 g2 => by
      rw [oq q (fun e => g2 (by rw [e]; exact hRf.old s1))]
      exact hS.2.1 q g1 g2, fun q hq => by
      rcases List.mem_append.mp hq with h | h
      · exact hS.2.2 q h
      · obtain ⟨z, -, hz⟩ := List.mem_map.mp h
        rw [← hz]
        exact hRf.old s1⟩ hl hret _ hheap X'
  exact ⟨t, step t a1, b1⟩
end TB
