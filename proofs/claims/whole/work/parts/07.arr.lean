theorem aV_eq {h h2 : Hp} {t a j : Nat} (e1 : hI h2 a j = hI h a j) (e2 : hL h2 a j = hL h a j) (e3 : hR h2 a j = hR h a j) : aV t h2 a j = aV t h a j := by
  unfold aV
  split
  · rw [e1]
  · rw [e2]
  · rw [e1]
  · rw [e1]
  · rw [e3]
theorem aV_up {h h2 : Hp} {t a k : Nat} {v : Value} (e : aV t h2 a k = v) (hn : ∀ j, j ≠ k → aV t h2 a j = aV t h a j) : (fun j => aV t h2 a j) = updV (fun j => aV t h a j) k v := by
  funext j
  unfold updV
  by_cases q : j = k
  · rw [if_pos q, q, e]
  · rw [if_neg q, hn j q]
theorem Rf.ast {G : GG} {h h2 : Hp} {H H1 : Heap} {a t n k : Nat} {v : Value} (hR : Rf G h H) (hs : hS h a = some (.inr (t, n))) (e1 : hN h2 = hN h) (e2 : hS h2 = hS h) (e3 : ∀ b, b ≠ a → sm h h2 b) (e : aV t h2 a k = v) (hn : ∀ j, j ≠ k → aV t h2 a j = aV t h a j)
    (w : H1[a]? = some ((arrV (gA G t) n (fun j => aV t h a j)).setSlot k v)) (z : H1.size = H.size) (oq : ∀ q : Nat, q ≠ a → H1[q]? = H[q]?) : Rf G h2 H1 := by
  refine hR.upd hs e1 e2 z oq e3 ?_
  unfold cellOK
  rw [e2, hs]
  show H1[a]? = _
  rw [w, arrV_store, ← aV_up e hn]
section TA
variable {G : GG} {M : MI} {d : Nat} {α : Type} {cv : α → Option Value} {pc : Nat} {ls : List (Nat × Value)} {st : List Value} {h : Hp} {F F1 F2 : Option (α × Hp)}
theorem vpin_lt {i : Int32} {n : Nat} (h : vp_in i n) : i.toNatClampNeg < n := Nat.not_le.mp fun q => h (Or.inr q)
theorem Cx.aof {G : GG} {M : MI} {d : Nat} {p : Program} {R : Room} {s : State} {m : MethodId} {meth : Method} {c : Code} (C : Cx G M d p R s m meth c) {t : Nat} {ty : FieldType} (ht : aTy[t]? = some ty) : ArrOfT s (gA G t) ty := (C.2.2.2.2.2.1.2.2.2.1 t ty ht).1
theorem Cx.ara {G : GG} {M : MI} {d : Nat} {p : Program} {R : Room} {s : State} {m : MethodId} {meth : Method} {c : Code} (C : Cx G M d p R s m meth c) {t : Nat} {ty : FieldType} (ht : aTy[t]? = some ty) : va_RA s (gA G t) ty := (C.2.2.2.2.2.1.2.2.2.1 t ty ht).2
theorem q_iald {a n : Nat} {i : Int32} (hd : decode (mB M) pc = .ok (.iaload, 1)) (kk : T G M d cv (pc + 1) ls (.int (hI h a i.toNatClampNeg) :: st) h F) : T G M d cv pc ls (.int i :: .ref a :: st) h (gd (hS h a = some (.inr (0, n)) ∧ vp_in i n) F) :=
  T.rd (fun hP C hR kk => W.iald (v := .int (hI h a i.toNatClampNeg)) C.1 C.2.1 (hR.arr hP.1) (C.aof (t := 0) rfl n _) (fun q => by cases q) (by rw [arrV_size]; exact hP.2) (by rw [arrV_read _ _ (vpin_lt hP.2)]; rfl) rfl rfl hd kk) kk
theorem q_bald {a n : Nat} {i : Int32} (hd : decode (mB M) pc = .ok (.baload, 1)) (kk : T G M d cv (pc + 1) ls (.int (hI h a i.toNatClampNeg) :: st) h F) : T G M d cv pc ls (.int i :: .ref a :: st) h (gd (hS h a = some (.inr (2, n)) ∧ vp_in i n) F) :=
  T.rd (fun hP C hR kk => W.bald (v := .int (hI h a i.toNatClampNeg)) C.1 C.2.1 (hR.arr hP.1) (C.aof (t := 2) rfl n _) (fun q => by cases q) (by rw [arrV_size]; exact hP.2) (by rw [arrV_read _ _ (vpin_lt hP.2)]; rfl) rfl rfl hd kk) kk
theorem q_zald {a n : Nat} {i : Int32} (hd : decode (mB M) pc = .ok (.baload, 1)) (kk : T G M d cv (pc + 1) ls (.int (hI h a i.toNatClampNeg) :: st) h F) : T G M d cv pc ls (.int i :: .ref a :: st) h (gd (hS h a = some (.inr (3, n)) ∧ vp_in i n) F) :=
  T.rd (fun hP C hR kk => W.zald (v := .int (hI h a i.toNatClampNeg)) C.1 C.2.1 (hR.arr hP.1) (C.aof (t := 3) rfl n _) (fun q => by cases q) (by rw [arrV_size]; exact hP.2) (by rw [arrV_read _ _ (vpin_lt hP.2)]; rfl) rfl rfl hd kk) kk
theorem q_lald {a n : Nat} {i : Int32} (hd : decode (mB M) pc = .ok (.laload, 1)) (kk : T G M d cv (pc + 1) ls (.long (hL h a i.toNatClampNeg) :: st) h F) : T G M d cv pc ls (.int i :: .ref a :: st) h (gd (hS h a = some (.inr (1, n)) ∧ vp_in i n) F) :=
  T.rd (fun hP C hR kk => W.lald (v := .long (hL h a i.toNatClampNeg)) C.1 C.2.1 (hR.arr hP.1) (C.aof (t := 1) rfl n _) (fun q => by cases q) (by rw [arrV_size]; exact hP.2) (by rw [arrV_read _ _ (vpin_lt hP.2)]; rfl) rfl rfl hd kk) kk
/-- a row of references, of sort t (4 ..) -/
theorem q_aald {a n t : Nat} {ty : FieldType} {i : Int32} {K : Nat → Option (α × Hp)} (hd : decode (mB M) pc = .ok (.aaload, 1)) (ht : aTy[t]? = some ty) (hr : ty.isReference = true) (hv : ∀ j, aV t h a j = va_rf (hR h a j)) (kk : ∀ x, T G M d cv (pc + 1) ls (.ref x :: st) h (K x)) : T G M d cv pc ls (.int i :: .ref a :: st) h (gd (hS h a = some (.inr (t, n)) ∧ vp_in i n) (bR (hR h a i.toNatClampNeg) K)) := by
  intro r h' hF
  obtain ⟨hP, hF⟩ := gd_some hF
  obtain ⟨x, hx, hF⟩ := bR_some hF
  obtain ⟨hb, k2⟩ := kk x r h' hF
  refine ⟨hb, fun p l e R s m args below meth c H locs cells slots Q ls0 C lf h1 h2 hRf hS hl hret => ?_⟩
  refine W.aald (v := .ref x) C.1 C.2.1 (hRf.arr hP.1) (C.aof ht n _) hr (fun q => by cases q) (by rw [arrV_size]; exact hP.2) ?_ rfl rfl hd ?_
  · rw [arrV_read _ _ (vpin_lt hP.2), hv, hx]
    rfl
  · exact k2 p l e R s m args below meth c H locs cells slots Q ls0 C lf h1 h2 hRf hS hl hret
theorem aV_uI {h : Hp} {a k : Nat} {v : Int32} {t : Nat} : ∀ j, j ≠ k → aV t (uI h a k v) a j = aV t h a j := fun _ hj => aV_eq (up2_n (fun q => hj q.2)) rfl rfl
theorem aV_uL {h : Hp} {a k : Nat} {v : Int64} {t : Nat} : ∀ j, j ≠ k → aV t (uL h a k v) a j = aV t h a j := fun _ hj => aV_eq rfl (up2_n (fun q => hj q.2)) rfl
theorem aV_uR {h : Hp} {a k : Nat} {v : Option Nat} {t : Nat} : ∀ j, j ≠ k → aV t (uR h a k v) a j = aV t h a j := fun _ hj => aV_eq rfl rfl (up2_n (fun q => hj q.2))
theorem q_iast {a n : Nat} {i v : Int32} (hd : decode (mB M) pc = .ok (.iastore, 1)) (kk : T G M d cv (pc + 1) ls st (uI h a i.toNatClampNeg v) F) : T G M d cv pc ls (.int v :: .int i :: .ref a :: st) h (gd (hS h a = some (.inr (0, n)) ∧ vp_in i n) F) :=
  T.wr (h2 := uI h a i.toNatClampNeg v) rfl (fun hP C hR hS kk => W.iast C.1 C.2.1 (hR.arr hP.1) (C.aof (t := 0) rfl n _) (fun q => by cases q) (by rw [arrV_size]; exact hP.2) rfl rfl hd (fun H1 w z oq => kk H1 _ (hR.ast (h2 := uI h a i.toNatClampNeg v) hP.1 rfl rfl (fun b hb => sm_uI hb) (congrArg Value.int up2_s) aV_uI w z oq) (hS.put z oq (hR.old hP.1)))) kk
theorem q_bast {a n : Nat} {i v : Int32} (hd : decode (mB M) pc = .ok (.bastore, 1)) (kk : T G M d cv (pc + 1) ls st (uI h a i.toNatClampNeg v.toInt8.toInt32) F) : T G M d cv pc ls (.int v :: .int i :: .ref a :: st) h (gd (hS h a = some (.inr (2, n)) ∧ vp_in i n) F) :=
  T.wr (h2 := uI h a i.toNatClampNeg v.toInt8.toInt32) rfl (fun hP C hR hS kk => W.bast C.1 C.2.1 (hR.arr hP.1) (C.aof (t := 2) rfl n _) (fun q => by cases q) (by rw [arrV_size]; exact hP.2) rfl rfl hd (fun H1 w z oq => kk H1 _ (hR.ast (h2 := uI h a i.toNatClampNeg v.toInt8.toInt32) hP.1 rfl rfl (fun b hb => sm_uI hb) (congrArg Value.int up2_s) aV_uI w z oq) (hS.put z oq (hR.old hP.1)))) kk
theorem q_zast {a n : Nat} {i v : Int32} (hd : decode (mB M) pc = .ok (.bastore, 1)) (kk : T G M d cv (pc + 1) ls st (uI h a i.toNatClampNeg v) F) : T G M d cv pc ls (.int v :: .int i :: .ref a :: st) h (gd (zb v ∧ hS h a = some (.inr (3, n)) ∧ vp_in i n) F) :=
  T.wr (h2 := uI h a i.toNatClampNeg v) rfl (fun hP C hR hS kk => W.zast C.1 C.2.1 (hR.arr hP.2.1) (C.aof (t := 3) rfl n _) (fun q => by cases q) (by rw [arrV_size]; exact hP.2.2) rfl rfl hd (fun H1 w z oq => kk H1 _ (hR.ast (h2 := uI h a i.toNatClampNeg v) hP.2.1 rfl rfl (fun b hb => sm_uI hb) (congrArg Value.int up2_s) aV_uI (by rw [w]; rcases hP.1 with rfl | rfl <;> rfl) z oq) (hS.put z oq (hR.old hP.2.1)))) kk
theorem q_last {a n : Nat} {i : Int32} {v : Int64} (hd : decode (mB M) pc = .ok (.lastore, 1)) (kk : T G M d cv (pc + 1) ls st (uL h a i.toNatClampNeg v) F) : T G M d cv pc ls (.long v :: .int i :: .ref a :: st) h (gd (hS h a = some (.inr (1, n)) ∧ vp_in i n) F) :=
  T.wr (h2 := uL h a i.toNatClampNeg v) rfl (fun hP C hR hS kk => W.last C.1 C.2.1 (hR.arr hP.1) (C.aof (t := 1) rfl n _) (fun q => by cases q) (by rw [arrV_size]; exact hP.2) rfl rfl hd (fun H1 w z oq => kk H1 _ (hR.ast (h2 := uL h a i.toNatClampNeg v) hP.1 rfl rfl (fun b hb => sm_uL hb) (congrArg Value.long up2_s) aV_uL w z oq) (hS.put z oq (hR.old hP.1)))) kk
/-- an object of class ci into a row of sort t whose components are of that class -/
theorem q_aast {a n t v ci : Nat} {q : vw_C} {i : Int32} (hd : decode (mB M) pc = .ok (.aastore, 1)) (hq : classes[ci]? = some q) (ht : aTy[t]? = some (.object q.1)) (hv : ∀ (g : Hp) j, aV t g a j = va_rf (hR g a j)) (kk : T G M d cv (pc + 1) ls st (uR h a i.toNatClampNeg (some v)) F) : T G M d cv pc ls (.ref v :: .int i :: .ref a :: st) h (gd (hS h v = some (.inl ci) ∧ hS h a = some (.inr (t, n)) ∧ vp_in i n) F) := by
  refine T.wr (h2 := uR h a i.toNatClampNeg (some v)) rfl (fun {p l e R s m args below meth c H locs cells slots Q ls0} hP C hRf hS kk => ?_) kk
  obtain ⟨kA, comp, r1, r2, r3, r4⟩ := C.ara ht
  obtain ⟨cell, q1, q2, q3, q4⟩ := hRf.obj hP.1 hq
  obtain ⟨hSl, hfc, kC, hkC, hkind⟩ := C.2.2.2.2.2.1.2.2.1 ci q hq
  have hcomp : comp = gC G ci := Option.some.inj (r3.symm.trans hfc)
  refine W.aast C.1 C.2.1 (hRf.arr hP.2.1) (fun z h => by cases h) (fun h => by cases h) r1 r2 rfl (kcomp := kC) (by rw [hcomp]; exact hkC) ⟨fun z => hP.2.2 (Or.inl z), by rw [arrV_size]; exact vpin_lt hP.2.2⟩ q1 (fun z h => by rw [q3] at h; cases h) (kv := kC) (by rw [q2]; exact hkC) (by rw [q2, hcomp]; exact va_asg s.vm _) rfl rfl hd (fun H1 w z oq => ?_)
  exact kk H1 _ (hRf.ast (h2 := uR h a i.toNatClampNeg (some v)) hP.2.1 rfl rfl (fun b hb => sm_uR hb) (by rw [hv]; exact congrArg va_rf up2_s) aV_uR w z oq) (hS.put z oq (hRf.old hP.2.1))
theorem q_alen {a t n : Nat} {ty : FieldType} (hd : decode (mB M) pc = .ok (.arraylength, 1)) (ht : aTy[t]? = some ty) (kk : T G M d cv (pc + 1) ls (.int (Int32.ofNat n) :: st) h F) : T G M d cv pc ls (.ref a :: st) h (gd (hS h a = some (.inr (t, n))) F) :=
  T.rd (fun hP C hR kk => W.alen C.1 C.2.1 (hR.arr hP) (C.aof ht n _) (by rw [arrV_size]) rfl rfl hd kk) kk
end TA
