/-! the judgement: from here the machine comes to a return with what the computation F says -/
/-- a boolean method's answer is 0 or 1 -/
def okv (t : Option FieldType) (l : List Value) : Prop := t = some .boolean → l = [.int 0] ∨ l = [.int 1]
def Cx (G : GG) (M : MI) (d : Nat) (p : Program) (R : Room) (s : State) (m : MethodId) (meth : Method) (c : Code) : Prop :=
  p.tables.exec = Jvm.exec ∧ c.code = mB M ∧ c.maxLocals = mL M ∧ s.vm.findClass (mY M).cls = some m.cls ∧ meth.name = (mY M).name ∧ KG G s ∧ d ≤ R.frames ∧ 100 * d ≤ R.locals ∧ (gH G).size ≤ s.heap.size
def T (G : GG) (M : MI) (d : Nat) {α : Type} (cv : α → Option Value) (pc : Nat) (ls : List (Nat × Value)) (st : List Value) (h : Hp) (F : Option (α × Hp)) : Prop :=
  ∀ (r : α) (h' : Hp), F = some (r, h') → ((hB h').1 ≤ (hB h).1 ∧ (hB h').2 ≤ (hB h).2) ∧
    ∀ (p : Program) (l : Launch) (e : Env) (R : Room) (s : State) (m : MethodId) (args : Array Value) (below : List Frame) (meth : Method) (c : Code) (H : Heap) (locs : List Loc) (cells slots : Nat) (Q : State → Prop) (ls0 : Array Slot),
      Cx G M d p R s m meth c → l.flags = flags0 → cells + ((hB h).1 - (hB h').1) = R.cells → slots + ((hB h).2 - (hB h').2) = R.slots → Rf G h H → va_S (gF G) s.heap H locs → lv_has ls0 (mL M) ls →
      (∀ (H' : Heap) (locs' : List Loc) (pc' : Nat) (ls' : Array Slot), ls'.size = mL M → okv (mR M) (cv r).toList → Rf G h' H' → va_S (gF G) s.heap H' locs' → decode (mB M) pc' = .ok (mE M, mN M) → W p l e R s m args below meth c H' locs' R.cells R.slots Q (F0 m pc' ls' (cv r).toList)) →
      W p l e R s m args below meth c H locs cells slots Q (F0 m pc ls0 st)
section TD
variable {G : GG} {M : MI} {d : Nat} {α : Type} {cv : α → Option Value} {pc pc' : Nat} {ls ls' : List (Nat × Value)} {st st' : List Value} {h : Hp} {F : Option (α × Hp)}
/-- an instruction that touches neither heap nor locals -/
theorem T.lift (row : ∀ {p : Program} {l : Launch} {e : Env} {R : Room} {s : State} {m : MethodId} {args : Array Value} {below : List Frame} {meth : Method} {c : Code} {H : Heap} {locs : List Loc} {cells slots : Nat} {Q : State → Prop} {ls0 : Array Slot},
      Cx G M d p R s m meth c → lv_has ls0 (mL M) ls → W p l e R s m args below meth c H locs cells slots Q (F0 m pc' ls0 st') → W p l e R s m args below meth c H locs cells slots Q (F0 m pc ls0 st))
    (k : T G M d cv pc' ls st' h F) : T G M d cv pc ls st h F := by
  intro r h' hF
  obtain ⟨hb, kk⟩ := k r h' hF
  refine ⟨hb, fun p l e R s m args below meth c H locs cells slots Q ls0 C lf h1 h2 hR hS hl hret => ?_⟩
  exact row C hl (kk p l e R s m args below meth c H locs cells slots Q ls0 C lf h1 h2 hR hS hl hret)
/-- one that writes a local -/
theorem T.liftL (row : ∀ {p : Program} {l : Launch} {e : Env} {R : Room} {s : State} {m : MethodId} {args : Array Value} {below : List Frame} {meth : Method} {c : Code} {H : Heap} {locs : List Loc} {cells slots : Nat} {Q : State → Prop} {ls0 : Array Slot},
      Cx G M d p R s m meth c → lv_has ls0 (mL M) ls → (∀ ls1 : Array Slot, lv_has ls1 (mL M) ls' → W p l e R s m args below meth c H locs cells slots Q (F0 m pc' ls1 st')) → W p l e R s m args below meth c H locs cells slots Q (F0 m pc ls0 st))
    (k : T G M d cv pc' ls' st' h F) : T G M d cv pc ls st h F := by
  intro r h' hF
  obtain ⟨hb, kk⟩ := k r h' hF
  refine ⟨hb, fun p l e R s m args below meth c H locs cells slots Q ls0 C lf h1 h2 hR hS hl hret => ?_⟩
  exact row C hl (fun ls1 hl1 => kk p l e R s m args below meth c H locs cells slots Q ls1 C lf h1 h2 hR hS hl1 hret)
/-- a branch -/
theorem T.br {P : Prop} [Decidable P] {pc1 pc2 : Nat} {F1 F2 : Option (α × Hp)} (row : ∀ {p : Program} {l : Launch} {e : Env} {R : Room} {s : State} {m : MethodId} {args : Array Value} {below : List Frame} {meth : Method} {c : Code} {H : Heap} {locs : List Loc} {cells slots : Nat} {Q : State → Prop} {ls0 : Array Slot},
      Cx G M d p R s m meth c → (P → W p l e R s m args below meth c H locs cells slots Q (F0 m pc1 ls0 st')) → (¬ P → W p l e R s m args below meth c H locs cells slots Q (F0 m pc2 ls0 st')) → W p l e R s m args below meth c H locs cells slots Q (F0 m pc ls0 st))
    (k1 : T G M d cv pc1 ls st' h F1) (k2 : T G M d cv pc2 ls st' h F2) : T G M d cv pc ls st h (if P then F1 else F2) := by
  intro r h' hF
  by_cases hP : P
  · rw [if_pos hP] at hF
    obtain ⟨hb, kk⟩ := k1 r h' hF
    refine ⟨hb, fun p l e R s m args below meth c H locs cells slots Q ls0 C lf h1 h2 hR hS hl hret => ?_⟩
    exact row C (fun _ => kk p l e R s m args below meth c H locs cells slots Q ls0 C lf h1 h2 hR hS hl hret) (fun n => absurd hP n)
  · rw [if_neg hP] at hF
    obtain ⟨hb, kk⟩ := k2 r h' hF
    refine ⟨hb, fun p l e R s m args below meth c H locs cells slots Q ls0 C lf h1 h2 hR hS hl hret => ?_⟩
    exact row C (fun n => absurd n hP) (fun _ => kk p l e R s m args below meth c H locs cells slots Q ls0 C lf h1 h2 hR hS hl hret)
/-- one that reads the heap, under a guard -/
theorem T.rd {P : Prop} (row : ∀ {p : Program} {l : Launch} {e : Env} {R : Room} {s : State} {m : MethodId} {args : Array Value} {below : List Frame} {meth : Method} {c : Code} {H : Heap} {locs : List Loc} {cells slots : Nat} {Q : State → Prop} {ls0 : Array Slot},
      P → Cx G M d p R s m meth c → Rf G h H → W p l e R s m args below meth c H locs cells slots Q (F0 m pc' ls0 st') → W p l e R s m args below meth c H locs cells slots Q (F0 m pc ls0 st))
    (k : T G M d cv pc' ls st' h F) : T G M d cv pc ls st h (gd P F) := by
  intro r h' hF
  obtain ⟨hP, hF⟩ := gd_some hF
  obtain ⟨hb, kk⟩ := k r h' hF
  refine ⟨hb, fun p l e R s m args below meth c H locs cells slots Q ls0 C lf h1 h2 hR hS hl hret => ?_⟩
  exact row hP C hR (kk p l e R s m args below meth c H locs cells slots Q ls0 C lf h1 h2 hR hS hl hret)
/-- one that writes the heap, under a guard -/
theorem T.wr {P : Prop} {h2 : Hp} (hbb : hB h2 = hB h) (row : ∀ {p : Program} {l : Launch} {e : Env} {R : Room} {s : State} {m : MethodId} {args : Array Value} {below : List Frame} {meth : Method} {c : Code} {H : Heap} {locs : List Loc} {cells slots : Nat} {Q : State → Prop} {ls0 : Array Slot},
      P → Cx G M d p R s m meth c → Rf G h H → va_S (gF G) s.heap H locs → (∀ (H1 : Heap) (locs1 : List Loc), Rf G h2 H1 → va_S (gF G) s.heap H1 locs1 → W p l e R s m args below meth c H1 locs1 cells slots Q (F0 m pc' ls0 st')) → W p l e R s m args below meth c H locs cells slots Q (F0 m pc ls0 st))
    (k : T G M d cv pc' ls st' h2 F) : T G M d cv pc ls st h (gd P F) := by
  intro r h' hF
  obtain ⟨hP, hF⟩ := gd_some hF
  obtain ⟨hb, kk⟩ := k r h' hF
  rw [hbb] at hb kk
  refine ⟨hb, fun p l e R s m args below meth c H locs cells slots Q ls0 C lf h1 h2 hR hS hl hret => ?_⟩
  exact row hP C hR hS (fun H1 locs1 hR1 hS1 => kk p l e R s m args below meth c H1 locs1 cells slots Q ls0 C lf h1 h2 hR1 hS1 hl hret)
/-- the end -/
theorem q_ret {x : α} (hd : decode (mB M) pc = .ok (mE M, mN M)) (hst : st = (cv x).toList) (ho : okv (mR M) (cv x).toList) : T G M d cv pc ls st h (some (x, h)) := by
  intro r h' hF
  cases hF
  refine ⟨⟨Nat.le_refl _, Nat.le_refl _⟩, fun p l e R s m args below meth c H locs cells slots Q ls0 C lf h1 h2 hR hS hl hret => ?_⟩
  rw [Nat.sub_self, Nat.add_zero] at h1 h2
  rw [h1, h2, hst]
  exact hret H locs pc ls0 hl.1 ho hR hS hd
/-- no result, nothing to show -/
theorem q_none : T G M d cv pc ls st h none := by
  intro r h' hF
  cases hF
end TD
/-- the words' reach -/
theorem Cx.lk {G : GG} {M : MI} {d : Nat} {p : Program} {R : Room} {s : State} {m : MethodId} {meth : Method} {c : Code} (C : Cx G M d p R s m meth c) {w : Cond} (h : Lk w) (a : Array Value) : w.before a s = true := C.2.2.2.2.2.1.1 w h.1 h.2 a
theorem Cx.lkN {G : GG} {M : MI} {d : Nat} {p : Program} {R : Room} {s : State} {m : MethodId} {meth : Method} {c : Code} (C : Cx G M d p R s m meth c) {w : Cond} (h : LkN w) (a : Array Value) : w.before a s = true := C.2.2.2.2.2.1.2.1 w h.1 h.2 a
