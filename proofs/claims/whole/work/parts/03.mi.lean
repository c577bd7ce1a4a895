/-! methods, their bytes, what links they need -/
abbrev MI : Type := MethodName × ByteArray × Nat × Option FieldType × Instr
def mY (M : MI) : MethodName := M.1
def mB (M : MI) : ByteArray := M.2.1
def mL (M : MI) : Nat := M.2.2.1
def mR (M : MI) : Option FieldType := M.2.2.2.1
def mE (M : MI) : Instr := M.2.2.2.2
/-- how long that instruction is -/
def mN (M : MI) : Nat := match mE M with
  | .new _ => 3
  | _ => 1
def dok (b : ByteArray) (L : List (Nat × Instr × Nat)) : Bool := L.all (fun q => decide (decode b q.1 = .ok (q.2.1, q.2.2)))
theorem dq {b : ByteArray} {L : List (Nat × Instr × Nat)} (h : dok b L = true) (k : Nat) {pc n : Nat} {i : Instr} (hk : L[k]? = some (pc, i, n)) : decode b pc = .ok (i, n) := by
  have h1 := List.all_eq_true.mp h _ (List.mem_of_getElem? hk)
  simp only [decide_eq_true_eq] at h1
  exact h1
def dfV (t : Nat) : Value := match t with
  | 0 => .int 0
  | 1 => .long 0
  | _ => .null
def FA (own : String) (i c k : Nat) : Prop := ∃ q : vw_C, classes[c]? = some q ∧ k < q.2.2 ∧ (Lk (.fieldLink own i (q.2.1 k).1 (q.2.1 k).2.1 (q.2.1 k).2.2.1) ∨ ∃ host : String, LkN (.fieldLinkNest own i (q.2.1 k).1 (q.2.1 k).2.1 (q.2.1 k).2.2.1 host))
/-- a put: to a field that isn't final, or to a final one of the class itself in its constructor -/
def FP (y : MethodName) (i c k : Nat) : Prop := ∃ q : vw_C, classes[c]? = some q ∧ k < q.2.2 ∧ (((q.2.1 k).2.2.2 = false ∧ Lk (.fieldLink y.cls i (q.2.1 k).1 (q.2.1 k).2.1 (q.2.1 k).2.2.1)) ∨ ((q.2.1 k).2.2.2 = false ∧ ∃ host : String, LkN (.fieldLinkNest y.cls i (q.2.1 k).1 (q.2.1 k).2.1 (q.2.1 k).2.2.1 host)) ∨ ((q.2.1 k).2.2.2 = true ∧ y.name = "<init>" ∧ (q.2.1 k).1 = y.cls ∧ Lk (.fieldLink y.cls i (q.2.1 k).1 (q.2.1 k).2.1 (q.2.1 k).2.2.1)))
/-- a method that can be called: its code's words -/
def LkC (Mc : MI) (n : Nat) : Prop := Lk (.code (mY Mc) (mB Mc) (mL Mc) (mR Mc)) ∧ Lk (.initialized (mY Mc).cls) ∧ ((mY Mc).cls ≠ "java/lang/invoke/MethodHandle" ∧ (mY Mc).cls ≠ "java/lang/invoke/VarHandle") ∧ (parseMethodDescriptor (mY Mc).desc).map (fun d => d.parameters.length) = some n ∧ Nat.ble (mL Mc) 81 = true
def LkV (Mc : MI) : Prop := Lk (.instanceMethod (mY Mc)) ∧ Lk (.selects (mY Mc).cls (mY Mc) (mY Mc))
def MLk (own : String) (i : Nat) (y : MethodName) : Prop := Lk (.methodLink own i y) ∨ ∃ host : String, LkN (.methodLinkNest own i y host)
