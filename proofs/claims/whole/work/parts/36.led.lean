/-- the exception that was thrown and caught: a cell that nobody knows -/
def uX (h : Hp) : Hp := (hN h + 1, hS h, ((hB h).1 - 1, (hB h).2 - 6), hI h, hL h, hR h)
noncomputable def f_Law_led2 (v0 : Nat) (v1 : Int32) (v2 : Nat) (h : Hp) : Option (Int32 × Hp) := match f_Law_led v0 v1 v2 h with
  | some q => some q
  | none => gd (hS h v0 = some (.inl 0)) (bd (f_B_ledX v0 v1 h) fun _ h1 => gd (1 ≤ (hB h1).1 ∧ 6 ≤ (hB h1).2) (some (1, uX h1)))
theorem r_led {G : GG} {d : Nat} {α : Type} {cv : α → Option Value} {pc i x o : Nat} {v : Int32} {ls : List (Nat × Value)} {st : List Value} {h : Hp} {K : Int32 → Hp → Option (α × Hp)} (hd : decode (mB M_Law_law) pc = .ok (.invokestatic i, 3)) (kk : ∀ r h1, T G M_Law_law d cv (pc + 3) ls (.int r :: st) h1 (K r h1)) : T G M_Law_law d cv pc ls (.ref o :: .int v :: .ref x :: st) h (bd (f_Law_led2 x v o h) K) := by
  sorry
