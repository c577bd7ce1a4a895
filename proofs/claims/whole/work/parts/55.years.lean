/-! years by draws: what both sides compute -/
def drw (s : Nat) : Nat := (75 * s + 74) % 65537
theorem drw_lt (s : Nat) : drw s < 65537 := Nat.mod_lt _ (by decide)
/-- the slips of one day: row, seed, slips -/
def yw (D : DD) (V : Nat → Nat) (s : Nat) : Nat → (Nat → Nat) × Nat × Nat
  | 0 => (V, s, 0)
  | i + 1 => if drw (yw D V s i).2.1 % 100 < dSl D then (slV D (yw D V s i).1 i, drw (yw D V s i).2.1, (yw D V s i).2.2 + 1) else ((yw D V s i).1, drw (yw D V s i).2.1, (yw D V s i).2.2)
def onF (D : DD) (V : Nat → Nat) : Nat → Nat
  | 0 => 0
  | f + 1 => if isOnB D V f = true then 1 else 0
/-- days: row, seed, slips, feasts -/
def yd (D : DD) (T : (Nat → Nat) → Nat → Nat) (F : Nat) (V : Nat → Nat) (s : Nat) : Nat → (Nat → Nat) × Nat × Nat × Nat
  | 0 => (V, s, 0, 0)
  | d + 1 => ((yw D (T (yd D T F V s d).1) (yd D T F V s d).2.1 (dW D)).1, (yw D (T (yd D T F V s d).1) (yd D T F V s d).2.1 (dW D)).2.1, (yd D T F V s d).2.2.1 + (yw D (T (yd D T F V s d).1) (yd D T F V s d).2.1 (dW D)).2.2, (yd D T F V s d).2.2.2 + onF D (yw D (T (yd D T F V s d).1) (yd D T F V s d).2.1 (dW D)).1 F)
section YS
variable {D : DD} {V V' : Nat → Nat} {s : Nat}
theorem yw_s (hs : s < 65537) (i : Nat) : (yw D V s i).2.1 < 65537 := by
  induction i with
  | zero => exact hs
  | succ i ih =>
    unfold yw
    split
    · exact drw_lt _
    · exact drw_lt _
theorem yw_c (i : Nat) : (yw D V s i).2.2 ≤ i := by
  induction i with
  | zero => exact Nat.le_refl _
  | succ i ih =>
    unfold yw
    split
    · exact Nat.succ_le_succ ih
    · exact Nat.le_succ_of_le ih
theorem yw_wf {n : Nat} (W : Wf D) (g : WfN D V n) (i : Nat) (hi : i ≤ dW D) : WfN D (yw D V s i).1 n := by
  induction i with
  | zero => exact g
  | succ i ih =>
    have ih := ih (by omega)
    unfold yw
    split
    · exact ih.sl W (by omega)
    · exact ih
theorem yw_eq (e : EqV V V') (i : Nat) : EqV (yw D V s i).1 (yw D V' s i).1 ∧ (yw D V s i).2 = (yw D V' s i).2 := by
  induction i with
  | zero => exact ⟨e, rfl⟩
  | succ i ih =>
    unfold yw
    rw [ih.2]
    by_cases c : drw (yw D V' s i).2.1 % 100 < dSl D
    · rw [if_pos c, if_pos c]
      exact ⟨ih.1.sl i, rfl⟩
    · rw [if_neg c, if_neg c]
      exact ⟨ih.1, rfl⟩
theorem onF_eq (e : EqV V V') (F : Nat) : onF D V F = onF D V' F := by
  cases F with
  | zero => rfl
  | succ f =>
    show (if _ then _ else _) = (if _ then _ else _)
    rw [e.on]
theorem onF_le {F : Nat} : onF D V F ≤ 1 := by
  cases F with
  | zero => exact Nat.zero_le _
  | succ f =>
    show (if _ then _ else _) ≤ 1
    split <;> omega
end YS
