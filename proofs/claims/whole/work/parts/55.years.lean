/-! years by draws: what both sides compute -/
def drw (s : Nat) : Nat := (75 * s + 74) % 65537
theorem drw_lt (s : Nat) : drw s < 65537 := Nat.mod_lt _ (by decide)
/-- the slips of one day: row, seed, slips -/
def yw (D : DD) (V : Nat → Nat) (s : Nat) : Nat → (Nat → Nat) × Nat × Nat
  | 0 => (V, s, 0)
  | i + 1 => if drw (yw D V s i).2.1 % 100 < dSl D then (slV D (yw D V s i).1 i, drw (yw D V s i).2.1, (yw D V s i).2.2 + 1) else ((yw D V s i).1, drw (yw D V s i).2.1, (yw D V s i).2.2)
def onF (D : DD) (V : Nat → Nat) : Nat → Nat
  | 0 => 0
  | f + 1 => if isOnB D V f = true then 1 else 0
/-- days: row, seed, slips, feasts -/
def yd (D : DD) (T : (Nat → Nat) → Nat → Nat) (F : Nat) (V : Nat → Nat) (s : Nat) : Nat → (Nat → Nat) × Nat × Nat × Nat
  | 0 => (V, s, 0, 0)
  | d + 1 => ((yw D (T (yd D T F V s d).1) (yd D T F V s d).2.1 (dW D)).1, (yw D (T (yd D T F V s d).1) (yd D T F V s d).2.1 (dW D)).2.1, (yd D T F V s d).2.2.1 + (yw D (T (yd D T F V s d).1) (yd D T F V s d).2.1 (dW D)).2.2, (yd D T F V s d).2.2.2 + onF D (yw D (T (yd D T F V s d).1) (yd D T F V s d).2.1 (dW D)).1 F)
section YS
variable {D : DD} {V V' : Nat → Nat} {s : Nat}
theorem yw_s (hs : s < 65537) (i : Nat) : (yw D V s i).2.1 < 65537 := by
  induction i with
  | zero => exact hs
  | succ i ih =>
    unfold yw
    split
    · exact drw_lt _
    · exact drw_lt _
theorem yw_c (i : Nat) : (yw D V s i).2.2 ≤ i := by
  induction i with
  | zero => exact Nat.le_refl _
  | succ i ih =>
    unfold yw
    split
    · exact Nat.succ_le_succ ih
    · exact Nat.le_succ_of_le ih
theorem yw_wf {n : Nat} (W : Wf D) (g : WfN D V n) (i : Nat) (hi : i ≤ dW D) : WfN D (yw D V s i).1 n := by
  induction i with
  | zero => exact g
  | succ i ih =>
    have ih := ih (by omega)
    unfold yw
    split
    · exact ih.sl W (by omega)
    · exact ih
theorem yw_eq (e : EqV V V') (i : Nat) : EqV (yw D V s i).1 (yw D V' s i).1 ∧ (yw D V s i).2 = (yw D V' s i).2 := by
  induction i with
  | zero => exact ⟨e, rfl⟩
  | succ i ih =>
    unfold yw
    rw [ih.2]
    by_cases c : drw (yw D V' s i).2.1 % 100 < dSl D
    · rw [if_pos c, if_pos c]
      exact ⟨ih.1.sl i, rfl⟩
    · rw [if_neg c, if_neg c]
      exact ⟨ih.1, rfl⟩
theorem onF_eq (e : EqV V V') (F : Nat) : onF D V F = onF D V' F := by
  cases F with
  | zero => rfl
  | succ f =>
    show (if _ then _ else _) = (if _ then _ else _)
    rw [e.on]
theorem onF_le {F : Nat} : onF D V F ≤ 1 := by
  cases F with
  | zero => exact Nat.zero_le _
  | succ f =>
    show (if _ then _ else _) ≤ 1
    split <;> omega
/-- both sides' days are alike -/
theorem yd_eq (F : Nat) (e : EqV V V') (d : Nat) : EqV (yd D (tnV D) F V s d).1 (yd D (tnX D) F V' s d).1 ∧ (yd D (tnV D) F V s d).2 = (yd D (tnX D) F V' s d).2 := by
  induction d with
  | zero => exact ⟨e, rfl⟩
  | succ d ih =>
    have e1 := ih.1.tn (D := D)
    have e2 := ih.2
    have e3 := yw_eq (D := D) (s := (yd D (tnX D) F V' s d).2.1) e1 (dW D)
    refine ⟨?_, ?_⟩
    · show EqV (yw D (tnV D (yd D (tnV D) F V s d).1) (yd D (tnV D) F V s d).2.1 (dW D)).1 _
      rw [e2]
      exact e3.1
    · show ((yw D (tnV D (yd D (tnV D) F V s d).1) (yd D (tnV D) F V s d).2.1 (dW D)).2.1, (yd D (tnV D) F V s d).2.2.1 + (yw D (tnV D (yd D (tnV D) F V s d).1) (yd D (tnV D) F V s d).2.1 (dW D)).2.2, (yd D (tnV D) F V s d).2.2.2 + onF D (yw D (tnV D (yd D (tnV D) F V s d).1) (yd D (tnV D) F V s d).2.1 (dW D)).1 F) = _
      rw [e2, e3.2, onF_eq e3.1]
      rfl
theorem yd_s (T : (Nat → Nat) → Nat → Nat) (F : Nat) (hs : s < 65537) (d : Nat) : (yd D T F V s d).2.1 < 65537 := by
  induction d with
  | zero => exact hs
  | succ d ih => exact yw_s ih _
theorem yd_b (T : (Nat → Nat) → Nat → Nat) (F : Nat) (d : Nat) : (yd D T F V s d).2.2.1 ≤ dW D * d ∧ (yd D T F V s d).2.2.2 ≤ d := by
  induction d with
  | zero => exact ⟨Nat.le_refl _, Nat.le_refl _⟩
  | succ d ih =>
    have h1 := yw_c (D := D) (V := T (yd D T F V s d).1) (s := (yd D T F V s d).2.1) (dW D)
    have h2 := onF_le (D := D) (V := (yw D (T (yd D T F V s d).1) (yd D T F V s d).2.1 (dW D)).1) (F := F)
    refine ⟨?_, ?_⟩
    · show _ + _ ≤ dW D * d + dW D
      omega
    · show _ + _ ≤ d + 1
      omega
theorem yd_wf {n : Nat} (T : (Nat → Nat) → Nat → Nat) (hT : ∀ U k, WfN D U (k + 1) → WfN D (T U) k) (W : Wf D) (F : Nat) (d : Nat) (g : WfN D V (n + d)) : WfN D (yd D T F V s d).1 n := by
  induction d generalizing n with
  | zero => exact g
  | succ d ih =>
    have h1 := ih (n := n + 1) (by rw [show n + 1 + d = n + (d + 1) by omega]; exact g)
    exact yw_wf W (hT _ _ h1) _ (Nat.le_refl _)
theorem i_drw (hs : s < 65537) : irm (75 * nI s + 74) 65537 = nI (drw s) := by
  show irm (nI 75 * nI s + nI 74) (nI 65537) = _
  rw [pk_mul, nI_add, irm_nI (by omega) (by decide) (by decide)]
  rfl
theorem l_drw (hs : s < 65537) : (lrm (75 * (nI s).toInt64 + 74) 65537).toInt32 = nI (drw s) := by
  rw [nI_l (by omega)]
  show (lrm (lN 75 * lN s + lN 74) (lN 65537)).toInt32 = _
  rw [lN_mul, lN_add]
  unfold lrm
  rw [pk_lRem (by omega) (by decide) (by decide), lN_i]
  rfl
end YS
