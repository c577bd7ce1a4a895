/-! the class's Orrery: feasts and moves -/
section PO
variable {h : Hp} {o r : Nat} {D : DD} {V : Nat → Nat}
theorem nI_i5 (f w : Nat) : nI f * 5 + nI w = nI (5 * f + w) := by
  show nI f * nI 5 + nI w = _
  rw [pk_mul, nI_add, Nat.mul_comm f 5]
theorem nI_i3 (w : Nat) : 3 + nI w = nI (3 + w) := by
  show nI 3 + nI w = _
  rw [nI_add]
theorem e_O_feastTooth (R : RepO h o D) {f w : Nat} (hF : dF D ≤ 4) (hf : f < dF D) (hw : w < 5) : f_O_feastTooth o (nI f) (nI w) h = some (xI (dX D f w), h) := by
  obtain ⟨⟨l1, l2, l3, l4, l5, l6, l7, l8⟩, r1, r2, r3, r4, r5, r6⟩ := R
  unfold f_O_feastTooth
  rw [gd_pos l1, l2.2.1]
  show gd _ _ = _
  rw [nI_i5, gd_pos (ai_of l4 (by omega) (by decide)), nI_clamp (by omega), r3 f w hf hw]
  rfl
theorem xI_0 : xI 0 = -1 := rfl
theorem xI_s (t : Nat) : xI (t + 1) = nI t := rfl
theorem nI_nm1 {t : Nat} (ht : t < 2 ^ 31) : ¬ nI t = (-1 : Int32) := fun e => by
  have q := nI_toInt ht
  rw [e] at q
  have e2 : (-1 : Int32).toInt = -1 := by decide
  rw [e2] at q
  omega
theorem e_O_isOn (W : Wf D) (R : RepO h o D) (v : RepV h r V) (hv : WfV D V) {f : Nat} (hf : f < dF D) : f_O_isOn o (nI f) r h = some (bI (isOnB D V f), h) := by
  obtain ⟨w1, w2, -, -, -, -, -, w8, w9, -⟩ := W
  refine ok_eq ?_
  unfold f_O_isOn
  refine ok_lt (ok_up (dW D) (fun i s h' => s = (o, nI f, r, nI i) ∧ h' = h ∧ ∀ u, u < i → dX D f u = 0 ∨ dX D f u = V (3 + u) + 1) ?_ FU 0 _ _ (Nat.zero_le _) ⟨rfl, rfl, fun u hu => absurd hu (Nat.not_lt_zero _)⟩ (by show _ < 10000; omega))
  intro k i s h' hi hI kk
  obtain ⟨rfl, rfl, hu⟩ := hI
  show Ok (b_O_isOn_2 k o (nI f) r (nI i) h') _
  unfold b_O_isOn_2 b_O_isOn_36
  refine ok_gd R.1.1 (ok_lt ?_)
  rw [R.2.1.2.2.1]
  refine ok_ite (fun q => ?_) (fun q => ?_)
  · have e : i = dW D := by
      have := (nI_leI (by omega) (by omega)).mp q
      omega
    subst e
    refine ok_gd zb1 (ok_ret ⟨?_, rfl⟩)
    unfold isOnB
    rw [decide_eq_true hu]
    rfl
  · have hl : i < dW D := by
      rcases Nat.lt_or_ge i (dW D) with e | e
      · exact e
      · exact absurd (nI_le e (by omega)) q
    have hT := w8 i hl
    have hX := w9 f i hf hl
    have hV := hv.2.2.2 i hl
    refine ok_gd R.1.1 (ok_bde (e_O_feastTooth R w2 hf (by omega)) ?_)
    have go : (dX D f i = 0 ∨ dX D f i = V (3 + i) + 1) → Ok (k (o, nI f, r, nI i + 1) h') (fun r_1 h'_1 => r_1 = bI (isOnB D V f) ∧ h'_1 = h') := by
      intro hc
      refine kk _ _ hl ⟨by rw [nI_1], rfl, fun u hu' => ?_⟩
      by_cases e : u = i
      · rw [e]
        exact hc
      · exact hu u (by omega)
    refine ok_ite (fun q1 => go (Or.inl ?_)) (fun q1 => ?_)
    · cases hx : dX D f i with
      | zero => rfl
      | succ t =>
        rw [hx, xI_s] at q1
        exact absurd q1 (nI_nm1 (by omega))
    · have h0 : dX D f i ≠ 0 := fun e => q1 (by rw [e]; rfl)
      have hxe : xI (dX D f i) = nI (dX D f i - 1) := if_neg h0
      rw [nI_i3]
      refine ok_gd (ai_of v.1 (by omega) (by decide)) (ok_lt ?_)
      rw [nI_clamp (by omega), v.2 (3 + i) (by omega), hxe]
      refine ok_ite (fun q2 => go (Or.inr ?_)) (fun q2 => ok_gd zb0 (ok_ret ⟨?_, rfl⟩))
      · have := (nI_eq (by omega) (by omega)).mp q2
        omega
      · have hno : ¬ ∀ w, w < dW D → dX D f w = 0 ∨ dX D f w = V (3 + w) + 1 := fun e => by
          rcases e i hl with e1 | e1
          · exact h0 e1
          · exact q2 (by rw [e1]; rfl)
        unfold isOnB
        rw [decide_eq_false hno]
        rfl
end PO
