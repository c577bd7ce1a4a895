/-! states that are alike but for the jerks; how far a state may still be turned -/
def EqV (V V' : Nat → Nat) : Prop := ∀ k, k ≠ 2 → V k = V' k
section EQ
variable {D : DD} {V V' : Nat → Nat} {s : Bool}
theorem EqV.rf : EqV V V := fun _ _ => rfl
theorem EqV.symm (e : EqV V V') : EqV V' V := fun k hk => (e k hk).symm
theorem EqV.trans {V2 : Nat → Nat} (e : EqV V V') (e2 : EqV V' V2) : EqV V V2 := fun k hk => (e k hk).trans (e2 k hk)
theorem EqV.up (e : EqV V V') (k x : Nat) : EqV (upV V k x) (upV V' k x) := fun j hj => by
  unfold upV
  rw [e j hj]
theorem EqV.up2 (x : Nat) : EqV (upV V 2 x) V := fun j hj => if_neg hj
theorem EqV.gn (e : EqV V V') (w : Nat) : gnB D V w = gnB D V' w := by
  unfold gnB
  rw [e 0 (by decide), e 1 (by decide)]
theorem EqV.mt_ (e : EqV V V') (w : Nat) : mt D s V w = mt D s V' w := by
  unfold mt
  rw [e.gn, e (3 + w) (by omega)]
theorem EqV.mj_ (e : EqV V V') (w : Nat) : mj D s V w = mj D s V' w := by
  unfold mj
  rw [e.gn, e (3 + w) (by omega)]
theorem EqV.mvJ_ (e : EqV V V') (i : Nat) : mvJ D s V i = mvJ D s V' i := by
  induction i with
  | zero => rfl
  | succ i ih =>
    show _ + _ = _ + _
    rw [ih, e.mj_]
theorem EqV.mvV_ (e : EqV V V') (i : Nat) : EqV (mvV D s V i) (mvV D s V' i) := fun k hk => by
  unfold mvV
  rw [e.mt_, e k hk]
theorem EqV.on (e : EqV V V') (f : Nat) : isOnB D V f = isOnB D V' f := by
  have h : (∀ w, w < dW D → dX D f w = 0 ∨ dX D f w = V (3 + w) + 1) ↔ (∀ w, w < dW D → dX D f w = 0 ∨ dX D f w = V' (3 + w) + 1) := by
    constructor
    · intro g w hw
      rw [← e (3 + w) (by omega)]
      exact g w hw
    · intro g w hw
      rw [e (3 + w) (by omega)]
      exact g w hw
  unfold isOnB
  exact decide_eq_decide.mpr h
theorem EqV.mvE_ (e : EqV V V') : EqV (mvE D s V) (mvV D s V' (dW D)) := (EqV.up2 _).trans (e.mvV_ _)
theorem EqV.tn (e : EqV V V') : EqV (tnV D V) (tnX D V') := by
  unfold tnV tnX
  rw [e 0 (by decide), e 1 (by decide)]
  exact (e.mvE_.up 0 _).up 1 _
theorem EqV.tnJ_ (e : EqV V V') : tnJ D V = tnJ D V' := e.mvJ_ _
theorem EqV.bk (e : EqV V V') : EqV (bkV D V) (bkX D V') := by
  unfold bkV bkX
  rw [e 0 (by decide)]
  exact (e.up 0 _).mvE_
theorem EqV.bkJ_ (e : EqV V V') : bkJ D V = bkJ D V' := by
  unfold bkJ
  rw [e 0 (by decide)]
  exact (e.up 0 _).mvJ_ _
theorem EqV.sl (e : EqV V V') (w : Nat) : EqV (slV D V w) (slV D V' w) := by
  unfold slV
  rw [e (3 + w) (by omega)]
  exact e.up _ _
/-- it may still be turned n times -/
def WfN (D : DD) (V : Nat → Nat) (n : Nat) : Prop := V 0 + n < 2 ^ 30 ∧ V 1 ≤ 99 ∧ V 2 + 5 * n < 2 ^ 30 ∧ ∀ w, w < dW D → V (3 + w) < dT D w
theorem WfN.wf {n : Nat} (g : WfN D V n) : WfV D V := by
  obtain ⟨g0, g1, g2, g3⟩ := g
  exact ⟨by omega, g1, by omega, g3⟩
theorem mt_lt (W : Wf D) (hv : WfV D V) {w : Nat} (hw : w < dW D) : mt D s V w < dT D w := by
  have hT := W.2.2.2.2.2.2.2.1 w hw
  unfold mt
  split
  · exact tp_lt (by omega) (hv.2.2.2 w hw) (by omega)
  · exact hv.2.2.2 w hw
theorem WfN.tnX_ {n : Nat} (W : Wf D) (g : WfN D V (n + 1)) : WfN D (tnX D V) n := by
  have hv := g.wf
  obtain ⟨g0, g1, g2, g3⟩ := g
  have e0 : tnX D V 0 = V 0 + 1 := rfl
  have e1 : tnX D V 1 = V 1 - 1 := rfl
  have e2 : tnX D V 2 = V 2 := mvV_lo (D := D) (s := true) (V := V) (i := dW D) (k := 2) (by decide)
  refine ⟨by omega, by omega, by omega, fun w hw => ?_⟩
  have e3 : tnX D V (3 + w) = mt D true V w := by
    show (if 3 + w = 1 then V 1 - 1 else if 3 + w = 0 then V 0 + 1 else mvV D true V (dW D) (3 + w)) = _
    rw [if_neg (by omega), if_neg (by omega), mvV_at hw]
  rw [e3]
  exact mt_lt W hv hw
theorem WfN.tnV_ {n : Nat} (W : Wf D) (g : WfN D V (n + 1)) : WfN D (tnV D V) n := by
  have h1 := WfN.tnX_ W g
  have hJ := mvJ_le (D := D) (s := true) (V := V) (i := dW D)
  have w1 := W.1
  have e := EqV.tn (D := D) (V := V) EqV.rf
  obtain ⟨g0, g1, g2, g3⟩ := g
  have e2 : tnV D V 2 = V 2 + mvJ D true V (dW D) := rfl
  refine ⟨by rw [e 0 (by decide)]; exact h1.1, by rw [e 1 (by decide)]; exact h1.2.1, by omega, fun w hw => ?_⟩
  rw [e (3 + w) (by omega)]
  exact h1.2.2.2 w hw
theorem WfN.sl {n w : Nat} (W : Wf D) (g : WfN D V n) (hw : w < dW D) : WfN D (slV D V w) n := by
  have h1 := slV_wf W g.wf hw
  obtain ⟨g0, g1, g2, g3⟩ := g
  have e : ∀ k, k < 3 → slV D V w k = V k := fun k hk => if_neg (by omega)
  refine ⟨?_, h1.2.1, ?_, h1.2.2.2⟩
  · rw [e 0 (by decide)]
    exact g0
  · rw [e 2 (by decide)]
    exact g2
end EQ
