/-! a slip, on both sides -/
/-- the row behind a slip of wheel w -/
def slV (D : DD) (V : Nat → Nat) (w : Nat) : Nat → Nat := upV V (3 + w) (tp D w (dfw D w) 1 (V (3 + w)))
section SL
variable {h : Hp} {o r m q : Nat} {D : DD} {V : Nat → Nat}
theorem ok_O_slip (W : Wf D) (R : RepO h o D) (v : RepV h r V) (hv : WfV D V) {w : Nat} (hw : w < dW D) : Ok (f_O_slip o r (nI w) h) (fun _ h' => Fm (fun a => a = r) h h' ∧ RepV h' r (slV D V w)) := by
  have w1 := W.1
  have hT := W.2.2.2.2.2.2.2.1 w hw
  have h5 : w < 5 := by omega
  have hl8 := R.1.2.2.2.2.2.2.2 w h5
  unfold f_O_slip
  refine ok_gd R.1.1 (ok_bR R.1.2.1.1 (ok_gd (ai_of R.1.2.2.1 h5 (by decide)) ?_))
  rw [nI_clamp (n := w) (by omega)]
  refine ok_bR hl8.1 (ok_gd hl8.2 (ok_bde (e_W_way hl8.2 (R.2.2.1 w hw).1 (by omega)) (ok_gd R.1.1 ?_)))
  refine ok_bde (e_O_moveOne W R v hv (b := 1) hw (by omega) (dfw D w)) (ok_ret ⟨fm_uI rfl, v.up (3 + w) _⟩)
theorem slV_wf (W : Wf D) (hv : WfV D V) {w : Nat} (hw : w < dW D) : WfV D (slV D V w) := by
  have hT := W.2.2.2.2.2.2.2.1 w hw
  have g : ∀ k, k < 3 → slV D V w k = V k := fun k hk => if_neg (by omega)
  refine ⟨by rw [g 0 (by decide)]; exact hv.1, by rw [g 1 (by decide)]; exact hv.2.1, by rw [g 2 (by decide)]; exact hv.2.2.1, fun u hu => ?_⟩
  show (if 3 + u = 3 + w then _ else V (3 + u)) < _
  by_cases e : u = w
  · rw [if_pos (by rw [e]), e]
    exact tp_lt (by omega) (hv.2.2.2 w hw) (by omega)
  · rw [if_neg (by omega)]
    exact hv.2.2.2 u hu
/-- what the reference's slip writes -/
def sY (m : Nat) (a k : Nat) : Prop := (a = m ∧ (k = 21 ∨ k = 34)) ∨ a = m + 3
theorem ok_m_slips1 (hm : LayM h m) (hq : hR h m 3 = some q) (R : RepQ h q D) (W : Wf D) (v : RepX h (m + 3) V) (hv : WfV D V) {w : Nat} (hw : w < dW D) : Ok (f_m_slips1 m (nI w) h) (fun _ h' => Fk (sY m) h h' ∧ RepX h' (m + 3) (slV D V w) ∧ hI h' m 34 = hI h m 34 + bI (jk D w (dfw D w) 1 (V (3 + w)))) := by
  have w1 := W.1
  have hT := W.2.2.2.2.2.2.2.1 w hw
  have h5 : w < 5 := by omega
  have c1 : (nI w).toNatClampNeg = w := nI_clamp (by omega)
  have rr := R.2.2.1 w hw
  have hV := hv.2.2.2 w hw
  have ai1 : ai h (m + 3) 0 (nI w) := ai_of v.1 (show w < 8 by omega) (by decide)
  unfold f_m_slips1
  refine ok_gd hm.1 (ok_bR hm.2.1.2.2.1 ?_)
  refine ok_gd hm.1 (ok_bR hq (ok_gd R.1.1 (ok_bR (R.1.2.1 1 (by decide)) (ok_gd (ai_of (R.1.2.2.1 1 (by decide)) h5 (by decide)) (ok_lt ?_)))))
  refine ok_gd hm.1 (ok_bR hq (ok_gd R.1.1 (ok_bR (R.1.2.1 4 (by decide)) (ok_gd (ai_of R.1.2.2.2.1 h5 (by decide)) (ok_lt ?_)))))
  refine ok_gd hm.1 (ok_bR hm.2.1.2.2.1 (ok_gd ai1 (ok_lt (ok_gd hm.1 ?_))))
  rw [c1, v.t h5 (by omega)]
  have g1 : hI h (q + 1 + 1) w = nI (dT D w) := rr.2.1
  have g3 : hL h (q + 1 + 4) w = dG D w := rr.2.2.2.2
  rw [g1, g3]
  refine ok_bde (e_m_way hm.1 hq R W hw 1) (ok_gd hm.1 ?_)
  refine ok_bde (e_m_goes hm.1 (by omega) hV (by omega) (by omega) (dfw D w) (hT.2.2.2.2.2.2.2.1 _ _ (nx_lt hV (by omega)))) (ok_gd ai1 (ok_lt (ok_gd hm.1 (ok_lt (ok_gd hm.1 (ok_lt ?_))))))
  have ej : hI (uI (uI h m 21 (bI (jk D w (dfw D w) 1 (V (3 + w))))) (m + 3) w (nI (tp D w (dfw D w) 1 (V (3 + w))))) m 21 = bI (jk D w (dfw D w) 1 (V (3 + w))) := by
    rw [hI_uIa (by omega), hI_uIs]
  have e34 : hI (uI (uI h m 21 (bI (jk D w (dfw D w) 1 (V (3 + w))))) (m + 3) w (nI (tp D w (dfw D w) 1 (V (3 + w))))) m 34 = hI h m 34 := by
    rw [hI_uIa (by omega), hI_uIk (by decide)]
  have hF2 : Fk (sY m) h (uI (uI h m 21 (bI (jk D w (dfw D w) 1 (V (3 + w))))) (m + 3) w (nI (tp D w (dfw D w) 1 (V (3 + w))))) := (fk_uI (Or.inl ⟨rfl, Or.inl rfl⟩)).trans (fk_uI (Or.inr rfl))
  have v1 : RepX (uI h m 21 (bI (jk D w (dfw D w) 1 (V (3 + w))))) (m + 3) V := v.fk (fk_uI (S := fun a k => a = m ∧ k = 21) ⟨rfl, rfl⟩) (fun k e => by omega)
  have v2 : RepX (uI (uI h m 21 (bI (jk D w (dfw D w) 1 (V (3 + w))))) (m + 3) w (nI (tp D w (dfw D w) 1 (V (3 + w))))) (m + 3) (slV D V w) := (v1.up (k := w) (by omega) (tp D w (dfw D w) 1 (V (3 + w)))).ext (fun k _ => by rw [mx_t h5]; rfl)
  change hI (uI (uI h m 21 (bI (jk D w (dfw D w) 1 (V (3 + w))))) (m + 3) w (nI (tp D w (dfw D w) 1 (V (3 + w))))) m 21 = _ at ej
  refine ok_ite (fun q3 => ok_gd hm.1 (ok_lt (ok_ret ⟨hF2.trans (fk_uI (Or.inl ⟨rfl, Or.inr rfl⟩)), v2.fk (fk_uI (S := fun a k => a = m ∧ k = 34) ⟨rfl, rfl⟩) (fun k e => by omega), ?_⟩))) (fun q3 => ok_gd hm.1 (ok_lt (ok_ret ⟨hF2.trans (fk_uI (Or.inl ⟨rfl, Or.inr rfl⟩)), v2.fk (fk_uI (S := fun a k => a = m ∧ k = 34) ⟨rfl, rfl⟩) (fun k e => by omega), ?_⟩)))
  · have q4 : bI (jk D w (dfw D w) 1 (V (3 + w))) = 0 := ej.symm.trans q3
    rw [hI_uIs, q4]
    exact congrArg (· + (0 : Int32)) e34
  · have q4 : ¬ bI (jk D w (dfw D w) 1 (V (3 + w))) = 0 := fun e => q3 (ej.trans e)
    have q5 : bI (jk D w (dfw D w) 1 (V (3 + w))) = 1 := by
      cases e : jk D w (dfw D w) 1 (V (3 + w)) with
      | true => rfl
      | false => exact absurd ((bI_z _).mpr e) q4
    rw [hI_uIs, q5]
    exact congrArg (· + (1 : Int32)) e34
end SL
