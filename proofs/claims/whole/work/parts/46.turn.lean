/-! all wheels at once, a turn, a turn back, a slip: the class's side -/
def mvE (D : DD) (s : Bool) (V : Nat → Nat) : Nat → Nat := upV (mvV D s V (dW D)) 2 (V 2 + mvJ D s V (dW D))
theorem bI_z (b : Bool) : (bI b = 0) ↔ b = false := by cases b <;> decide
section PT
variable {h : Hp} {o r : Nat} {D : DD} {V : Nat → Nat}
theorem ok_O_moveAll (W : Wf D) (R : RepO h o D) (v : RepV h r V) (hv : WfV D V) (hr : ∀ i, i < 15 → o + i ≠ r) (s : Bool) : Ok (f_O_moveAll o r (sg s) h) (fun x h' => x = nI (mvJ D s V (dW D)) ∧ Fm (fun a => a = r) h h' ∧ RepV h' r (mvE D s V)) := by
  have W0 := W
  obtain ⟨w1, w2, -, -, -, -, -, w8, w9, -⟩ := W
  unfold f_O_moveAll
  refine ok_lt (ok_lt (ok_up (dW D) (fun i st h' => st = (o, r, sg s, nI (mvJ D s V i), nI i) ∧ Fm (fun a => a = r) h h' ∧ RepV h' r (mvV D s V i)) ?_ FU 0 _ _ (Nat.zero_le _) ⟨rfl, Fm.rf, v.ext (fun k _ => (if_neg (by omega)).symm)⟩ (by show _ < 10000; omega)))
  intro k i st h' hi hI kk
  obtain ⟨rfl, hF, v'⟩ := hI
  have R' : RepO h' o D := R.fm hF (fun i hi e => hr i hi e) w1
  show Ok (b_O_moveAll_5 k o r (sg s) (nI (mvJ D s V i)) (nI i) h') _
  unfold b_O_moveAll_5 b_O_moveAll_62
  refine ok_gd R'.1.1 (ok_lt ?_)
  rw [R'.2.1.2.2.1]
  have hJ := mvJ_le (D := D) (s := s) (V := V) (i := i)
  refine ok_ite (fun q => ?_) (fun q => ?_)
  · have e : i = dW D := by
      have := (nI_leI (by omega) (by omega)).mp q
      omega
    subst e
    have a2 : ai h' r 0 2 := ai_of (n := 2) v'.1 (by decide) (by decide)
    refine ok_gd a2 (ok_lt (ok_gd a2 (ok_lt (ok_ret ⟨rfl, ?_, ?_⟩))))
    · exact hF.trans (fm_uI rfl)
    · have e2 : (2 : Int32).toNatClampNeg = 2 := by decide
      rw [e2, v'.2 2 (by decide), mvV_lo (by decide), nI_add]
      exact v'.up 2 _
  · have hl : i < dW D := by
      rcases Nat.lt_or_ge i (dW D) with e | e
      · exact e
      · exact absurd (nI_le e (by omega)) q
    have h5 : i < 5 := by omega
    have hT := w8 i hl
    have hl8 := R'.1.2.2.2.2.2.2.2 i h5
    have hw := R'.2.2.1 i hl
    have b0 : mvV D s V i 0 = V 0 := mvV_lo (by decide)
    have b1 : mvV D s V i 1 = V 1 := mvV_lo (by decide)
    have b3 : mvV D s V i (3 + i) = V (3 + i) := mvV_hi (Nat.le_refl _)
    have hv' : WfV D (mvV D s V i) := by
      refine ⟨by rw [b0]; exact hv.1, by rw [b1]; exact hv.2.1, by rw [mvV_lo (by decide)]; exact hv.2.2.1, fun w hw => ?_⟩
      have hTw := w8 w hw
      by_cases q2 : w < i
      · rw [mvV_at q2]
        unfold mt
        split
        · exact tp_lt (by omega) (hv.2.2.2 w hw) (by omega)
        · exact hv.2.2.2 w hw
      · rw [mvV_hi (by omega)]
        exact hv.2.2.2 w hw
    refine ok_gd R'.1.1 (ok_bR R'.1.2.1.1 (ok_gd (ai_of R'.1.2.2.1 h5 (by decide)) ?_))
    rw [nI_clamp (n := i) (by omega)]
    refine ok_bR hl8.1 (ok_gd (ai_of (n := 0) v'.1 (by decide) (by decide)) (ok_lt (ok_gd (ai_of (n := 1) v'.1 (by decide) (by decide)) (ok_lt (ok_gd hl8.2 ?_)))))
    have e0 : (0 : Int32).toNatClampNeg = 0 := by decide
    have e1 : (1 : Int32).toNatClampNeg = 1 := by decide
    rw [e0, e1, v'.2 0 (by decide), v'.2 1 (by decide), b0, b1]
    have hv1 := hv.1
    have hv2 := hv.2.1
    refine ok_bde (e_W_goesOn hl8.2 hw.1 (by omega) (by omega) (by omega)) (ok_ite (fun q1 => ?_) (fun q1 => ?_))
    · have hg : gnB D V i = false := (bI_z _).mp q1
      refine kk _ _ hl ⟨?_, hF, v'.ext (fun k _ => ?_)⟩
      · rw [nI_1]
        show _ = (o, r, sg s, nI (mvJ D s V i + mj D s V i), _)
        unfold mj
        rw [if_neg (by rw [hg]; simp)]
        rfl
      · rw [mvV_s]
        by_cases q2 : k = 3 + i
        · rw [if_pos q2, q2, b3]
          unfold mt
          rw [if_neg (by rw [hg]; simp)]
        · rw [if_neg q2]
    · have hg : gnB D V i = true := by
        cases e : gnB D V i with
        | true => rfl
        | false => exact absurd ((bI_z _).mpr e) q1
      have ew := e_W_way (h := h') (w := o + 10 + i) hl8.2 hw.1 (by omega)
      refine ok_gd hl8.2 (ok_lt (ok_gd hl8.2 (ok_bde ew (ok_gd R'.1.1 ?_))))
      rw [hw.2.2.1, show sg s * sg (decide (dK D i ≠ 1)) = sg (dir D s i) from sg_mul _ _]
      have em := e_O_moveOne W0 R' v' hv' hl hT.2.2.2.2.2.1 (dir D s i)
      rw [b3] at em
      refine ok_bde em ?_
      have hF2 : Fm (fun a => a = r) h (uI h' r (3 + i) (nI (tp D i (dir D s i) (dB D i) (V (3 + i))))) := hF.trans (fm_uI rfl)
      have v2 : RepV (uI h' r (3 + i) (nI (tp D i (dir D s i) (dB D i) (V (3 + i))))) r (mvV D s V (i + 1)) := (v'.up (3 + i) _).ext (fun k _ => by
        rw [mvV_s]
        unfold upV
        by_cases q2 : k = 3 + i
        · rw [if_pos q2, if_pos q2]
          unfold mt
          rw [if_pos hg]
        · rw [if_neg q2, if_neg q2])
      refine ok_ite (fun q3 => kk _ _ hl ⟨?_, hF2, v2⟩) (fun q3 => kk _ _ hl ⟨?_, hF2, v2⟩)
      · rw [nI_1]
        show _ = (o, r, sg s, nI (mvJ D s V i + mj D s V i), _)
        unfold mj
        rw [if_neg (by rw [(bI_z _).mp q3]; simp)]
        rfl
      · have hj : jk D i (dir D s i) (dB D i) (V (3 + i)) = true := by
          cases e : jk D i (dir D s i) (dB D i) (V (3 + i)) with
          | true => rfl
          | false => exact absurd ((bI_z _).mpr e) q3
        rw [nI_1, nI_1]
        show _ = (o, r, sg s, nI (mvJ D s V i + mj D s V i), _)
        unfold mj
        rw [if_pos ⟨hg, hj⟩]
/-- a turn: day and oil too -/
def tnV (D : DD) (V : Nat → Nat) : Nat → Nat := upV (upV (mvE D true V) 0 (V 0 + 1)) 1 (V 1 - 1)
def tnJ (D : DD) (V : Nat → Nat) : Nat := mvJ D true V (dW D)
def bkV (D : DD) (V : Nat → Nat) : Nat → Nat := mvE D false (upV V 0 (V 0 - 1))
def bkJ (D : DD) (V : Nat → Nat) : Nat := mvJ D false (upV V 0 (V 0 - 1)) (dW D)
theorem ok_O_goTurn (W : Wf D) (R : RepO h o D) (v : RepV h r V) (hv : WfV D V) (hr : ∀ i, i < 15 → o + i ≠ r) : Ok (f_O_goTurn o r h) (fun x h' => x = nI (tnJ D V) ∧ Fm (fun a => a = r) h h' ∧ RepV h' r (tnV D V)) := by
  unfold f_O_goTurn
  refine ok_gd R.1.1 (ok_bd (ok_mono (ok_O_moveAll W R v hv hr true) ?_))
  intro x h1 hq
  obtain ⟨rfl, hF, v1⟩ := hq
  have e0 : (0 : Int32).toNatClampNeg = 0 := by decide
  have e1 : (1 : Int32).toNatClampNeg = 1 := by decide
  have m0 : mvE D true V 0 = V 0 := by
    show (if (0 : Nat) = 2 then V 2 + mvJ D true V (dW D) else mvV D true V (dW D) 0) = V 0
    rw [if_neg (by decide), mvV_lo (by decide)]
  have m1 : mvE D true V 1 = V 1 := by
    show (if (1 : Nat) = 2 then V 2 + mvJ D true V (dW D) else mvV D true V (dW D) 1) = V 1
    rw [if_neg (by decide), mvV_lo (by decide)]
  rw [e0, e1]
  have a0 : ai h1 r 0 0 := ai_of (n := 0) v1.1 (by decide) (by decide)
  have a1 : ai h1 r 0 1 := ai_of (n := 1) v1.1 (by decide) (by decide)
  refine ok_gd a0 (ok_lt (ok_gd a0 (ok_lt (ok_gd a1 (ok_lt ?_)))))
  rw [v1.2 0 (by decide), m0, nI_1]
  have v2 := v1.up 0 (V 0 + 1)
  have hF2 := hF.trans (fm_uI (S := fun a => a = r) (a := r) (k := 0) (v := nI (V 0 + 1)) rfl)
  have g1 : hI (uI h1 r 0 (nI (V 0 + 1))) r 1 = nI (V 1) := by rw [v2.2 1 (by decide)]; unfold upV; rw [if_neg (by decide), m1]
  rw [g1]
  have hv2 := hv.2.1
  refine ok_ite (fun q => ok_ret ⟨rfl, hF2, v2.ext (fun k hk => ?_)⟩) (fun q => ?_)
  · have hz : V 1 = 0 := by
      rcases Nat.eq_zero_or_pos (V 1) with e | e
      · exact e
      · exact absurd q (nI_nle e (by omega))
    unfold tnV
    show _ = upV _ 1 (V 1 - 1) k
    by_cases q2 : k = 1
    · rw [q2]
      show (if (1 : Nat) = 0 then _ else mvE D true V 1) = (if (1 : Nat) = 1 then V 1 - 1 else _)
      rw [if_neg (by decide), if_pos rfl, m1, hz]
    · show _ = (if k = 1 then _ else _)
      rw [if_neg q2]
  · have hp : 0 < V 1 := by
      rcases Nat.eq_zero_or_pos (V 1) with e | e
      · exact absurd (by rw [e]; decide) q
      · exact e
    refine ok_gd a1 (ok_lt (ok_gd a1 (ok_lt (ok_ret ⟨rfl, ?_, ?_⟩))))
    · exact hF2.trans (fm_uI rfl)
    · have e3 : nI (V 1) - 1 = nI (V 1 - 1) := by
        have e2 := nI_pred (V 1 - 1)
        rw [show V 1 - 1 + 1 = V 1 by omega] at e2
        exact e2
      rw [e3]
      exact v2.up 1 (V 1 - 1)
theorem ok_O_goTurnBack (W : Wf D) (R : RepO h o D) (v : RepV h r V) (hv : WfV D V) (hr : ∀ i, i < 15 → o + i ≠ r) (hd : 0 < V 0) : Ok (f_O_goTurnBack o r h) (fun x h' => x = nI (bkJ D V) ∧ Fm (fun a => a = r) h h' ∧ RepV h' r (bkV D V)) := by
  unfold f_O_goTurnBack
  have e0 : (0 : Int32).toNatClampNeg = 0 := by decide
  have a0 : ai h r 0 0 := ai_of (n := 0) v.1 (by decide) (by decide)
  rw [e0]
  refine ok_gd a0 (ok_lt (ok_gd a0 (ok_lt (ok_gd R.1.1 ?_))))
  have e3 : nI (V 0) - 1 = nI (V 0 - 1) := by
    have e2 := nI_pred (V 0 - 1)
    rw [show V 0 - 1 + 1 = V 0 by omega] at e2
    exact e2
  rw [v.2 0 (by decide), e3]
  have hF1 := fm_uI (S := fun a => a = r) (h := h) (a := r) (k := 0) (v := nI (V 0 - 1)) rfl
  have v1 := v.up 0 (V 0 - 1)
  have hv1 : WfV D (upV V 0 (V 0 - 1)) := by
    have g1 := hv.1
    refine ⟨?_, hv.2.1, hv.2.2.1, fun w hw => ?_⟩
    · show (if (0 : Nat) = 0 then V 0 - 1 else V 0) < _
      rw [if_pos rfl]
      omega
    · show (if 3 + w = 0 then V 0 - 1 else V (3 + w)) < _
      rw [if_neg (by omega)]
      exact hv.2.2.2 w hw
  refine ok_bd (ok_mono (ok_O_moveAll W (R.fm hF1 (fun i hi e => hr i hi e) W.1) v1 hv1 hr false) ?_)
  intro x h2 hq
  obtain ⟨rfl, hF2, v2⟩ := hq
  exact ok_ret ⟨rfl, hF1.trans hF2, v2⟩
end PT
