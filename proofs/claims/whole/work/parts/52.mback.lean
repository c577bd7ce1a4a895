/-! the reference: a turn back, and the trial row made like the state -/
section MB
variable {h : Hp} {m q : Nat} {D : DD} {V : Nat → Nat}
theorem upV_wf0 (hv : WfV D V) {x : Nat} (hx : x < 2 ^ 30) : WfV D (upV V 0 x) := by
  refine ⟨?_, hv.2.1, hv.2.2.1, fun w hw => ?_⟩
  · show (if (0 : Nat) = 0 then x else V 0) < _
    rw [if_pos rfl]
    exact hx
  · show (if 3 + w = 0 then x else V (3 + w)) < _
    rw [if_neg (by omega)]
    exact hv.2.2.2 w hw
theorem ok_m_aTurnBack (hm : LayM h m) (hq : hR h m 3 = some q) (hqm : m + 14 ≤ q) (R : RepQ h q D) (W : Wf D) (v : RepX h (m + 3) V) (hv : WfV D V) (hd : 0 < V 0) : Ok (f_m_aTurnBack m h) (fun x h' => x = nI (bkJ D V) ∧ Fk (sX m) h h' ∧ RepX h' (m + 3) (bkX D V)) := by
  obtain ⟨w1, w2, -, -, -, -, -, w8, w9, -⟩ := id W
  have e5 : (5 : Int32).toNatClampNeg = 5 := by decide
  have e6 : (6 : Int32).toNatClampNeg = 6 := by decide
  unfold f_m_aTurnBack
  rw [e5]
  have a50 : ai h (m + 3) 0 5 := ai_of (n := 5) v.1 (by decide) (by decide)
  refine ok_lt (ok_gd hm.1 (ok_bR hm.2.1.2.2.1 (ok_gd a50 (ok_lt (ok_gd a50 (ok_lt (ok_lt ?_)))))))
  have g50 : hI h (m + 3) 5 = nI (V 0) := v.2 5 (by decide)
  have e7 : nI (V 0) - 1 = nI (V 0 - 1) := by
    have e2 := nI_pred (V 0 - 1)
    rw [show V 0 - 1 + 1 = V 0 by omega] at e2
    exact e2
  rw [g50, e7]
  have vU : RepX (uI h (m + 3) 5 (nI (V 0 - 1))) (m + 3) (upV V 0 (V 0 - 1)) := v.up (k := 5) (by decide) (V 0 - 1)
  have hvU : WfV D (upV V 0 (V 0 - 1)) := upV_wf0 hv (by have := hv.1; omega)
  have hFU : Fk (sX m) h (uI h (m + 3) 5 (nI (V 0 - 1))) := fk_uI (Or.inr rfl)
  unfold bkJ bkX
  generalize upV V 0 (V 0 - 1) = U at vU hvU ⊢
  refine ok_up (dW D) (fun i st h' => st = (m, nI (mvJ D false U i), nI i) ∧ Fk (sX m) h h' ∧ RepX h' (m + 3) (mvV D false U i)) ?_ FU 0 _ _ (Nat.zero_le _) ⟨rfl, hFU, vU.ext (fun k _ => (if_neg (by omega)).symm)⟩ (by show _ < 10000; omega)
  intro k i st h' hi hI kk
  obtain ⟨rfl, hF, v'⟩ := hI
  have hm' := hm.fk hF
  have hq' : hR h' m 3 = some q := by rw [hF.2.2.2.1]; exact hq
  have R' : RepQ h' q D := R.fk hF (fun i k hi e => by rcases e with e | e <;> omega)
  show Ok (b_m_aTurnBack_14 k m (nI (mvJ D false U i)) (nI i) h') _
  unfold b_m_aTurnBack_14 b_m_aTurnBack_111 b_m_aTurnBack_113
  rw [e5, e6]
  refine ok_gd hm'.1 (ok_bR hq' (ok_gd R'.1.1 (ok_lt ?_)))
  rw [R'.2.1.2.2.1]
  have hJ := mvJ_le (D := D) (s := false) (V := U) (i := i)
  have b0 : mvV D false U i 0 = U 0 := mvV_lo (by decide)
  have b1 : mvV D false U i 1 = U 1 := mvV_lo (by decide)
  have g5 : hI h' (m + 3) 5 = nI (U 0) := by rw [v'.2 5 (by decide)]; show nI (mvV D false U i 0) = _; rw [b0]
  have g6 : hI h' (m + 3) 6 = nI (U 1) := by rw [v'.2 6 (by decide)]; show nI (mvV D false U i 1) = _; rw [b1]
  have a5 : ai h' (m + 3) 0 5 := ai_of (n := 5) v'.1 (by decide) (by decide)
  have a6 : ai h' (m + 3) 0 6 := ai_of (n := 6) v'.1 (by decide) (by decide)
  have hv2 := hvU.2.1
  have hv1 := hvU.1
  refine ok_ite (fun c => ?_) (fun c => ?_)
  · have e : i = dW D := by
      have := (nI_leI (by omega) (by omega)).mp c
      omega
    subst e
    exact ok_ret ⟨rfl, hF, v'⟩
  · have hl : i < dW D := by
      rcases Nat.lt_or_ge i (dW D) with e | e
      · exact e
      · exact absurd (nI_le e (by omega)) c
    have h5 : i < 5 := by omega
    have hT := w8 i hl
    have b3 : mvV D false U i (3 + i) = U (3 + i) := mvV_hi (Nat.le_refl _)
    refine ok_gd hm'.1 (ok_bR hm'.2.1.2.2.1 (ok_gd a5 (ok_lt (ok_gd hm'.1 (ok_bR hm'.2.1.2.2.1 (ok_gd a6 (ok_lt (ok_gd hm'.1 ?_))))))))
    rw [g5, g6]
    refine ok_bde (e_m_isGoing hm'.1 hq' R' W hl (by omega) (by omega)) (ok_ite (fun q1 => ?_) (fun q1 => ?_))
    · have hg : gnB D U i = false := (bI_z _).mp q1
      refine kk _ _ hl ⟨?_, hF, v'.ext (fun k _ => ?_)⟩
      · rw [nI_1]
        show _ = (m, nI (mvJ D false U i + mj D false U i), _)
        unfold mj
        rw [if_neg (by rw [hg]; simp)]
        rfl
      · rw [mvV_s]
        by_cases q2 : k = 3 + i
        · rw [if_pos q2, q2, b3]
          unfold mt
          rw [if_neg (by rw [hg]; simp)]
        · rw [if_neg q2]
    · have hg : gnB D U i = true := by
        cases e : gnB D U i with
        | true => rfl
        | false => exact absurd ((bI_z _).mpr e) q1
      have ai1 : ai h' (m + 3) 0 (nI i) := ai_of v'.1 (show i < 8 by omega) (by decide)
      have rr := R'.2.2.1 i hl
      have c1 : (nI i).toNatClampNeg = i := nI_clamp (by omega)
      refine ok_gd hm'.1 (ok_bR hm'.2.1.2.2.1 ?_)
      refine ok_gd hm'.1 (ok_bR hq' (ok_gd R'.1.1 (ok_bR (R'.1.2.1 1 (by decide)) (ok_gd (ai_of (R'.1.2.2.1 1 (by decide)) h5 (by decide)) (ok_lt ?_)))))
      refine ok_gd hm'.1 (ok_bR hq' (ok_gd R'.1.1 (ok_bR (R'.1.2.1 4 (by decide)) (ok_gd (ai_of R'.1.2.2.2.1 h5 (by decide)) (ok_lt ?_)))))
      refine ok_gd hm'.1 (ok_bR hm'.2.1.2.2.1 (ok_gd ai1 (ok_lt ?_)))
      refine ok_gd hm'.1 (ok_bR hq' (ok_gd R'.1.1 (ok_bR (R'.1.2.1 2 (by decide)) (ok_gd (ai_of (R'.1.2.2.1 2 (by decide)) h5 (by decide)) (ok_lt (ok_gd hm'.1 ?_))))))
      have hVb2 : U (3 + i) < 2 ^ 32 := by
        have q1 := hvU.2.2.2 i hl
        have q2 := (W.2.2.2.2.2.2.2.1 i hl).2.2.1
        omega
      rw [c1, v'.t h5 (by rw [b3]; exact hVb2), b3]
      have g1 : hI h' (q + 1 + 1) i = nI (dT D i) := rr.2.1
      have g2 : hI h' (q + 1 + 2) i = nI (dB D i) := rr.2.2.1
      have g3 : hL h' (q + 1 + 4) i = dG D i := rr.2.2.2.2
      rw [g1, g2, g3]
      have hU := hvU.2.2.2 i hl
      refine ok_bde (e_m_way hm'.1 hq' R' W hl (dB D i)) (ok_gd hm'.1 ?_)
      rw [sb_neg, ← dir_f]
      refine ok_bde (e_m_goes hm'.1 (by omega) hU (by omega) (by omega) (dir D false i) (hT.2.2.2.2.2.2.2.1 _ _ (nx_lt hU (by omega)))) (ok_gd ai1 (ok_lt (ok_gd hm'.1 (ok_lt ?_))))
      show Ok (if hI (uI (uI h' m 21 (bI (jk D i (dir D false i) (dB D i) (U (3 + i))))) (m + 3) i (nI (tp D i (dir D false i) (dB D i) (U (3 + i))))) m 21 = 0 then _ else _) _
      have ej : hI (uI (uI h' m 21 (bI (jk D i (dir D false i) (dB D i) (U (3 + i))))) (m + 3) i (nI (tp D i (dir D false i) (dB D i) (U (3 + i))))) m 21 = bI (jk D i (dir D false i) (dB D i) (U (3 + i))) := by
        rw [hI_uIa (by omega), hI_uIs]
      have hF1 : Fk (sX m) h (uI h' m 21 (bI (jk D i (dir D false i) (dB D i) (U (3 + i))))) := hF.trans (fk_uI (Or.inl ⟨rfl, rfl⟩))
      have hF2 : Fk (sX m) h (uI (uI h' m 21 (bI (jk D i (dir D false i) (dB D i) (U (3 + i))))) (m + 3) i (nI (tp D i (dir D false i) (dB D i) (U (3 + i))))) := hF1.trans (fk_uI (Or.inr rfl))
      have v1 : RepX (uI h' m 21 (bI (jk D i (dir D false i) (dB D i) (U (3 + i))))) (m + 3) (mvV D false U i) := v'.fk (fk_uI (S := fun a k => a = m ∧ k = 21) ⟨rfl, rfl⟩) (fun k e => by omega)
      have v2 : RepX (uI (uI h' m 21 (bI (jk D i (dir D false i) (dB D i) (U (3 + i))))) (m + 3) i (nI (tp D i (dir D false i) (dB D i) (U (3 + i))))) (m + 3) (mvV D false U (i + 1)) := (v1.up (k := i) (by omega) _).ext (fun k _ => by
        rw [mvV_s, mx_t h5]
        unfold upV
        by_cases q2 : k = 3 + i
        · rw [if_pos q2, if_pos q2]
          unfold mt
          rw [if_pos hg]
        · rw [if_neg q2, if_neg q2])
      refine ok_ite (fun q3 => ok_lt (kk _ _ hl ⟨?_, hF2, v2⟩)) (fun q3 => ok_lt (kk _ _ hl ⟨?_, hF2, v2⟩))
      · rw [ej] at q3
        rw [nI_1]
        show _ = (m, nI (mvJ D false U i + mj D false U i), _)
        unfold mj
        rw [if_neg (by rw [(bI_z _).mp q3]; simp), Int32.add_zero]
        rfl
      · rw [ej] at q3
        have hj : jk D i (dir D false i) (dB D i) (U (3 + i)) = true := by
          cases e : jk D i (dir D false i) (dB D i) (U (3 + i)) with
          | true => rfl
          | false => exact absurd ((bI_z _).mpr e) q3
        rw [nI_1, nI_1]
        show _ = (m, nI (mvJ D false U i + mj D false U i), _)
        unfold mj
        rw [if_pos ⟨hg, hj⟩]
/-- the trial row made like the state -/
theorem ok_m_works (hm : LayM h m) (v : RepX h (m + 2) V) : Ok (f_m_works m h) (fun _ h' => Fk (sX m) h h' ∧ RepX h' (m + 3) V) := by
  unfold f_m_works
  refine ok_lt (ok_mono (P := fun _ h' => Fk (sX m) h h' ∧ ∀ k, k < 8 → hI h' (m + 3) k = xv V k (hI h' (m + 3) k)) ?_ (fun _ h' hh => ⟨hh.1, by rw [hh.1.2.1]; exact hm.2.2.2.2.1, hh.2⟩))
  refine ok_up 8 (fun i st h' => st = (m, nI i) ∧ Fk (sX m) h h' ∧ ∀ k, k < i → hI h' (m + 3) k = xv V k (hI h' (m + 3) k)) ?_ FU 0 _ _ (Nat.zero_le _) ⟨rfl, Fk.rf, fun k hk => absurd hk (Nat.not_lt_zero _)⟩ (by show _ < 10000; omega)
  intro k i st h' hi hI kk
  obtain ⟨rfl, hF, hx⟩ := hI
  have hm' := hm.fk hF
  have v' : RepX h' (m + 2) V := v.fk hF (fun k e => by rcases e with e | e <;> omega)
  show Ok (b_m_works_2 k m (nI i) h') _
  unfold b_m_works_2
  refine ok_ite (fun c => ?_) (fun c => ?_)
  · have e : i = 8 := by
      have := (nI_leI (a := 8) (by decide) (by omega)).mp c
      omega
    subst e
    exact ok_ret ⟨hF, hx⟩
  · have hl : i < 8 := by
      rcases Nat.lt_or_ge i 8 with e | e
      · exact e
      · exact absurd (nI_le (a := 8) e (by omega)) c
    refine ok_gd hm'.1 (ok_bR hm'.2.1.2.2.1 (ok_gd hm'.1 (ok_bR hm'.2.1.2.1 (ok_gd (ai_of v'.1 hl (by decide)) (ok_lt (ok_gd (ai_of hm'.2.2.2.2.1 hl (by decide)) (ok_lt ?_)))))))
    rw [nI_clamp (n := i) (by omega)]
    refine kk _ _ hl ⟨by rw [nI_1], hF.trans (fk_uI (Or.inr rfl)), fun j hj => ?_⟩
    by_cases e : j = i
    · rw [e, hI_uIs]
      exact v'.2 i hl
    · rw [hI_uIk e]
      exact hx j (by omega)
end MB
