/-! the suspicion at the reference -/
def sSm (m a k : Nat) : Prop := (a = m ∧ (k = 21 ∨ k = 30 ∨ k = 31)) ∨ a = m + 10 ∨ a = m + 11
theorem sSm_lt {m a k : Nat} (e : sSm m a k) : a < m + 14 := by unfold sSm at e; omega
theorem suT_lt {D : DD} {t : Nat} (W : Wf D) (hsu : suW D < dW D) (d : Nat) : suT D t d < dT D (suW D) := by
  have hT := W.2.2.2.2.2.2.2.1 (suW D) hsu
  induction d with
  | zero => exact hT.2.2.2.2.2.2.1
  | succ d ih =>
    show (if gon (dK D (suW D)) d (dOil D - d) = true then _ else suT D t d) < _
    split
    · exact rs_lt (by omega) (nx_lt ih (by omega))
    · exact ih
section SM2
variable {h : Hp} {m q t : Nat} {D : DD}
theorem ok_m_replays (X : OX h m q D) (hsu : 0 < dSu D) (ht : t ≤ dT D (suW D)) : Ok (f_m_replays m (nI t) h) (fun _ h' => Fk (fun a k => (a = m ∧ k = 21) ∨ a = m + 10) h h' ∧ ∀ d, 1 ≤ d → d ≤ 99 → hI h' (m + 10) d = bI (suJ D t d)) := by
  have W := X.2.2.2.2
  have w1 := W.1
  have w5 := W.2.2.2.2.1
  have w7 := W.2.2.2.2.2.2.1
  have hsw : suW D < dW D := by unfold suW; omega
  have hT := W.2.2.2.2.2.2.2.1 (suW D) hsw
  have h5 : suW D < 5 := by omega
  obtain ⟨x1, x2, x3, rQ, -⟩ := id X
  obtain ⟨a0, ⟨a1, a2, a3, a4, a5, a6, a7, a8, a9, a10, -⟩, s1, s2, s3, s4, s5, s6, s7, s8, s9, s10, -⟩ := id x1
  obtain ⟨⟨b1, b2, b3, b4, b5, b6, b7, b8, b9, b10, b11⟩, ⟨c0, c1, c2, c3, c4, c5, c6, c7, c8⟩, qW, qX, qE, qK, qS⟩ := id rQ; have d0 := b2 0 (by decide); have d1 := b2 1 (by decide); have d2 := b2 2 (by decide); have d3 := b2 3 (by decide); have d4 := b2 4 (by decide); have d5 := b2 5 (by decide); have d6 := b2 6 (by decide); have d7 := b2 7 (by decide); have d8 := b2 8 (by decide); have d9 := b2 9 (by decide); have d10 := b2 10 (by decide); have d11 := b2 11 (by decide); have d12 := b2 12 (by decide); have d13 := b2 13 (by decide); have d14 := b2 14 (by decide); have d15 := b2 15 (by decide); have d16 := b2 16 (by decide); have e0 := b3 0 (by decide); have e1 := b3 1 (by decide); have e2 := b3 2 (by decide); have e3 := b3 3 (by decide); have f0 := b6 0 (by decide); have f1 := b6 1 (by decide); have f2 := b6 2 (by decide); have f3 := b6 3 (by decide); have f4 := b6 4 (by decide); have f5 := b6 5 (by decide)
  have e7 : hI h q 7 = nI (suW D) := by
    rw [c7]
    exact if_neg (by omega)
  have l28 : Ok (b_m_replays_28 m (nI (suW D)) (suG D t) h) (fun _ h' => Fk (fun a k => (a = m ∧ k = 21) ∨ a = m + 10) h h' ∧ ∀ d, 1 ≤ d → d ≤ 99 → hI h' (m + 10) d = bI (suJ D t d)) := by
    unfold b_m_replays_28
    (try unfold QB); (try unfold QM); repeat (first | (with_reducible refine ok_lt ?_) | ((with_reducible refine ok_gd ?_ ?_); first | assumption | exact zb0 | exact zb1 | ((with_reducible apply ai_of) <;> first | assumption | omega | decide) | exact ai_lit (by assumption) (by decide) (by decide) (by decide)) | (refine ok_bR (by assumption) ?_))
    (try simp (disch := omega) only [nI_clamp, cl0, cl1, cl2, cl3, cl4, cl5, cl6, cl7, cl8])
    have gA : hI h (q + 1 + 3) (suW D) = nI (suT D t 0) := (qW (suW D) hsw).2.2.2.1
    rw [gA, c0]
    refine ok_up 99 (fun i st h' => st = (m, nI (suW D), suG D t, nI (suT D t i), nI (dOil D - i), nI (i + 1)) ∧ Fk (fun a k => (a = m ∧ k = 21) ∨ a = m + 10) h h' ∧ ∀ d, 1 ≤ d → d ≤ i → hI h' (m + 10) d = bI (suJ D t d)) ?_ FU 0 _ _ (Nat.zero_le _) ⟨rfl, Fk.rf, fun d h1 h2 => by omega⟩ (by show _ < 10000; decide)
    intro k i st h' hi hI' kk
    obtain ⟨rfl, hF, hb⟩ := hI'
    have X' := X.fk hF (fun a k e => by omega)
    show Ok (b_m_replays_52 k m (nI (suW D)) (suG D t) (nI (suT D t i)) (nI (dOil D - i)) (nI (i + 1)) h') _
    unfold b_m_replays_52
    refine ok_ilt (a := 99) (by decide) (by omega) (fun c => ok_ret ⟨hF, fun d h1 h2 => hb d h1 (by omega)⟩) (fun c => ?_)
    have hst := suT_lt (t := t) W hsw i
    obtain ⟨y1, y2, y3, rQ', -⟩ := id X'
    obtain ⟨v0, ⟨v1, v2, v3, v4, v5, v6, v7, v8, v9, v10, -⟩, z1, z2, z3, z4, z5, z6, z7, z8, z9, z10, -⟩ := id y1
    have hi100 : i + 1 < 100 := by omega
    (try unfold QB); (try unfold QM); repeat (first | (with_reducible refine ok_lt ?_) | ((with_reducible refine ok_gd ?_ ?_); first | assumption | exact zb0 | exact zb1 | ((with_reducible apply ai_of) <;> first | assumption | omega | decide) | exact ai_lit (by assumption) (by decide) (by decide) (by decide)) | (refine ok_bR (by assumption) ?_))
    (try simp (disch := omega) only [nI_clamp, cl0, cl1, cl2, cl3, cl4, cl5, cl6, cl7, cl8])
    rw [nI_pred]
    generalize hH : uI h' (m + 10) (i + 1) 0 = H
    have hFH : Fk (fun a k => (a = m ∧ k = 21) ∨ a = m + 10) h H := by
      rw [← hH]
      exact hF.trans (fk_uI (Or.inr rfl))
    have XH := X.fk hFH (fun a k e => by omega)
    obtain ⟨g1, g2, g3, rQH, -⟩ := id XH
    have hsj : suJ D t (i + 1) = (gon (dK D (suW D)) i (dOil D - i) && gb (suG D t) (nx (dT D (suW D)) (dfw D (suW D)) (dB D (suW D)) (suT D t i))) := rfl
    have hst1 : suT D t (i + 1) = if gon (dK D (suW D)) i (dOil D - i) = true then rs (dT D (suW D)) (suG D t) (dfw D (suW D)) 2 (nx (dT D (suW D)) (dfw D (suW D)) (dB D (suW D)) (suT D t i)) else suT D t i := rfl
    have l132 : ∀ (h2 : Hp), Fk (fun a k => (a = m ∧ k = 21) ∨ a = m + 10) h h2 → (∀ d, 1 ≤ d → d ≤ i + 1 → hI h2 (m + 10) d = bI (suJ D t d)) → Ok (b_m_replays_132 k m (nI (suW D)) (suG D t) (nI (suT D t (i + 1))) (nI (dOil D - i)) (nI (i + 1)) h2) (fun _ h' => Fk (fun a k => (a = m ∧ k = 21) ∨ a = m + 10) h h' ∧ ∀ d, 1 ≤ d → d ≤ 99 → hI h' (m + 10) d = bI (suJ D t d)) := by
      intro h2 hF2 hb2
      unfold b_m_replays_132 b_m_replays_144
      refine ok_ile (b := 0) (by omega) (by decide) (fun e => ok_lt (kk _ _ (by omega) ⟨?_, hF2, hb2⟩)) (fun e => ok_lt (kk _ _ (by omega) ⟨?_, hF2, hb2⟩))
      · rw [show dOil D - i = 0 by omega, show dOil D - (i + 1) = 0 by omega, nI_1]
        rfl
      · rw [nI_s e, nI_1, show dOil D - i - 1 = dOil D - (i + 1) by omega]
    refine ok_bde (e_m_isGoing g1.1 g2 rQH W hsw (by omega) (by omega)) ?_
    refine ok_ib (fun cg => ?_) (fun cg => ?_)
    · have e1 : nI (suT D t i) = nI (suT D t (i + 1)) := by rw [hst1, cg]; rfl
      rw [e1]
      refine l132 H hFH (fun d h1 h2 => ?_)
      by_cases e : d = i + 1
      · rw [e, ← hH, hI_uIs, hsj, cg]
        rfl
      · rw [← hH, hI_uIk e]
        exact hb d h1 (by omega)
    · rw [cg, if_pos rfl] at hst1
      rw [cg, Bool.true_and] at hsj
      have rr := rQH.2.2.1 (suW D) hsw
      have bb1 := rQH.1.1
      have dd1 := rQH.1.2.1 1 (by decide)
      have dd2 := rQH.1.2.1 2 (by decide)
      have ee1 := rQH.1.2.2.1 1 (by decide)
      have ee2 := rQH.1.2.2.1 2 (by decide)
      have w0 := g1.1
      (try unfold QB); (try unfold QM); repeat (first | (with_reducible refine ok_lt ?_) | ((with_reducible refine ok_gd ?_ ?_); first | assumption | exact zb0 | exact zb1 | ((with_reducible apply ai_of) <;> first | assumption | omega | decide) | exact ai_lit (by assumption) (by decide) (by decide) (by decide)) | (refine ok_bR (by assumption) ?_))
      (try simp (disch := omega) only [nI_clamp, cl0, cl1, cl2, cl3, cl4, cl5, cl6, cl7, cl8])
      have gT : hI H (q + 1 + 1) (suW D) = nI (dT D (suW D)) := rr.2.1
      have gB : hI H (q + 1 + 2) (suW D) = nI (dB D (suW D)) := rr.2.2.1
      rw [gT, gB]
      refine ok_bde (e_m_way w0 g2 rQH W hsw (dB D (suW D))) (ok_gd w0 ?_)
      refine ok_bde (e_m_goes w0 (by omega) hst (by omega) (by omega) (dfw D (suW D)) (suG_rs (by omega) (by omega) (nx_lt hst (by omega)))) ?_
      have v10' := g1.2.1.2.2.2.2.2.2.2.2.2.1
      refine ok_gd w0 (ok_bR v10' (ok_gd w0 (ok_lt ?_)))
      rw [hI_uIs, ← hst1]
      have z10' := g1.2.2.2.2.2.2.2.2.2.2.2.1
      have fin : ∀ y : Int32, y = bI (suJ D t (i + 1)) → Ok (b_m_replays_131 k m (nI (suW D)) (suG D t) (nI (suT D t (i + 1))) (nI (dOil D - i)) (nI (i + 1)) y (nI (i + 1)) (m + 10) (uI H m 21 (bI (gb (suG D t) (nx (dT D (suW D)) (dfw D (suW D)) (dB D (suW D)) (suT D t i)))))) (fun _ h' => Fk (fun a k => (a = m ∧ k = 21) ∨ a = m + 10) h h' ∧ ∀ d, 1 ≤ d → d ≤ 99 → hI h' (m + 10) d = bI (suJ D t d)) := by
        intro y hy
        unfold b_m_replays_131
        refine ok_gd (ai_of z10' hi100 (by decide)) (ok_lt ?_)
        (try simp (disch := omega) only [nI_clamp, cl0, cl1, cl2, cl3, cl4, cl5, cl6, cl7, cl8])
        refine l132 _ ((hFH.trans (fk_uI (Or.inl ⟨rfl, rfl⟩))).trans (fk_uI (Or.inr rfl))) (fun d h1 h2 => ?_)
        by_cases e : d = i + 1
        · rw [e, hI_uIs, hy]
        · rw [hI_uIk e, hI_uIa (by omega), ← hH, hI_uIk e]
          exact hb d h1 (by omega)
      refine ok_ib (fun cj => fin _ ?_) (fun cj => fin _ ?_)
      · rw [hsj, cj]
        rfl
      · rw [hsj, cj]
        rfl
  unfold f_m_replays
  (try unfold QB); (try unfold QM); repeat (first | (with_reducible refine ok_lt ?_) | ((with_reducible refine ok_gd ?_ ?_); first | assumption | exact zb0 | exact zb1 | ((with_reducible apply ai_of) <;> first | assumption | omega | decide) | exact ai_lit (by assumption) (by decide) (by decide) (by decide)) | (refine ok_bR (by assumption) ?_))
  rw [e7]
  (try unfold QB); (try unfold QM); repeat (first | (with_reducible refine ok_lt ?_) | ((with_reducible refine ok_gd ?_ ?_); first | assumption | exact zb0 | exact zb1 | ((with_reducible apply ai_of) <;> first | assumption | omega | decide) | exact ai_lit (by assumption) (by decide) (by decide) (by decide)) | (refine ok_bR (by assumption) ?_))
  (try simp (disch := omega) only [nI_clamp, cl0, cl1, cl2, cl3, cl4, cl5, cl6, cl7, cl8])
  have gT : hI h (q + 1 + 1) (suW D) = nI (dT D (suW D)) := (qW (suW D) hsw).2.1
  rw [gT]
  refine ok_ieq (by omega) (by omega) (fun c => ?_) (fun c => ?_)
  · have e : suG D t = 0 := if_neg (by omega)
    rw [e] at l28
    exact l28
  · have e : suG D t = (1 : Int64) <<< ((nI t).toInt64 &&& 63) := if_pos (by omega)
    rw [e] at l28
    exact l28
theorem ok_m_wrong (X : OX h m q D) (hsu : 0 < dSu D) (ht : t ≤ dT D (suW D)) : Ok (f_m_wrong m (nI t) h) (fun y h' => y = oI (suAg D t) ∧ Fk (fun a k => (a = m ∧ k = 21) ∨ a = m + 10) h h' ∧ ∀ d, 1 ≤ d → d ≤ 99 → hI h' (m + 10) d = bI (suJ D t d)) := by
  have W := X.2.2.2.2
  have w4 := W.2.2.2.1
  unfold f_m_wrong
  refine ok_gd X.1.1 (ok_bd (ok_mono (ok_m_replays X hsu ht) ?_))
  intro _ h1 hx
  obtain ⟨hF, hb⟩ := hx
  have X1 := X.fk hF (fun a k e => by omega)
  obtain ⟨x1, x2, x3, rQ, -⟩ := id X1
  obtain ⟨a0, ⟨a1, a2, a3, a4, a5, a6, a7, a8, a9, a10, -⟩, s1, s2, s3, s4, s5, s6, s7, s8, s9, s10, -⟩ := id x1
  obtain ⟨⟨b1, b2, b3, b4, b5, b6, b7, b8, b9, b10, b11⟩, ⟨c0, c1, c2, c3, c4, c5, c6, c7, c8⟩, qW, qX, qE, qK, qS⟩ := id rQ; have d0 := b2 0 (by decide); have d1 := b2 1 (by decide); have d2 := b2 2 (by decide); have d3 := b2 3 (by decide); have d4 := b2 4 (by decide); have d5 := b2 5 (by decide); have d6 := b2 6 (by decide); have d7 := b2 7 (by decide); have d8 := b2 8 (by decide); have d9 := b2 9 (by decide); have d10 := b2 10 (by decide); have d11 := b2 11 (by decide); have d12 := b2 12 (by decide); have d13 := b2 13 (by decide); have d14 := b2 14 (by decide); have d15 := b2 15 (by decide); have d16 := b2 16 (by decide); have e0 := b3 0 (by decide); have e1 := b3 1 (by decide); have e2 := b3 2 (by decide); have e3 := b3 3 (by decide); have f0 := b6 0 (by decide); have f1 := b6 1 (by decide); have f2 := b6 2 (by decide); have f3 := b6 3 (by decide); have f4 := b6 4 (by decide); have f5 := b6 5 (by decide)
  refine ok_lt (ok_up (dSe D) (fun i st h' => st = (m, nI i) ∧ h' = h1 ∧ ∀ e, e < i → (suJ D t (dSd D e) != decide (dSj D e = 1)) = false) ?_ FU 0 _ _ (Nat.zero_le _) ⟨rfl, rfl, fun e he => absurd he (Nat.not_lt_zero _)⟩ (by show _ < 10000; omega))
  intro k i st h' hi hI' kk
  obtain ⟨rfl, rfl, hno⟩ := hI'
  show Ok (b_m_wrong_7 k m (nI i) h') _
  unfold b_m_wrong_7
  (try unfold QB); (try unfold QM); repeat (first | (with_reducible refine ok_lt ?_) | ((with_reducible refine ok_gd ?_ ?_); first | assumption | exact zb0 | exact zb1 | ((with_reducible apply ai_of) <;> first | assumption | omega | decide) | exact ai_lit (by assumption) (by decide) (by decide) (by decide)) | (refine ok_bR (by assumption) ?_))
  rw [c8]
  refine ok_it hi (by omega) (fun e => ok_ret ⟨?_, hF, hb⟩) (fun hl => ?_)
  · unfold suAg
    rw [fd_none _ _ (fun e _ h2 => hno e (by omega))]
    rfl
  · have hS := W.2.2.2.2.2.2.2.2.2.2.2.2 i hl
    have hi5 : i < 5 := by omega
    have hd100 : dSd D i < 100 := by omega
    have qs := qS i hl
    (try unfold QB); (try unfold QM); repeat (first | (with_reducible refine ok_lt ?_) | ((with_reducible refine ok_gd ?_ ?_); first | assumption | exact zb0 | exact zb1 | ((with_reducible apply ai_of) <;> first | assumption | omega | decide) | exact ai_lit (by assumption) (by decide) (by decide) (by decide)) | (refine ok_bR (by assumption) ?_))
    (try simp (disch := omega) only [nI_clamp, cl0, cl1, cl2, cl3, cl4, cl5, cl6, cl7, cl8])
    have g13 : hI h' (q + 1 + 12) i = nI (dSd D i) := qs.1
    rw [g13]
    (try unfold QB); (try unfold QM); repeat (first | (with_reducible refine ok_lt ?_) | ((with_reducible refine ok_gd ?_ ?_); first | assumption | exact zb0 | exact zb1 | ((with_reducible apply ai_of) <;> first | assumption | omega | decide) | exact ai_lit (by assumption) (by decide) (by decide) (by decide)) | (refine ok_bR (by assumption) ?_))
    (try simp (disch := omega) only [nI_clamp, cl0, cl1, cl2, cl3, cl4, cl5, cl6, cl7, cl8])
    have g14 : hI h' (q + 1 + 13) i = nI (dSj D i) := qs.2
    rw [hb _ hS.1 (by omega), g14]
    have hcmp : (bI (suJ D t (dSd D i)) = nI (dSj D i)) ↔ (suJ D t (dSd D i) != decide (dSj D i = 1)) = false := by
      have e : dSj D i = 0 ∨ dSj D i = 1 := by omega
      rcases e with e | e
      · rw [e]
        cases suJ D t (dSd D i) <;> decide
      · rw [e]
        cases suJ D t (dSd D i) <;> decide
    refine ok_ite (fun c => kk _ _ hl ⟨by rw [nI_1], rfl, fun e he => ?_⟩) (fun c => ok_ret ⟨?_, hF, hb⟩)
    · by_cases q : e = i
      · rw [q]
        exact hcmp.mp c
      · exact hno e (by omega)
    · have c2 : (suJ D t (dSd D i) != decide (dSj D i = 1)) = true := by
        cases e : (suJ D t (dSd D i) != decide (dSj D i = 1)) with
        | true => rfl
        | false => exact absurd (hcmp.mpr e) c
      unfold suAg
      rw [fd_some _ 0 i (Nat.zero_le _) (by omega) c2 (fun e _ h2 => hno e h2)]
      rfl
/-- the fitting tooth of a number -/
def suFd (D : DD) (v : Int32) : Nat → Int32
  | 0 => -1
  | n + 1 => if suF D n = true ∧ nI (suC D n) = v then nI n else suFd D v n
set_option maxHeartbeats 1000000 in
theorem ok_m_fitting (X : OX h m q D) (hsu : 0 < dSu D) (v : Int32) : Ok (f_m_fitting m v h) (fun y h' => y = suFd D v (dT D (suW D) + 1) ∧ Fk (sSm m) h h' ∧ hI h' m 30 = nI (suN D) ∧ ∀ d, 1 ≤ d → d ≤ 99 → hI h' (m + 11) d = nI (cntN (fun t => suF D t && suJ D t d) (dT D (suW D) + 1))) := by
  have W := X.2.2.2.2
  have w1 := W.1
  have w7 := W.2.2.2.2.2.2.1
  have w4 := W.2.2.2.1
  have hsw : suW D < dW D := by unfold suW; omega
  have hT := W.2.2.2.2.2.2.2.1 (suW D) hsw
  have h5 : suW D < 5 := by omega
  unfold f_m_fitting
  refine ok_gd X.1.1 (ok_lt (ok_lt (ok_lt ?_)))
  refine ok_up 100 (fun i st h' => st = (m, v, -1, nI i) ∧ Fk (sSm m) h h' ∧ hI h' m 30 = 0 ∧ ∀ d, d < i → hI h' (m + 11) d = 0) ?_ FU 0 _ _ (Nat.zero_le _) ⟨rfl, fk_uI (Or.inl ⟨rfl, Or.inr (Or.inl rfl)⟩), hI_uIs, fun d hd => absurd hd (Nat.not_lt_zero _)⟩ (by show _ < 10000; decide)
  intro k i st h' hi hI' kk
  obtain ⟨rfl, hF, h30, hc⟩ := hI'
  have X' := X.fk hF (fun a k e => sSm_lt e)
  obtain ⟨a0, ⟨a1, a2, a3, a4, a5, a6, a7, a8, a9, a10, a11, -⟩, s1, s2, s3, s4, s5, s6, s7, s8, s9, s10, s11, -⟩ := id X'.1
  show Ok (b_m_fitting_9 k m v (-1) (nI i) h') _
  unfold b_m_fitting_9
  refine ok_ilt (a := 99) (by decide) (by omega) (fun c => ?_) (fun c => ?_)
  · refine ok_lt ?_
    clear a0 a1 a2 a3 a4 a5 a6 a7 a8 a9 a10 a11 s1 s2 s3 s4 s5 s6 s7 s8 s9 s10 s11
    refine ok_up (dT D (suW D) + 1) (fun n st h2 => st = (m, v, suFd D v n, nI n) ∧ Fk (sSm m) h h2 ∧ hI h2 m 30 = nI (suC D n) ∧ ∀ d, 1 ≤ d → d ≤ 99 → hI h2 (m + 11) d = nI (cntN (fun t => suF D t && suJ D t d) n)) ?_ FU 0 _ _ (Nat.zero_le _) ⟨rfl, hF, h30, fun d _ h2 => hc d (by omega)⟩ (by show _ < 10000; omega)
    intro k2 n st h2 hn hI2 kk2
    obtain ⟨rfl, hF2, g30, gc⟩ := hI2
    have X2 := X.fk hF2 (fun a k e => sSm_lt e)
    obtain ⟨x1, x2, x3, rQ, -⟩ := id X2
    have a0 := x1.1
    obtain ⟨⟨b1, b2, b3, b4, b5, b6, b7, b8, b9, b10, b11⟩, ⟨c0, c1, c2, c3, c4, c5, c6, c7, c8⟩, qW, qX, qE, qK, qS⟩ := id rQ; have d0 := b2 0 (by decide); have d1 := b2 1 (by decide); have d2 := b2 2 (by decide); have d3 := b2 3 (by decide); have d4 := b2 4 (by decide); have d5 := b2 5 (by decide); have d6 := b2 6 (by decide); have d7 := b2 7 (by decide); have d8 := b2 8 (by decide); have d9 := b2 9 (by decide); have d10 := b2 10 (by decide); have d11 := b2 11 (by decide); have d12 := b2 12 (by decide); have d13 := b2 13 (by decide); have d14 := b2 14 (by decide); have d15 := b2 15 (by decide); have d16 := b2 16 (by decide); have e0 := b3 0 (by decide); have e1 := b3 1 (by decide); have e2 := b3 2 (by decide); have e3 := b3 3 (by decide); have f0 := b6 0 (by decide); have f1 := b6 1 (by decide); have f2 := b6 2 (by decide); have f3 := b6 3 (by decide); have f4 := b6 4 (by decide); have f5 := b6 5 (by decide)
    have e7 : hI h2 q 7 = nI (suW D) := by
      rw [c7]
      exact if_neg (by omega)
    show Ok (b_m_fitting_30 k2 m v (suFd D v n) (nI n) h2) _
    unfold b_m_fitting_30 b_m_fitting_115
    (try unfold QB); (try unfold QM); repeat (first | (with_reducible refine ok_lt ?_) | ((with_reducible refine ok_gd ?_ ?_); first | assumption | exact zb0 | exact zb1 | ((with_reducible apply ai_of) <;> first | assumption | omega | decide) | exact ai_lit (by assumption) (by decide) (by decide) (by decide)) | (refine ok_bR (by assumption) ?_))
    rw [e7]
    (try unfold QB); (try unfold QM); repeat (first | (with_reducible refine ok_lt ?_) | ((with_reducible refine ok_gd ?_ ?_); first | assumption | exact zb0 | exact zb1 | ((with_reducible apply ai_of) <;> first | assumption | omega | decide) | exact ai_lit (by assumption) (by decide) (by decide) (by decide)) | (refine ok_bR (by assumption) ?_))
    (try simp (disch := omega) only [nI_clamp, cl0, cl1, cl2, cl3, cl4, cl5, cl6, cl7, cl8])
    have gT : hI h2 (q + 1 + 1) (suW D) = nI (dT D (suW D)) := (qW (suW D) hsw).2.1
    rw [gT]
    have hs : suFd D v (n + 1) = if suF D n = true ∧ nI (suC D n) = v then nI n else suFd D v n := rfl
    have hcs : ∀ d, cntN (fun t => suF D t && suJ D t d) (n + 1) = cntN (fun t => suF D t && suJ D t d) n + (if (suF D n && suJ D n d) = true then 1 else 0) := fun d => rfl
    refine ok_ilt (by omega) (by omega) (fun c => ?_) (fun c => ?_)
    · have en : n = dT D (suW D) + 1 := by omega
      subst en
      exact ok_ret ⟨rfl, hF2, g30, gc⟩
    · refine ok_gd a0 (ok_bd (ok_mono (ok_m_wrong X2 hsu (t := n) (by omega)) ?_))
      intro y h3 hx3
      obtain ⟨rfl, hF3, hb3⟩ := hx3
      have hF4 : Fk (sSm m) h h3 := hF2.trans (hF3.mono (fun a k e => by unfold sSm; omega))
      have X3 := X.fk hF4 (fun a k e => sSm_lt e)
      have i30 : hI h3 m 30 = nI (suC D n) := by rw [(hF3.2.2.2.2 m 30 (by omega)).1]; exact g30
      have ic : ∀ d, 1 ≤ d → d ≤ 99 → hI h3 (m + 11) d = nI (cntN (fun t => suF D t && suJ D t d) n) := fun d h1 h2 => by rw [(hF3.2.2.2.2 (m + 11) d (by omega)).1]; exact gc d h1 h2
      cases hag : suAg D n with
      | none =>
        have hfi : suF D n = true := (suF_ag D n).mpr hag
        have hsc : suC D (n + 1) = suC D n + 1 := by rw [suC_s, hfi]; rfl
        refine ok_t rfl (ok_gd X3.1.1 (ok_lt ?_))
        rw [i30]
        have l72 : ∀ y : Int32, y = suFd D v (n + 1) → Ok (b_m_fitting_72 k2 m v y (nI n) h3) (fun y h' => y = suFd D v (dT D (suW D) + 1) ∧ Fk (sSm m) h h' ∧ hI h' m 30 = nI (suN D) ∧ ∀ d, 1 ≤ d → d ≤ 99 → hI h' (m + 11) d = nI (cntN (fun t => suF D t && suJ D t d) (dT D (suW D) + 1))) := by
          intro y hy
          subst hy
          unfold b_m_fitting_72
          refine ok_gd X3.1.1 (ok_lt (ok_gd X3.1.1 (ok_lt (ok_lt ?_))))
          rw [i30, nI_1]
          refine ok_up 99 (fun a st h4 => st = (m, v, suFd D v (n + 1), nI n, nI (a + 1)) ∧ Fk (sSm m) h h4 ∧ hI h4 m 30 = nI (suC D (n + 1)) ∧ (∀ d, 1 ≤ d → d ≤ 99 → hI h4 (m + 10) d = bI (suJ D n d)) ∧ ∀ d, 1 ≤ d → d ≤ 99 → hI h4 (m + 11) d = nI (cntN (fun t => suF D t && suJ D t d) (if d ≤ a then n + 1 else n))) ?_ FU 0 _ _ (Nat.zero_le _) ⟨rfl, hF4.trans (fk_uI (Or.inl ⟨rfl, Or.inr (Or.inl rfl)⟩)), by rw [hI_uIs, hsc], fun d h1 h2 => by rw [hI_uIa (by omega)]; exact hb3 d h1 h2, fun d h1 h2 => by rw [hI_uIa (by omega), if_neg (by omega)]; exact ic d h1 h2⟩ (by show _ < 10000; decide)
          intro k3 a st h4 ha hI4 kk3
          obtain ⟨rfl, hF5, j30, jb, jc⟩ := hI4
          have X5 := X.fk hF5 (fun a k e => sSm_lt e)
          obtain ⟨v0, ⟨v1, v2, v3, v4, v5, v6, v7, v8, v9, v10, v11, -⟩, z1, z2, z3, z4, z5, z6, z7, z8, z9, z10, z11, -⟩ := id X5.1
          show Ok (b_m_fitting_85 k2 k3 m v (suFd D v (n + 1)) (nI n) (nI (a + 1)) h4) _
          unfold b_m_fitting_85 b_m_fitting_115
          refine ok_ilt (a := 99) (by decide) (by omega) (fun c => kk2 _ _ (by omega) ⟨by rw [nI_1], hF5, j30, fun d h1 h2 => by rw [jc d h1 h2, if_pos (by omega)]⟩) (fun c => ?_)
          have ha100 : a + 1 < 100 := by omega
          (try unfold QB); (try unfold QM); repeat (first | (with_reducible refine ok_lt ?_) | ((with_reducible refine ok_gd ?_ ?_); first | assumption | exact zb0 | exact zb1 | ((with_reducible apply ai_of) <;> first | assumption | omega | decide) | exact ai_lit (by assumption) (by decide) (by decide) (by decide)) | (refine ok_bR (by assumption) ?_))
          (try simp (disch := omega) only [nI_clamp, cl0, cl1, cl2, cl3, cl4, cl5, cl6, cl7, cl8])
          rw [jc (a + 1) (by omega) (by omega), if_neg (by omega), jb (a + 1) (by omega) (by omega)]
          have eb : bI (suJ D n (a + 1)) = nI (if (suF D n && suJ D n (a + 1)) = true then 1 else 0) := by
            rw [hfi]
            cases suJ D n (a + 1) <;> rfl
          rw [eb, nI_add, ← hcs]
          refine kk3 _ _ (by omega) ⟨by rw [nI_1], hF5.trans (fk_uI (Or.inr (Or.inr rfl))), by rw [hI_uIa (by omega)]; exact j30, fun d h1 h2 => by rw [hI_uIa (by omega)]; exact jb d h1 h2, fun d h1 h2 => ?_⟩
          rw [hI_uI]
          by_cases e : d = a + 1
          · rw [if_pos ⟨rfl, e⟩, if_pos (by omega), e]
          · rw [if_neg (fun g => e g.2), jc d h1 h2]
            by_cases e2 : d ≤ a
            · rw [if_pos e2, if_pos (by omega)]
            · rw [if_neg e2, if_neg (by omega)]
        refine ok_ite (fun cv => l72 _ ?_) (fun cv => l72 _ ?_)
        · rw [hs, if_pos ⟨hfi, cv⟩]
        · rw [hs, if_neg (fun g => cv g.2)]
      | some n2 =>
        have hfi : suF D n = false := by
          cases e : suF D n with
          | false => rfl
          | true =>
            have := (suF_ag D n).mp e
            rw [hag] at this
            cases this
        have hsc : suC D (n + 1) = suC D n := by rw [suC_s, hfi]; rfl
        have hn2 := suAg_lt hag
        refine ok_f (oI_ne (by omega)) (kk2 _ _ (by omega) ⟨?_, hF4, by rw [hsc]; exact i30, fun d h1 h2 => ?_⟩)
        · rw [hs, if_neg (fun g => by rw [hfi] at g; cases g.1), nI_1]
        · rw [ic d h1 h2, hcs, hfi]
          rfl
  · have hi100 : i < 100 := by omega
    (try unfold QB); (try unfold QM); repeat (first | (with_reducible refine ok_lt ?_) | ((with_reducible refine ok_gd ?_ ?_); first | assumption | exact zb0 | exact zb1 | ((with_reducible apply ai_of) <;> first | assumption | omega | decide) | exact ai_lit (by assumption) (by decide) (by decide) (by decide)) | (refine ok_bR (by assumption) ?_))
    (try simp (disch := omega) only [nI_clamp, cl0, cl1, cl2, cl3, cl4, cl5, cl6, cl7, cl8])
    refine kk _ _ (by omega) ⟨by rw [nI_1], hF.trans (fk_uI (Or.inr (Or.inr rfl))), by rw [hI_uIa (by omega)]; exact h30, fun d hd => ?_⟩
    rw [hI_uI]
    by_cases e : d = i
    · rw [if_pos ⟨rfl, e⟩]
    · rw [if_neg (fun g => e g.2)]
      exact hc d (by omega)
theorem ok_m_looks (X : OX h m q D) (hsu : 0 < dSu D) : Ok (f_m_looks m h) (fun y h' => y = suA (suL D 99) (suL D 99).1 ∧ Fk (sSm m) h h' ∧ hI h' m 31 = suA (suL D 99) (suL D 99).2) := by
  have W := X.2.2.2.2
  have w7 := W.2.2.2.2.2.2.1
  have hsw : suW D < dW D := by unfold suW; omega
  have hT := W.2.2.2.2.2.2.2.1 (suW D) hsw
  have hn61 : suN D ≤ 61 := by
    have := cnt_le (suF D) (dT D (suW D) + 1)
    unfold suN suC
    omega
  unfold f_m_looks
  refine ok_gd X.1.1 (ok_bd (ok_mono (ok_m_fitting X hsu (-1)) ?_))
  intro _ h1 hx
  obtain ⟨-, hF1, h30, hc⟩ := hx
  have X1 := X.fk hF1 (fun a k e => sSm_lt e)
  refine ok_lt (ok_gd X1.1.1 (ok_lt (ok_lt ?_)))
  refine ok_up 99 (fun i st h' => st = (m, suA (suL D i) (suL D i).1, nI (i + 1)) ∧ Fk (sSm m) h h' ∧ hI h' m 30 = nI (suN D) ∧ (∀ d, 1 ≤ d → d ≤ 99 → hI h' (m + 11) d = nI (cntN (fun t => suF D t && suJ D t d) (dT D (suW D) + 1))) ∧ hI h' m 31 = suA (suL D i) (suL D i).2) ?_ FU 0 _ _ (Nat.zero_le _) ⟨rfl, hF1.trans (fk_uI (Or.inl ⟨rfl, Or.inr (Or.inr rfl)⟩)), by rw [hI_uIk (by decide)]; exact h30, fun d h1 h2 => by rw [hI_uIa (by omega)]; exact hc d h1 h2, by rw [hI_uIs]; rfl⟩ (by show _ < 10000; decide)
  intro k i st h' hi hI' kk
  obtain ⟨rfl, hF, g30, gc, g31⟩ := hI'
  have X' := X.fk hF (fun a k e => sSm_lt e)
  obtain ⟨a0, ⟨a1, a2, a3, a4, a5, a6, a7, a8, a9, a10, a11, -⟩, s1, s2, s3, s4, s5, s6, s7, s8, s9, s10, s11, -⟩ := id X'.1
  show Ok (b_m_looks_17 k m (suA (suL D i) (suL D i).1) (nI (i + 1)) h') _
  unfold b_m_looks_17
  refine ok_ilt (a := 99) (by decide) (by omega) (fun c => ?_) (fun c => ?_)
  · rw [show i = 99 by omega] at g31 ⊢
    exact ok_ret ⟨rfl, hF, g31⟩
  · (try unfold QB); (try unfold QM); repeat (first | (with_reducible refine ok_lt ?_) | ((with_reducible refine ok_gd ?_ ?_); first | assumption | exact zb0 | exact zb1 | ((with_reducible apply ai_of) <;> first | assumption | omega | decide) | exact ai_lit (by assumption) (by decide) (by decide) (by decide)) | (refine ok_bR (by assumption) ?_))
    rw [g30]
    refine ok_ile (b := 0) (by omega) (by decide) (fun z => ?_) (fun z => ?_)
    · have hz : suN D = 0 := by omega
      rw [suL_0 hz] at g31 ⊢
      rw [suL_0 hz]
      exact ok_ret ⟨rfl, hF, g31⟩
    · have hi100 : i + 1 < 100 := by omega
      have hcle : cntN (fun t => suF D t && suJ D t (i + 1)) (dT D (suW D) + 1) ≤ suN D := by
        have h : ∀ n, cntN (fun t => suF D t && suJ D t (i + 1)) n ≤ suC D n := by
          intro n
          induction n with
          | zero => exact Nat.le_refl _
          | succ n ih =>
            rw [suC_s]
            show cntN _ n + (if (suF D n && suJ D n (i + 1)) = true then 1 else 0) ≤ _
            cases suF D n <;> cases suJ D n (i + 1) <;> simp <;> omega
        exact h _
      have hM : suM D (i + 1) = max (cntN (fun t => suF D t && suJ D t (i + 1)) (dT D (suW D) + 1)) (suN D - cntN (fun t => suF D t && suJ D t (i + 1)) (dT D (suW D) + 1)) := rfl
      have hgc := gc (i + 1) (by omega) (by omega)
      have hml := suM_le (D := D) (i + 1)
      have hll := suL_le (D := D) i
      have hs : suL D (i + 1) = if (suL D i).1 = 0 ∨ suM D (i + 1) < (suL D i).2 then (i + 1, suM D (i + 1)) else suL D i := if_neg (by omega)
      generalize cntN (fun t => suF D t && suJ D t (i + 1)) (dT D (suW D) + 1) = C at hcle hM hgc
      have l70 : ∀ y : Int32, y = nI (suM D (i + 1)) → Ok (b_m_looks_70 k m (suA (suL D i) (suL D i).1) (nI (i + 1)) y h') (fun y h' => y = suA (suL D 99) (suL D 99).1 ∧ Fk (sSm m) h h' ∧ hI h' m 31 = suA (suL D 99) (suL D 99).2) := by
        intro y hy
        subst hy
        unfold b_m_looks_70 b_m_looks_88 b_m_looks_95
        have take : ((suL D i).1 = 0 ∨ suM D (i + 1) < (suL D i).2) → Ok (gd (hS h' m = some (.inl 11)) (lt (uI h' m 31 (nI (suM D (i + 1)))) fun h1 => k (m, nI (i + 1), nI (i + 1) + 1) h1)) (fun y h' => y = suA (suL D 99) (suL D 99).1 ∧ Fk (sSm m) h h' ∧ hI h' m 31 = suA (suL D 99) (suL D 99).2) := by
          intro hc
          rw [if_pos hc] at hs
          refine ok_gd a0 (ok_lt (kk _ _ (by omega) ⟨?_, hF.trans (fk_uI (Or.inl ⟨rfl, Or.inr (Or.inr rfl)⟩)), by rw [hI_uIk (by decide)]; exact g30, fun d h1 h2 => by rw [hI_uIa (by omega)]; exact gc d h1 h2, ?_⟩))
          · rw [hs, nI_1]
            show _ = (m, (if i + 1 = 0 then -2 else nI (i + 1)), _)
            rw [if_neg (by omega)]
          · rw [hI_uIs, hs]
            show _ = if i + 1 = 0 then -2 else nI (suM D (i + 1))
            rw [if_neg (by omega)]
        have e1 : (suA (suL D i) (suL D i).1 = -2) ↔ (suL D i).1 = 0 := by
          unfold suA
          by_cases q : (suL D i).1 = 0
          · rw [if_pos q]
            exact ⟨fun _ => q, fun _ => rfl⟩
          · rw [if_neg q]
            exact ⟨fun g => absurd g (oI_ne (n := (suL D i).1) (by omega)), fun g => absurd g q⟩
        refine ok_ite (fun c1 => take (Or.inl (e1.mp c1))) (fun c1 => ?_)
        have n1 : (suL D i).1 ≠ 0 := fun g => c1 (e1.mpr g)
        have e6 : suA (suL D i) (suL D i).2 = nI (suL D i).2 := if_neg n1
        refine ok_gd a0 (ok_lt ?_)
        rw [g31, e6]
        refine ok_ilt (by omega) (by omega) (fun c2 => take (Or.inr c2)) (fun c2 => kk _ _ (by omega) ⟨?_, hF, g30, gc, ?_⟩)
        · rw [hs, if_neg (by omega), nI_1]
        · rw [hs, if_neg (by omega)]
          exact g31
      (try unfold QB); (try unfold QM); repeat (first | (with_reducible refine ok_lt ?_) | ((with_reducible refine ok_gd ?_ ?_); first | assumption | exact zb0 | exact zb1 | ((with_reducible apply ai_of) <;> first | assumption | omega | decide) | exact ai_lit (by assumption) (by decide) (by decide) (by decide)) | (refine ok_bR (by assumption) ?_))
      (try simp (disch := omega) only [nI_clamp, cl0, cl1, cl2, cl3, cl4, cl5, cl6, cl7, cl8])
      rw [hgc, pk_sub hcle]
      refine ok_ile (by omega) (by omega) (fun c1 => ?_) (fun c1 => ?_)
      · (try unfold QB); (try unfold QM); repeat (first | (with_reducible refine ok_lt ?_) | ((with_reducible refine ok_gd ?_ ?_); first | assumption | exact zb0 | exact zb1 | ((with_reducible apply ai_of) <;> first | assumption | omega | decide) | exact ai_lit (by assumption) (by decide) (by decide) (by decide)) | (refine ok_bR (by assumption) ?_))
        (try simp (disch := omega) only [nI_clamp, cl0, cl1, cl2, cl3, cl4, cl5, cl6, cl7, cl8])
        rw [hgc, pk_sub hcle]
        exact l70 _ (by rw [hM, Nat.max_eq_right c1])
      · (try unfold QB); (try unfold QM); repeat (first | (with_reducible refine ok_lt ?_) | ((with_reducible refine ok_gd ?_ ?_); first | assumption | exact zb0 | exact zb1 | ((with_reducible apply ai_of) <;> first | assumption | omega | decide) | exact ai_lit (by assumption) (by decide) (by decide) (by decide)) | (refine ok_bR (by assumption) ?_))
        (try simp (disch := omega) only [nI_clamp, cl0, cl1, cl2, cl3, cl4, cl5, cl6, cl7, cl8])
        rw [hgc]
        exact l70 _ (by rw [hM, Nat.max_eq_left (by omega)])
end SM2
