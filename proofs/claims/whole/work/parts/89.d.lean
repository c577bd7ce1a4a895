/-! slips by chance at the reference -/
section HM
variable {h : Hp} {m q w : Nat} {D : DD} {V : Nat → Nat}
theorem bt_tb {c k : Nat} (hk : k < 32) : bt (nI c) k = c.testBit k := by
  rw [bt_bit _ hk]
  show (BitVec.ofNat 32 c).getLsbD k = _
  rw [BitVec.getLsbD_ofNat, decide_eq_true hk, Bool.true_and]
/-- the row behind i days of the code c -/
def cV (D : DD) (V : Nat → Nat) (w c i : Nat) : Nat → Nat := fun k => if k = 0 then V 0 + i else if k = 1 then V 1 - i else if k = 3 + w then cx (aA D V w) (aS D w) (V (3 + w)) i c else V k
theorem ok_m_slipsBy (X : DX h m q D V) (hw : w < dW D) {n c : Nat} (hn : n ≤ 6) : Ok (f_m_slipsBy m (nI w) (nI n) (nI c) h) (fun r h' => r = nI (cx (aA D V w) (aS D w) (V (3 + w)) n c) ∧ Fk (sY m) h h' ∧ hI h' m 34 = nI (cj (aA D V w) (aJ D V w) (aS D w) (asJ D w) (V (3 + w)) n c)) := by
  obtain ⟨hm, hq, hqm, R, W, rX, hv⟩ := id X
  have w1 := W.1
  have hT := W.2.2.2.2.2.2.2.1 w hw
  have hV := hv.2.2.2 w hw
  have hv0 := hv.1
  have hv1 := hv.2.1
  have hxl : ∀ i, cx (aA D V w) (aS D w) (V (3 + w)) i c < dT D w := fun i => cx_lt _ _ _ hV (fun i u hu => aA_lt W hw i u hu) (fun u hu => aS_lt W hw u hu) i c
  unfold f_m_slipsBy
  refine ok_gd hm.1 (ok_bd (ok_mono (ok_m_works hm rX) ?_))
  intro _ h1 hx
  obtain ⟨F1, v1⟩ := hx
  have F1' : Fk (sY m) h h1 := F1.mono (fun a k e => by unfold sX at e; unfold sY; omega)
  refine ok_gd (hm.fk F1).1 (ok_lt (ok_lt ?_))
  have F3 : Fk (sY m) h (uI h1 m 34 0) := F1'.trans (fk_uI (Or.inl ⟨rfl, Or.inr rfl⟩))
  have v3 : RepX (uI h1 m 34 0) (m + 3) (cV D V w c 0) := (v1.fk (fk_uI (S := fun a k => a = m ∧ k = 34) ⟨rfl, rfl⟩) (fun k e => by omega)).ext (fun k _ => by
    show V k = if k = 0 then V 0 + 0 else if k = 1 then V 1 - 0 else if k = 3 + w then V (3 + w) else V k
    by_cases e0 : k = 0
    · rw [if_pos e0, e0]
      rfl
    · by_cases e1 : k = 1
      · rw [if_neg e0, if_pos e1, e1]
        rfl
      · by_cases e2 : k = 3 + w
        · rw [if_neg e0, if_neg e1, if_pos e2, e2]
        · rw [if_neg e0, if_neg e1, if_neg e2])
  refine ok_up n (fun i st h' => st = (m, nI w, nI n, nI c, nI i) ∧ Fk (sY m) h h' ∧ RepX h' (m + 3) (cV D V w c i) ∧ hI h' m 34 = nI (cj (aA D V w) (aJ D V w) (aS D w) (asJ D w) (V (3 + w)) i c)) ?_ FU 0 _ _ (Nat.zero_le _) ⟨rfl, F3, v3, hI_uIs⟩ (by show _ < 10000; omega)
  intro k i st h4 hi hI kk
  obtain ⟨rfl, F4, v4, j4⟩ := hI
  have hm4 := hm.fk F4
  have R4 : RepQ h4 q D := R.fk F4 (fun i k hi e => by unfold sY at e; omega)
  have q4 : hR h4 m 3 = some q := by rw [F4.2.2.2.1]; exact hq
  have r16 := hm4.2.1.2.2.1
  have cVw : cV D V w c i (3 + w) = cx (aA D V w) (aS D w) (V (3 + w)) i c := by
    show (if 3 + w = 0 then _ else if 3 + w = 1 then _ else if 3 + w = 3 + w then _ else _) = _
    rw [if_neg (by omega), if_neg (by omega), if_pos rfl]
  have xw := v4.t (w := w) (by omega) (by rw [cVw]; have := hxl i; omega)
  rw [cVw] at xw
  have x5 : hI h4 (m + 3) 5 = nI (V 0 + i) := v4.2 5 (by decide)
  have x6 : hI h4 (m + 3) 6 = nI (V 1 - i) := v4.2 6 (by decide)
  have hx := hxl i
  show Ok (b_m_slipsBy_12 k m (nI w) (nI n) (nI c) (nI i) h4) _
  unfold b_m_slipsBy_12
  refine ok_it hi (by omega) (fun e => ?_) (fun e => ?_)
  · subst e
    refine ok_gd hm4.1 (ok_bR r16 (ok_gd (ai_of v4.1 (by omega) (by decide)) (ok_lt ?_)))
    rw [nI_clamp (by omega), xw]
    exact ok_ret ⟨rfl, F4, j4⟩
  · obtain ⟨y, hy⟩ : ∃ y, y = cx (aA D V w) (aS D w) (V (3 + w)) i c := ⟨_, rfl⟩
    obtain ⟨J0, hJ0⟩ : ∃ J0, J0 = cj (aA D V w) (aJ D V w) (aS D w) (asJ D w) (V (3 + w)) i c := ⟨_, rfl⟩
    have nx1 : cx (aA D V w) (aS D w) (V (3 + w)) (i + 1) c = if c.testBit i = true then aS D w (aA D V w i y) else aA D V w i y := by rw [hy]; rfl
    have nj1 : cj (aA D V w) (aJ D V w) (aS D w) (asJ D w) (V (3 + w)) (i + 1) c = J0 + aJ D V w i y + if c.testBit i = true then asJ D w (aA D V w i y) else 0 := by rw [hy, hJ0]; rfl
    rw [← hJ0] at j4
    rw [← hy] at hx xw
    have hay := aA_lt (V := V) W hw i y hx
    have mid : ∀ h7 U, Fk (sY m) h h7 → RepX h7 (m + 3) U → U 0 = V 0 + i → U 1 = V 1 - i → U (3 + w) = aA D V w i y → (∀ k, k ≠ 0 → k ≠ 1 → k ≠ 3 + w → U k = V k) → hI h7 m 34 = nI (J0 + aJ D V w i y) → Ok (b_m_slipsBy_77 k m (nI w) (nI n) (nI c) (nI i) h7) (fun r h' => r = nI (cx (aA D V w) (aS D w) (V (3 + w)) n c) ∧ Fk (sY m) h h' ∧ hI h' m 34 = nI (cj (aA D V w) (aJ D V w) (aS D w) (asJ D w) (V (3 + w)) n c)) := by
      intro h7 U F7 v7 U0 U1 Uw Uo j7
      have hm7 := hm.fk F7
      have r16 := hm7.2.1.2.2.1
      have y5 : hI h7 (m + 3) 5 = nI (V 0 + i) := by rw [← U0]; exact v7.2 5 (by decide)
      unfold b_m_slipsBy_77
      refine ok_gd hm7.1 (ok_bR r16 (ok_gd (ai_lit v7.1 (by decide) (by decide) (by decide)) (ok_lt (ok_gd (ai_lit v7.1 (by decide) (by decide) (by decide)) (ok_lt ?_)))))
      rw [cl5, y5, nI_1]
      have v8 : RepX (uI h7 (m + 3) 5 (nI (V 0 + i + 1))) (m + 3) (upV U 0 (V 0 + i + 1)) := v7.up (k := 5) (by decide) _
      have F8 : Fk (sY m) h (uI h7 (m + 3) 5 (nI (V 0 + i + 1))) := F7.trans (fk_uI (Or.inr rfl))
      have j8 : hI (uI h7 (m + 3) 5 (nI (V 0 + i + 1))) m 34 = nI (J0 + aJ D V w i y) := by rw [hI_uIa (by omega)]; exact j7
      generalize uI h7 (m + 3) 5 (nI (V 0 + i + 1)) = h8 at v8 F8 j8
      have hm8 := hm.fk F8
      have r168 := hm8.2.1.2.2.1
      have y6 : hI h8 (m + 3) 6 = nI (V 1 - i) := by rw [← U1]; exact v8.2 6 (by decide)
      refine ok_gd hm8.1 (ok_bR r168 (ok_gd (ai_lit v8.1 (by decide) (by decide) (by decide)) (ok_lt (ok_gd hm8.1 (ok_bR r168 (ok_gd (ai_lit v8.1 (by decide) (by decide) (by decide)) (ok_lt ?_)))))))
      rw [cl6, y6]
      have last : ∀ s0 : Int32, nI (V 1 - i) - s0 = nI (V 1 - (i + 1)) → Ok (b_m_slipsBy_110 k m (nI w) (nI n) (nI c) (nI i) s0 (nI (V 1 - i)) 6 (m + 3) h8) (fun r h' => r = nI (cx (aA D V w) (aS D w) (V (3 + w)) n c) ∧ Fk (sY m) h h' ∧ hI h' m 34 = nI (cj (aA D V w) (aJ D V w) (aS D w) (asJ D w) (V (3 + w)) n c)) := by
        intro s0 hs0
        unfold b_m_slipsBy_110 b_m_slipsBy_126
        refine ok_gd (ai_lit v8.1 (by decide) (by decide) (by decide)) (ok_lt ?_)
        rw [cl6, hs0]
        have v9 : RepX (uI h8 (m + 3) 6 (nI (V 1 - (i + 1)))) (m + 3) (upV (upV U 0 (V 0 + i + 1)) 1 (V 1 - (i + 1))) := v8.up (k := 6) (by decide) _
        have F9 : Fk (sY m) h (uI h8 (m + 3) 6 (nI (V 1 - (i + 1)))) := F8.trans (fk_uI (Or.inr rfl))
        have j9 : hI (uI h8 (m + 3) 6 (nI (V 1 - (i + 1)))) m 34 = nI (J0 + aJ D V w i y) := by rw [hI_uIa (by omega)]; exact j8
        generalize uI h8 (m + 3) 6 (nI (V 1 - (i + 1))) = h9 at v9 F9 j9
        obtain ⟨U9, hU9⟩ : ∃ U9, U9 = upV (upV U 0 (V 0 + i + 1)) 1 (V 1 - (i + 1)) := ⟨_, rfl⟩
        rw [← hU9] at v9
        have u0 : U9 0 = V 0 + i + 1 := by rw [hU9]; rfl
        have u1 : U9 1 = V 1 - (i + 1) := by rw [hU9]; rfl
        have uo : ∀ k, k ≠ 0 → k ≠ 1 → U9 k = U k := fun k q0 q1 => by
          rw [hU9]
          show (if k = 1 then _ else if k = 0 then _ else U k) = U k
          rw [if_neg q1, if_neg q0]
        have uw : U9 (3 + w) = aA D V w i y := by rw [uo _ (by omega) (by omega)]; exact Uw
        have wf9 : WfV D U9 := by
          refine ⟨by omega, by omega, by rw [uo 2 (by decide) (by decide), Uo 2 (by decide) (by decide) (by omega)]; have := hv.2.2.1; omega, fun u hu => ?_⟩
          by_cases e3 : u = w
          · rw [e3, uw]
            exact hay
          · rw [uo _ (by omega) (by omega), Uo _ (by omega) (by omega) (by omega)]
            exact hv.2.2.2 u hu
        have hm9 := hm.fk F9
        refine ok_bde (e_m_bit _ _) ?_
        rw [bt_tb (by omega)]
        refine ok_ib (fun b0 => ?_) (fun b1 => ?_)
        · rw [b0, if_neg (by decide)] at nx1 nj1
          refine kk _ _ e ⟨by rw [nI_1], F9, v9.ext (fun k _ => ?_), ?_⟩
          · show U9 k = if k = 0 then V 0 + (i + 1) else if k = 1 then V 1 - (i + 1) else if k = 3 + w then cx (aA D V w) (aS D w) (V (3 + w)) (i + 1) c else V k
            rw [nx1]
            by_cases k0 : k = 0
            · rw [if_pos k0, k0, u0]
              omega
            · by_cases k1 : k = 1
              · rw [if_neg k0, if_pos k1, k1, u1]
              · by_cases k2 : k = 3 + w
                · rw [if_neg k0, if_neg k1, if_pos k2, k2, uw]
                · rw [if_neg k0, if_neg k1, if_neg k2, uo k k0 k1, Uo k k0 k1 k2]
          · rw [nj1, Nat.add_zero]
            exact j9
        · rw [b1, if_pos rfl] at nx1 nj1
          refine ok_gd hm9.1 (ok_bd (ok_mono (ok_m_slips1 hm9 (by rw [F9.2.2.2.1]; exact hq) (R.fk F9 (fun i k hi e => by unfold sY at e; omega)) W v9 wf9 hw) ?_))
          intro _ hA hx
          obtain ⟨FA, vA, jA⟩ := hx
          refine kk _ _ e ⟨by rw [nI_1], F9.trans FA, vA.ext (fun k _ => ?_), ?_⟩
          · show (if k = 3 + w then tp D w (dfw D w) 1 (U9 (3 + w)) else U9 k) = if k = 0 then V 0 + (i + 1) else if k = 1 then V 1 - (i + 1) else if k = 3 + w then cx (aA D V w) (aS D w) (V (3 + w)) (i + 1) c else V k
            rw [nx1, uw]
            by_cases k0 : k = 0
            · rw [if_neg (by omega), if_pos k0, k0, u0]
              omega
            · by_cases k1 : k = 1
              · rw [if_neg (by omega), if_neg k0, if_pos k1, k1, u1]
              · by_cases k2 : k = 3 + w
                · rw [if_pos k2, if_neg k0, if_neg k1, if_pos k2]
                  rfl
                · rw [if_neg k2, if_neg k0, if_neg k1, if_neg k2, uo k k0 k1, Uo k k0 k1 k2]
          · rw [jA, j9, nj1, uw]
            unfold asJ
            cases jk D w (dfw D w) 1 (aA D V w i y) with
            | false => exact nI_add _ 0
            | true => exact nI_add _ 1
      refine ok_ile (b := 0) (by omega) (by decide) (fun z => last _ ?_) (fun z => last _ ?_)
      · rw [show V 1 - i = 0 by omega, show V 1 - (i + 1) = 0 by omega]
        rfl
      · show nI (V 1 - i) - 1 = _
        rw [nI_s (by omega), show V 1 - i - 1 = V 1 - (i + 1) by omega]
    have cVo : ∀ k, k ≠ 0 → k ≠ 1 → k ≠ 3 + w → cV D V w c i k = V k := fun k q0 q1 q2 => by
      show (if k = 0 then _ else if k = 1 then _ else if k = 3 + w then _ else V k) = _
      rw [if_neg q0, if_neg q1, if_neg q2]
    refine ok_gd hm4.1 (ok_bR r16 (ok_gd (ai_lit v4.1 (by decide) (by decide) (by decide)) (ok_lt (ok_gd hm4.1 (ok_bR r16 (ok_gd (ai_lit v4.1 (by decide) (by decide) (by decide)) (ok_lt ?_)))))))
    rw [cl5, cl6, x5, x6]
    refine ok_gd hm4.1 (ok_bde (e_m_isGoing hm4.1 q4 R4 W hw (by omega) (by omega)) ?_)
    refine ok_ib (fun g0 => ?_) (fun g1 => ?_)
    · have eA : aA D V w i y = y := by unfold aA; rw [g0]; rfl
      have eJ : aJ D V w i y = 0 := by unfold aJ; rw [g0]; rfl
      exact mid h4 _ F4 v4 rfl rfl (by rw [cVw, eA, hy]) cVo (by rw [eJ, Nat.add_zero]; exact j4)
    · have eA : aA D V w i y = tp D w (dfw D w) (dB D w) y := by unfold aA; rw [g1]; rfl
      have eJ : aJ D V w i y = if jk D w (dfw D w) (dB D w) y = true then 1 else 0 := by unfold aJ; rw [g1]; rfl
      refine ok_gd hm4.1 (ok_bR r16 (ok_gd hm4.1 (ok_bR r16 (ok_gd (ai_of v4.1 (by omega) (by decide)) (ok_lt ?_)))))
      rw [nI_clamp (by omega), xw]
      refine ok_gd hm4.1 (ok_bde (e_m_goesOnce hm4.1 q4 R4 W hw hx) (ok_gd (ai_of v4.1 (by omega) (by decide)) (ok_lt ?_)))
      have F5 : Fk (sY m) h (uI (uI h4 m 21 (bI (jk D w (dfw D w) (dB D w) y))) (m + 3) w (nI (tp D w (dfw D w) (dB D w) y))) := (F4.trans (fk_uI (Or.inl ⟨rfl, Or.inl rfl⟩))).trans (fk_uI (Or.inr rfl))
      have v5 : RepX (uI (uI h4 m 21 (bI (jk D w (dfw D w) (dB D w) y))) (m + 3) w (nI (tp D w (dfw D w) (dB D w) y))) (m + 3) (upV (cV D V w c i) (mx w) (tp D w (dfw D w) (dB D w) y)) := (v4.fk (fk_uI (S := fun a k => a = m ∧ k = 21) ⟨rfl, rfl⟩) (fun k e => by omega)).up (by omega) _
      have e21 : hI (uI (uI h4 m 21 (bI (jk D w (dfw D w) (dB D w) y))) (m + 3) w (nI (tp D w (dfw D w) (dB D w) y))) m 21 = bI (jk D w (dfw D w) (dB D w) y) := by rw [hI_uIa (by omega), hI_uIs]
      have e34 : hI (uI (uI h4 m 21 (bI (jk D w (dfw D w) (dB D w) y))) (m + 3) w (nI (tp D w (dfw D w) (dB D w) y))) m 34 = nI J0 := by rw [hI_uIa (by omega), hI_uIk (by decide)]; exact j4
      rw [mx_t (by omega)] at v5
      generalize uI (uI h4 m 21 (bI (jk D w (dfw D w) (dB D w) y))) (m + 3) w (nI (tp D w (dfw D w) (dB D w) y)) = h5 at F5 v5 e21 e34
      have hm5 := hm.fk F5
      refine ok_gd hm5.1 (ok_lt (ok_gd hm5.1 (ok_lt ?_)))
      rw [e21, e34]
      have go : ∀ s0 : Int32, nI J0 + s0 = nI (J0 + aJ D V w i y) → Ok (b_m_slipsBy_73 k m (nI w) (nI n) (nI c) (nI i) s0 (nI J0) m h5) (fun r h' => r = nI (cx (aA D V w) (aS D w) (V (3 + w)) n c) ∧ Fk (sY m) h h' ∧ hI h' m 34 = nI (cj (aA D V w) (aJ D V w) (aS D w) (asJ D w) (V (3 + w)) n c)) := by
        intro s0 hs0
        unfold b_m_slipsBy_73
        refine ok_gd hm5.1 (ok_lt ?_)
        rw [hs0]
        refine mid _ (upV (cV D V w c i) (3 + w) (tp D w (dfw D w) (dB D w) y)) (F5.trans (fk_uI (Or.inl ⟨rfl, Or.inr rfl⟩))) (v5.fk (fk_uI (S := fun a k => a = m ∧ k = 34) ⟨rfl, rfl⟩) (fun k e => by omega)) ?_ ?_ ?_ (fun k q0 q1 q2 => ?_) hI_uIs
        · show (if 0 = 3 + w then _ else cV D V w c i 0) = _
          rw [if_neg (by omega)]
          rfl
        · show (if 1 = 3 + w then _ else cV D V w c i 1) = _
          rw [if_neg (by omega)]
          rfl
        · show (if 3 + w = 3 + w then _ else _) = _
          rw [if_pos rfl, eA]
        · show (if k = 3 + w then _ else cV D V w c i k) = _
          rw [if_neg q2]
          exact cVo k q0 q1 q2
      refine ok_ib (fun z => go _ ?_) (fun z => go _ ?_)
      · rw [eJ, z]
        exact nI_add _ 0
      · rw [eJ, z]
        exact nI_add _ 1
theorem ok_m_part (X : DX h m q D V) {n c : Nat} (hn : n ≤ 6) : Ok (f_m_part m (nI n) (nI c) h) (fun r h' => r = lN (cp (dSl D) n c) ∧ h' = h) := by
  obtain ⟨hm, hq, hqm, R, W, rX, hv⟩ := id X
  have hp := W.2.2.2.2.2.1
  unfold f_m_part
  refine ok_lt (ok_lt ?_)
  refine ok_up n (fun i st h' => st = (m, nI n, nI c, lN (cp (dSl D) i c), nI i) ∧ h' = h) ?_ FU 0 _ _ (Nat.zero_le _) ⟨rfl, rfl⟩ (by show _ < 10000; omega)
  intro k i st h4 hi hI kk
  obtain ⟨rfl, rfl⟩ := hI
  show Ok (b_m_part_5 k m (nI n) (nI c) (lN (cp (dSl D) i c)) (nI i) h4) _
  unfold b_m_part_5 b_m_part_43
  refine ok_it hi (by omega) (fun e => ?_) (fun e => ?_)
  · subst e
    exact ok_ret ⟨rfl, rfl⟩
  · refine ok_bde (e_m_bit _ _) ?_
    rw [bt_tb (by omega)]
    have st : cp (dSl D) (i + 1) c = cp (dSl D) i c * if c.testBit i = true then dSl D else 100 - dSl D := rfl
    refine ok_ib (fun b0 => ?_) (fun b1 => ?_)
    · refine ok_gd hm.1 (ok_bR hq (ok_gd R.1.1 (ok_lt (ok_lt (kk _ _ e ⟨?_, rfl⟩)))))
      rw [R.2.1.2.1, st, b0, if_neg (by decide), show (100 : Int32) - nI (dSl D) = nI (100 - dSl D) from pk_sub (a := 100) hp, nI_l (by omega), lN_mul, nI_1]
    · refine ok_gd hm.1 (ok_bR hq (ok_gd R.1.1 (ok_lt (ok_lt (kk _ _ e ⟨?_, rfl⟩)))))
      rw [R.2.1.2.1, st, b1, if_pos rfl, nI_l (by omega), lN_mul, nI_1]
theorem ok_m_wholeOf {n : Nat} (hn : n ≤ 6) : Ok (f_m_wholeOf (nI n) h) (fun r h' => r = lN (100 ^ n) ∧ h' = h) := by
  unfold f_m_wholeOf
  refine ok_lt (ok_lt ?_)
  refine ok_up n (fun i st h' => st = (nI n, lN (100 ^ i), nI i) ∧ h' = h) ?_ FU 0 _ _ (Nat.zero_le _) ⟨rfl, rfl⟩ (by show _ < 10000; omega)
  intro k i st h4 hi hI kk
  obtain ⟨rfl, rfl⟩ := hI
  show Ok (b_m_wholeOf_4 k (nI n) (lN (100 ^ i)) (nI i) h4) _
  unfold b_m_wholeOf_4
  refine ok_it hi (by omega) (fun e => ?_) (fun e => ?_)
  · subst e
    exact ok_ret ⟨rfl, rfl⟩
  · refine ok_lt (kk _ _ e ⟨?_, rfl⟩)
    rw [nI_1, Nat.pow_succ, ← lN_mul]
    rfl
theorem ok_m_fraction {a z : Nat} {v : Int32} (hm : hS h m = some (.inl 11)) (ha : a < 2 ^ 44) (z0 : 0 < z) (z1 : z < 2 ^ 44) : Ok (f_m_fraction m (lN a) (lN z) v h) (fun r h' => r = lowA a z v ∧ h' = uI (uI h m 1 0) m 2 (-1)) := by
  have hg0 : 0 < Nat.gcd a z := Nat.gcd_pos_of_pos_right _ z0
  have hg1 : Nat.gcd a z ≤ z := Nat.le_of_dvd z0 (Nat.gcd_dvd_right a z)
  have fin : ∀ s : Int64, ∀ h', Ok (b_m_fraction_16 (lN a) (lN z) s h') (fun r h'' => r = s / lN (Nat.gcd a z) ∧ h'' = h') := by
    intro s h'
    unfold b_m_fraction_16
    refine ok_bde (e_m_common ha z1) (ok_gd (fun q => ?_) (ok_ret ⟨rfl, rfl⟩))
    have := (lN_z (by omega)).mp q
    omega
  unfold f_m_fraction
  refine ok_gd hm (ok_bde (e_m_good hm) ?_)
  by_cases q : v = 0
  · rw [show lowA a z v = lN a / lN (Nat.gcd a z) by unfold lowA; rw [if_pos q]]
    exact ok_t q (fin _ _)
  · rw [show lowA a z v = lN z / lN (Nat.gcd a z) by unfold lowA; rw [if_neg q]]
    exact ok_f q (fin _ _)
end HM
