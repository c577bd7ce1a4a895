/-! wheel, now, work, size, fault, where, trouble: both sides -/
section P7
variable {h h1 : Hp} {x m o q c j tl nc : Nat} {D : DD} {V : Nat → Nat} {K Im : Nat → Nat → Nat} {T : Nat → Int32} {fa : Int32}
theorem e_n_manyGone (rQ : RepQ h q D) (W : Wf D) {w : Nat} (hw : w < dW D) : f_n_manyGone q (nI w) h = some (nI (cntN (gb (dG D w)) (dT D w)), h) := by
  have w1 := W.1
  have hT := W.2.2.2.2.2.2.2.1 w hw
  have h5 : w < 5 := by omega
  obtain ⟨⟨b1, b2, b3, b4, b5, b6, b7, b8, b9, b10, b11⟩, ⟨c0, c1, c2, c3, c4, c5, c6, c7, c8⟩, qW, qX, qE, qK, qS⟩ := id rQ; have d0 := b2 0 (by decide); have d1 := b2 1 (by decide); have d2 := b2 2 (by decide); have d3 := b2 3 (by decide); have d4 := b2 4 (by decide); have d5 := b2 5 (by decide); have d6 := b2 6 (by decide); have d7 := b2 7 (by decide); have d8 := b2 8 (by decide); have d9 := b2 9 (by decide); have d10 := b2 10 (by decide); have d11 := b2 11 (by decide); have d12 := b2 12 (by decide); have d13 := b2 13 (by decide); have d14 := b2 14 (by decide); have d15 := b2 15 (by decide); have d16 := b2 16 (by decide); have e0 := b3 0 (by decide); have e1 := b3 1 (by decide); have e2 := b3 2 (by decide); have e3 := b3 3 (by decide); have f0 := b6 0 (by decide); have f1 := b6 1 (by decide); have f2 := b6 2 (by decide); have f3 := b6 3 (by decide); have f4 := b6 4 (by decide); have f5 := b6 5 (by decide)
  refine ok_eq ?_
  unfold f_n_manyGone
  (try unfold QB); (try unfold QM); repeat (first | (with_reducible refine ok_lt ?_) | ((with_reducible refine ok_gd ?_ ?_); first | assumption | exact zb0 | exact zb1 | ((with_reducible apply ai_of) <;> first | assumption | omega | decide) | exact ai_lit (by assumption) (by decide) (by decide) (by decide)) | (refine ok_bR (by assumption) ?_))
  refine ok_up (dT D w) (fun i st h' => st = (q, nI w, nI (cntN (gb (dG D w)) i), nI i) ∧ h' = h) ?_ FU 0 _ _ (Nat.zero_le _) ⟨rfl, rfl⟩ (by show _ < 10000; omega)
  intro k i st h' hi hI' kk
  obtain ⟨rfl, rfl⟩ := hI'
  show Ok (b_n_manyGone_4 k q (nI w) (nI (cntN (gb (dG D w)) i)) (nI i) h') _
  unfold b_n_manyGone_4 b_n_manyGone_29
  (try unfold QB); (try unfold QM); repeat (first | (with_reducible refine ok_lt ?_) | ((with_reducible refine ok_gd ?_ ?_); first | assumption | exact zb0 | exact zb1 | ((with_reducible apply ai_of) <;> first | assumption | omega | decide) | exact ai_lit (by assumption) (by decide) (by decide) (by decide)) | (refine ok_bR (by assumption) ?_))
  (try simp (disch := omega) only [nI_clamp, cl0, cl1, cl2, cl3, cl4, cl5, cl6, cl7, cl8])
  have g : hI h' (q + 1 + 1) w = nI (dT D w) := (qW w hw).2.1
  rw [g]
  refine ok_it hi (by omega) (fun e => ok_ret ⟨by rw [e], rfl⟩) (fun hl => ?_)
  have hs : cntN (gb (dG D w)) (i + 1) = cntN (gb (dG D w)) i + (if gb (dG D w) i = true then 1 else 0) := rfl
  refine ok_gd b1 (ok_bde (e_n_isGone rQ hw h5 i) (ok_ib (fun c1 => ok_lt (kk _ _ hl ⟨?_, rfl⟩)) (fun c1 => ok_lt (kk _ _ hl ⟨?_, rfl⟩))))
  · rw [hs, c1, nI_1, Int32.add_zero]
    rfl
  · rw [hs, c1, nI_1, nI_1]
    rfl
theorem e_O_feastsOfWheel (rO : RepO h o D) (W : Wf D) {w : Nat} (hw : w < dW D) : f_O_feastsOfWheel o (nI w) h = some (orB (fun f => decide (dX D f w ≠ 0)) (dF D), h) := by
  have w1 := W.1
  have w2 := W.2.1
  have hT := W.2.2.2.2.2.2.2.1 w hw
  have o1 := rO.1.1
  refine ok_eq ?_
  unfold f_O_feastsOfWheel
  (try unfold QB); (try unfold QM); repeat (first | (with_reducible refine ok_lt ?_) | ((with_reducible refine ok_gd ?_ ?_); first | assumption | exact zb0 | exact zb1 | ((with_reducible apply ai_of) <;> first | assumption | omega | decide) | exact ai_lit (by assumption) (by decide) (by decide) (by decide)) | (refine ok_bR (by assumption) ?_))
  refine ok_up (dF D) (fun i s h' => s = (o, nI w, orB (fun f => decide (dX D f w ≠ 0)) i, nI i) ∧ h' = h) ?_ FU 0 _ _ (Nat.zero_le _) ⟨rfl, rfl⟩ (by show _ < 10000; omega)
  intro k i s h' hi hI' kk
  obtain ⟨rfl, rfl⟩ := hI'
  show Ok (b_O_feastsOfWheel_4 k o (nI w) (orB (fun f => decide (dX D f w ≠ 0)) i) (nI i) h') _
  unfold b_O_feastsOfWheel_4 b_O_feastsOfWheel_28
  (try unfold QB); (try unfold QM); repeat (first | (with_reducible refine ok_lt ?_) | ((with_reducible refine ok_gd ?_ ?_); first | assumption | exact zb0 | exact zb1 | ((with_reducible apply ai_of) <;> first | assumption | omega | decide) | exact ai_lit (by assumption) (by decide) (by decide) (by decide)) | (refine ok_bR (by assumption) ?_))
  rw [rO.2.1.2.2.2.1]
  refine ok_it hi (by omega) (fun e => ok_ret ⟨by rw [e], rfl⟩) (fun hl => ?_)
  have hX := W.2.2.2.2.2.2.2.2.1 i w hl hw
  have hs : orB (fun f => decide (dX D f w ≠ 0)) (i + 1) = if decide (dX D i w ≠ 0) = true then orB (fun f => decide (dX D f w ≠ 0)) i ||| ((1 : Int32) <<< (nI i &&& 31)) else orB (fun f => decide (dX D f w ≠ 0)) i := rfl
  refine ok_gd o1 (ok_bde (e_O_feastTooth rO w2 hl (by omega)) (ok_ix (by omega) (fun ez => kk _ _ hl ⟨?_, rfl⟩) (fun ez => ok_lt (kk _ _ hl ⟨?_, rfl⟩))))
  · rw [hs, decide_eq_false (fun e => e ez), nI_1]
    rfl
  · rw [hs, decide_eq_true ez, nI_1]
    rfl
theorem e_m_feastsOf (a0 : hS h m = some (.inl 11)) (q1 : hR h m 3 = some q) (rQ : RepQ h q D) (W : Wf D) {w : Nat} (hw : w < dW D) : f_m_feastsOf m (nI w) h = some (orB (fun f => decide (dX D f w ≠ 0)) (dF D), h) := by
  have w1 := W.1
  have w2 := W.2.1
  obtain ⟨⟨b1, b2, b3, b4, b5, b6, b7, b8, b9, b10, b11⟩, ⟨c0, c1, c2, c3, c4, c5, c6, c7, c8⟩, qW, qX, qE, qK, qS⟩ := id rQ; have d0 := b2 0 (by decide); have d1 := b2 1 (by decide); have d2 := b2 2 (by decide); have d3 := b2 3 (by decide); have d4 := b2 4 (by decide); have d5 := b2 5 (by decide); have d6 := b2 6 (by decide); have d7 := b2 7 (by decide); have d8 := b2 8 (by decide); have d9 := b2 9 (by decide); have d10 := b2 10 (by decide); have d11 := b2 11 (by decide); have d12 := b2 12 (by decide); have d13 := b2 13 (by decide); have d14 := b2 14 (by decide); have d15 := b2 15 (by decide); have d16 := b2 16 (by decide); have e0 := b3 0 (by decide); have e1 := b3 1 (by decide); have e2 := b3 2 (by decide); have e3 := b3 3 (by decide); have f0 := b6 0 (by decide); have f1 := b6 1 (by decide); have f2 := b6 2 (by decide); have f3 := b6 3 (by decide); have f4 := b6 4 (by decide); have f5 := b6 5 (by decide)
  refine ok_eq ?_
  unfold f_m_feastsOf
  (try unfold QB); (try unfold QM); repeat (first | (with_reducible refine ok_lt ?_) | ((with_reducible refine ok_gd ?_ ?_); first | assumption | exact zb0 | exact zb1 | ((with_reducible apply ai_of) <;> first | assumption | omega | decide) | exact ai_lit (by assumption) (by decide) (by decide) (by decide)) | (refine ok_bR (by assumption) ?_))
  refine ok_up (dF D) (fun i s h' => s = (m, nI w, orB (fun f => decide (dX D f w ≠ 0)) i, nI i) ∧ h' = h) ?_ FU 0 _ _ (Nat.zero_le _) ⟨rfl, rfl⟩ (by show _ < 10000; omega)
  intro k i s h' hi hI' kk
  obtain ⟨rfl, rfl⟩ := hI'
  show Ok (b_m_feastsOf_4 k m (nI w) (orB (fun f => decide (dX D f w ≠ 0)) i) (nI i) h') _
  unfold b_m_feastsOf_4 b_m_feastsOf_39
  (try unfold QB); (try unfold QM); repeat (first | (with_reducible refine ok_lt ?_) | ((with_reducible refine ok_gd ?_ ?_); first | assumption | exact zb0 | exact zb1 | ((with_reducible apply ai_of) <;> first | assumption | omega | decide) | exact ai_lit (by assumption) (by decide) (by decide) (by decide)) | (refine ok_bR (by assumption) ?_))
  rw [c4]
  refine ok_it hi (by omega) (fun e => ok_ret ⟨by rw [e], rfl⟩) (fun hl => ?_)
  have hs : orB (fun f => decide (dX D f w ≠ 0)) (i + 1) = if decide (dX D i w ≠ 0) = true then orB (fun f => decide (dX D f w ≠ 0)) i ||| ((1 : Int32) <<< (nI i &&& 31)) else orB (fun f => decide (dX D f w ≠ 0)) i := rfl
  have h4 : i < 4 := by omega
  (try unfold QB); (try unfold QM); repeat (first | (with_reducible refine ok_lt ?_) | ((with_reducible refine ok_gd ?_ ?_); first | assumption | exact zb0 | exact zb1 | ((with_reducible apply ai_of) <;> first | assumption | omega | decide) | exact ai_lit (by assumption) (by decide) (by decide) (by decide)) | (refine ok_bR (by assumption) ?_))
  (try simp (disch := omega) only [nI_clamp, cl0, cl1, cl2, cl3, cl4, cl5, cl6, cl7, cl8])
  refine ok_bde (e_m_bit _ w) ?_
  have e7 : bt (hI h' (q + 1 + 6) i) w = decide (dX D i w ≠ 0) := (qX i w hl hw).1
  rw [e7]
  refine ok_ib (fun c1 => ok_lt (kk _ _ hl ⟨?_, rfl⟩)) (fun c1 => ok_lt (kk _ _ hl ⟨?_, rfl⟩))
  · rw [hs, c1, nI_1, Int32.or_zero]
    rfl
  · rw [hs, c1, nI_1]
    rfl
theorem not_in {v : Int32} {n : Nat} (h : v < 0 ∨ nI n < v) : decide ((0 : Int32) ≤ v ∧ v ≤ nI n) = false := decide_eq_false (fun g => by
  rcases h with e | e
  · exact absurd g.1 (Int32.not_le.mpr e)
  · exact absurd g.2 (Int32.not_le.mpr e))
theorem yes_in {j n : Nat} (h : j ≤ n) (hn : n < 2 ^ 31) : decide ((0 : Int32) ≤ nI j ∧ nI j ≤ nI n) = true := decide_eq_true ⟨nI_pos' (by omega), nI_le h hn⟩
theorem q_wheel (W : Wst D V K c Im j tl nc) (R : RB h x D V K c Im j T tl fa) (w t : Int32) : Pair x h m (fun h1 => RM h1 m D V K c Im j T tl fa) (f_B_wheel x w t h) (f_m_wheel m w t) := by
  obtain ⟨o, o', ho, LB, r3, r4, rO, rD, rV, rP, t1, t2, f1, sUs⟩ := id R; obtain ⟨⟨x1, x2, x3, x4, x5, x6, x7, x8, x9, x10, x11, x12, x13⟩, LR, LC, LK, LS, LG, LH⟩ := id LB
  obtain ⟨⟨o1, ⟨o2, o3, o4, o5, o6, o7, o8, o9, o10⟩, o11, o12, o13, o14, o15, o16⟩, ⟨p1, p2, p3, p4, p5, p6, p7⟩, oW, oX, oK, oE, oS⟩ := id rO
  have w1 := W.1.1.1
  have v1 := rV.1
  cases hb : isN (dW D) w with
  | false =>
    refine ⟨-1, 1, by decide, ?_, fun h1 M => qM_st M (fun h0 M F _ => ?_)⟩
    · unfold f_B_wheel b_B_wheel_17
      refine ok_gd x1 (ok_bde (e_B_hasWheel x1 r3 rO w1 w) ?_)
      rw [hb]
      exact ok_t rfl (qB_ref Fr.rf x1)
    · unfold b_m_wheel_22
      refine ok_gd M.1.1 (ok_bde (e_m_isWheel M w1 w) ?_)
      rw [hb]
      exact ok_t rfl (qM_ref F M.1.1)
  | true =>
    obtain ⟨i, hi, rfl⟩ := isN_ex (by omega) hb
    have hT := W.1.1.2.2.2.2.2.2.2.1 i hi
    have h5 : i < 5 := by omega
    have h8 : i < 8 := by omega
    obtain ⟨l81, l82⟩ := o16 i h5
    have ow := oW i hi
    rcases dy_cases t (lo := 0) (hi := 5) (by decide) (by decide) with hn | ⟨t, hn1, hn2, rfl⟩
    · refine ⟨-1, 1, by decide, ?_, fun h1 M => qM_st M (fun h0 M F _ => ?_)⟩
      · unfold f_B_wheel b_B_wheel_17
        refine ok_gd x1 (ok_bde (e_B_hasWheel x1 r3 rO w1 _) ?_)
        rw [hb]
        exact ok_f (by decide) (dyB_out hn (qB_ref Fr.rf x1))
      · unfold b_m_wheel_22
        refine ok_gd M.1.1 (ok_bde (e_m_isWheel M w1 _) ?_)
        rw [hb]
        refine ok_f (by decide) (ok_bde e_m_in ?_)
        rw [show decide ((0 : Int32) ≤ t ∧ t ≤ 5) = false from not_in (n := 5) hn]
        exact ok_t rfl (qM_ref F M.1.1)
    · have e : t = 0 ∨ t = 1 ∨ t = 2 ∨ t = 3 ∨ t = 4 ∨ t = 5 := by omega
      have hMc : ∀ {h0 : Hp}, RM h0 m D V K c Im j T tl fa → ∃ q, hR h0 m 3 = some q ∧ RepQ h0 q D := fun M => by
        obtain ⟨q, q1, q2, q2', rQ⟩ := M.2.2.1 (by omega)
        exact ⟨q, q1, rQ⟩
      rcases e with rfl | rfl | rfl | rfl | rfl | rfl
      · refine ⟨nI (dK D i), 0, by decide, ?_, fun h1 M => qM_st M (fun h0 M F _ => ?_)⟩
        · unfold f_B_wheel
          refine ok_gd x1 (ok_bde (e_B_hasWheel x1 r3 rO w1 _) ?_)
          rw [hb]
          refine ok_f (by decide) (dyB_in (lo := 0) (hi := 5) hn1 hn2 (by decide) ?_)
          (try unfold QB); (try unfold QM); repeat (first | (with_reducible refine ok_lt ?_) | ((with_reducible refine ok_gd ?_ ?_); first | assumption | exact zb0 | exact zb1 | ((with_reducible apply ai_of) <;> first | assumption | omega | decide) | exact ai_lit (by assumption) (by decide) (by decide) (by decide)) | (refine ok_bR (by assumption) ?_))
          (try simp (disch := omega) only [nI_clamp, cl0, cl1, cl2, cl3, cl4, cl5, cl6, cl7, cl8])
          (try unfold QB); (try unfold QM); repeat (first | (with_reducible refine ok_lt ?_) | ((with_reducible refine ok_gd ?_ ?_); first | assumption | exact zb0 | exact zb1 | ((with_reducible apply ai_of) <;> first | assumption | omega | decide) | exact ai_lit (by assumption) (by decide) (by decide) (by decide)) | (refine ok_bR (by assumption) ?_))
          refine ok_t rfl ?_
          (try unfold QB); (try unfold QM); repeat (first | (with_reducible refine ok_lt ?_) | ((with_reducible refine ok_gd ?_ ?_); first | assumption | exact zb0 | exact zb1 | ((with_reducible apply ai_of) <;> first | assumption | omega | decide) | exact ai_lit (by assumption) (by decide) (by decide) (by decide)) | (refine ok_bR (by assumption) ?_))
          rw [ow.1]
          exact qB_g0 Fr.rf x1
        · refine ok_gd M.1.1 (ok_bde (e_m_isWheel M w1 _) ?_)
          rw [hb]
          refine ok_f (by decide) (ok_bde e_m_in ?_)
          rw [show decide ((0 : Int32) ≤ nI 0 ∧ nI 0 ≤ 5) = true by decide]
          obtain ⟨q, q1, rQ⟩ := hMc M
          obtain ⟨LM, z0, z3, rX, rR, u1, u2, g1⟩ := id M; obtain ⟨a0, ⟨a1, a2, a3, a4, a5, a6, a7, a8, a9, a10, a11, a12, a13⟩, s1, s2, s3, s4, s5, s6, s7, s8, s9, s10, s11, s12, s13⟩ := id LM
          obtain ⟨⟨b1, b2, b3, b4, b5, b6, b7, b8, b9, b10, b11⟩, ⟨c0, c1, c2, c3, c4, c5, c6, c7, c8⟩, qW, qX, qE, qK, qS⟩ := id rQ; have d0 := b2 0 (by decide); have d1 := b2 1 (by decide); have d2 := b2 2 (by decide); have d3 := b2 3 (by decide); have d4 := b2 4 (by decide); have d5 := b2 5 (by decide); have d6 := b2 6 (by decide); have d7 := b2 7 (by decide); have d8 := b2 8 (by decide); have d9 := b2 9 (by decide); have d10 := b2 10 (by decide); have d11 := b2 11 (by decide); have d12 := b2 12 (by decide); have d13 := b2 13 (by decide); have d14 := b2 14 (by decide); have d15 := b2 15 (by decide); have d16 := b2 16 (by decide); have e0 := b3 0 (by decide); have e1 := b3 1 (by decide); have e2 := b3 2 (by decide); have e3 := b3 3 (by decide); have f0 := b6 0 (by decide); have f1 := b6 1 (by decide); have f2 := b6 2 (by decide); have f3 := b6 3 (by decide); have f4 := b6 4 (by decide); have f5 := b6 5 (by decide)
          refine ok_f (by decide) (ok_t rfl ?_)
          (try unfold QB); (try unfold QM); repeat (first | (with_reducible refine ok_lt ?_) | ((with_reducible refine ok_gd ?_ ?_); first | assumption | exact zb0 | exact zb1 | ((with_reducible apply ai_of) <;> first | assumption | omega | decide) | exact ai_lit (by assumption) (by decide) (by decide) (by decide)) | (refine ok_bR (by assumption) ?_))
          (try simp (disch := omega) only [nI_clamp, cl0, cl1, cl2, cl3, cl4, cl5, cl6, cl7, cl8])
          have g : hI h0 (q + 1 + 0) i = nI (dK D i) := (qW i hi).1
          rw [g]
          exact qM_g0 F a0
      · refine ⟨nI (dT D i), 0, by decide, ?_, fun h1 M => qM_st M (fun h0 M F _ => ?_)⟩
        · unfold f_B_wheel
          refine ok_gd x1 (ok_bde (e_B_hasWheel x1 r3 rO w1 _) ?_)
          rw [hb]
          refine ok_f (by decide) (dyB_in (lo := 0) (hi := 5) hn1 hn2 (by decide) ?_)
          (try unfold QB); (try unfold QM); repeat (first | (with_reducible refine ok_lt ?_) | ((with_reducible refine ok_gd ?_ ?_); first | assumption | exact zb0 | exact zb1 | ((with_reducible apply ai_of) <;> first | assumption | omega | decide) | exact ai_lit (by assumption) (by decide) (by decide) (by decide)) | (refine ok_bR (by assumption) ?_))
          (try simp (disch := omega) only [nI_clamp, cl0, cl1, cl2, cl3, cl4, cl5, cl6, cl7, cl8])
          (try unfold QB); (try unfold QM); repeat (first | (with_reducible refine ok_lt ?_) | ((with_reducible refine ok_gd ?_ ?_); first | assumption | exact zb0 | exact zb1 | ((with_reducible apply ai_of) <;> first | assumption | omega | decide) | exact ai_lit (by assumption) (by decide) (by decide) (by decide)) | (refine ok_bR (by assumption) ?_))
          refine ok_f (by decide) (ok_t rfl ?_)
          (try unfold QB); (try unfold QM); repeat (first | (with_reducible refine ok_lt ?_) | ((with_reducible refine ok_gd ?_ ?_); first | assumption | exact zb0 | exact zb1 | ((with_reducible apply ai_of) <;> first | assumption | omega | decide) | exact ai_lit (by assumption) (by decide) (by decide) (by decide)) | (refine ok_bR (by assumption) ?_))
          rw [ow.2.1]
          exact qB_g0 Fr.rf x1
        · refine ok_gd M.1.1 (ok_bde (e_m_isWheel M w1 _) ?_)
          rw [hb]
          refine ok_f (by decide) (ok_bde e_m_in ?_)
          rw [show decide ((0 : Int32) ≤ nI 1 ∧ nI 1 ≤ 5) = true by decide]
          obtain ⟨q, q1, rQ⟩ := hMc M
          obtain ⟨LM, z0, z3, rX, rR, u1, u2, g1⟩ := id M; obtain ⟨a0, ⟨a1, a2, a3, a4, a5, a6, a7, a8, a9, a10, a11, a12, a13⟩, s1, s2, s3, s4, s5, s6, s7, s8, s9, s10, s11, s12, s13⟩ := id LM
          obtain ⟨⟨b1, b2, b3, b4, b5, b6, b7, b8, b9, b10, b11⟩, ⟨c0, c1, c2, c3, c4, c5, c6, c7, c8⟩, qW, qX, qE, qK, qS⟩ := id rQ; have d0 := b2 0 (by decide); have d1 := b2 1 (by decide); have d2 := b2 2 (by decide); have d3 := b2 3 (by decide); have d4 := b2 4 (by decide); have d5 := b2 5 (by decide); have d6 := b2 6 (by decide); have d7 := b2 7 (by decide); have d8 := b2 8 (by decide); have d9 := b2 9 (by decide); have d10 := b2 10 (by decide); have d11 := b2 11 (by decide); have d12 := b2 12 (by decide); have d13 := b2 13 (by decide); have d14 := b2 14 (by decide); have d15 := b2 15 (by decide); have d16 := b2 16 (by decide); have e0 := b3 0 (by decide); have e1 := b3 1 (by decide); have e2 := b3 2 (by decide); have e3 := b3 3 (by decide); have f0 := b6 0 (by decide); have f1 := b6 1 (by decide); have f2 := b6 2 (by decide); have f3 := b6 3 (by decide); have f4 := b6 4 (by decide); have f5 := b6 5 (by decide)
          refine ok_f (by decide) (ok_f (by decide) (ok_t rfl ?_))
          (try unfold QB); (try unfold QM); repeat (first | (with_reducible refine ok_lt ?_) | ((with_reducible refine ok_gd ?_ ?_); first | assumption | exact zb0 | exact zb1 | ((with_reducible apply ai_of) <;> first | assumption | omega | decide) | exact ai_lit (by assumption) (by decide) (by decide) (by decide)) | (refine ok_bR (by assumption) ?_))
          (try simp (disch := omega) only [nI_clamp, cl0, cl1, cl2, cl3, cl4, cl5, cl6, cl7, cl8])
          have g : hI h0 (q + 1 + 1) i = nI (dT D i) := (qW i hi).2.1
          rw [g]
          exact qM_g0 F a0
      · refine ⟨nI (dB D i), 0, by decide, ?_, fun h1 M => qM_st M (fun h0 M F _ => ?_)⟩
        · unfold f_B_wheel
          refine ok_gd x1 (ok_bde (e_B_hasWheel x1 r3 rO w1 _) ?_)
          rw [hb]
          refine ok_f (by decide) (dyB_in (lo := 0) (hi := 5) hn1 hn2 (by decide) ?_)
          (try unfold QB); (try unfold QM); repeat (first | (with_reducible refine ok_lt ?_) | ((with_reducible refine ok_gd ?_ ?_); first | assumption | exact zb0 | exact zb1 | ((with_reducible apply ai_of) <;> first | assumption | omega | decide) | exact ai_lit (by assumption) (by decide) (by decide) (by decide)) | (refine ok_bR (by assumption) ?_))
          (try simp (disch := omega) only [nI_clamp, cl0, cl1, cl2, cl3, cl4, cl5, cl6, cl7, cl8])
          (try unfold QB); (try unfold QM); repeat (first | (with_reducible refine ok_lt ?_) | ((with_reducible refine ok_gd ?_ ?_); first | assumption | exact zb0 | exact zb1 | ((with_reducible apply ai_of) <;> first | assumption | omega | decide) | exact ai_lit (by assumption) (by decide) (by decide) (by decide)) | (refine ok_bR (by assumption) ?_))
          refine ok_f (by decide) (ok_f (by decide) (ok_t rfl ?_))
          (try unfold QB); (try unfold QM); repeat (first | (with_reducible refine ok_lt ?_) | ((with_reducible refine ok_gd ?_ ?_); first | assumption | exact zb0 | exact zb1 | ((with_reducible apply ai_of) <;> first | assumption | omega | decide) | exact ai_lit (by assumption) (by decide) (by decide) (by decide)) | (refine ok_bR (by assumption) ?_))
          rw [ow.2.2.1]
          exact qB_g0 Fr.rf x1
        · refine ok_gd M.1.1 (ok_bde (e_m_isWheel M w1 _) ?_)
          rw [hb]
          refine ok_f (by decide) (ok_bde e_m_in ?_)
          rw [show decide ((0 : Int32) ≤ nI 2 ∧ nI 2 ≤ 5) = true by decide]
          obtain ⟨q, q1, rQ⟩ := hMc M
          obtain ⟨LM, z0, z3, rX, rR, u1, u2, g1⟩ := id M; obtain ⟨a0, ⟨a1, a2, a3, a4, a5, a6, a7, a8, a9, a10, a11, a12, a13⟩, s1, s2, s3, s4, s5, s6, s7, s8, s9, s10, s11, s12, s13⟩ := id LM
          obtain ⟨⟨b1, b2, b3, b4, b5, b6, b7, b8, b9, b10, b11⟩, ⟨c0, c1, c2, c3, c4, c5, c6, c7, c8⟩, qW, qX, qE, qK, qS⟩ := id rQ; have d0 := b2 0 (by decide); have d1 := b2 1 (by decide); have d2 := b2 2 (by decide); have d3 := b2 3 (by decide); have d4 := b2 4 (by decide); have d5 := b2 5 (by decide); have d6 := b2 6 (by decide); have d7 := b2 7 (by decide); have d8 := b2 8 (by decide); have d9 := b2 9 (by decide); have d10 := b2 10 (by decide); have d11 := b2 11 (by decide); have d12 := b2 12 (by decide); have d13 := b2 13 (by decide); have d14 := b2 14 (by decide); have d15 := b2 15 (by decide); have d16 := b2 16 (by decide); have e0 := b3 0 (by decide); have e1 := b3 1 (by decide); have e2 := b3 2 (by decide); have e3 := b3 3 (by decide); have f0 := b6 0 (by decide); have f1 := b6 1 (by decide); have f2 := b6 2 (by decide); have f3 := b6 3 (by decide); have f4 := b6 4 (by decide); have f5 := b6 5 (by decide)
          refine ok_f (by decide) (ok_f (by decide) (ok_f (by decide) (ok_t rfl ?_)))
          (try unfold QB); (try unfold QM); repeat (first | (with_reducible refine ok_lt ?_) | ((with_reducible refine ok_gd ?_ ?_); first | assumption | exact zb0 | exact zb1 | ((with_reducible apply ai_of) <;> first | assumption | omega | decide) | exact ai_lit (by assumption) (by decide) (by decide) (by decide)) | (refine ok_bR (by assumption) ?_))
          (try simp (disch := omega) only [nI_clamp, cl0, cl1, cl2, cl3, cl4, cl5, cl6, cl7, cl8])
          have g : hI h0 (q + 1 + 2) i = nI (dB D i) := (qW i hi).2.2.1
          rw [g]
          exact qM_g0 F a0
      · refine ⟨nI (V (3 + i)), 0, by decide, ?_, fun h1 M => qM_st M (fun h0 M F _ => ?_)⟩
        · unfold f_B_wheel
          refine ok_gd x1 (ok_bde (e_B_hasWheel x1 r3 rO w1 _) ?_)
          rw [hb]
          refine ok_f (by decide) (dyB_in (lo := 0) (hi := 5) hn1 hn2 (by decide) ?_)
          (try unfold QB); (try unfold QM); repeat (first | (with_reducible refine ok_lt ?_) | ((with_reducible refine ok_gd ?_ ?_); first | assumption | exact zb0 | exact zb1 | ((with_reducible apply ai_of) <;> first | assumption | omega | decide) | exact ai_lit (by assumption) (by decide) (by decide) (by decide)) | (refine ok_bR (by assumption) ?_))
          (try simp (disch := omega) only [nI_clamp, cl0, cl1, cl2, cl3, cl4, cl5, cl6, cl7, cl8])
          (try unfold QB); (try unfold QM); repeat (first | (with_reducible refine ok_lt ?_) | ((with_reducible refine ok_gd ?_ ?_); first | assumption | exact zb0 | exact zb1 | ((with_reducible apply ai_of) <;> first | assumption | omega | decide) | exact ai_lit (by assumption) (by decide) (by decide) (by decide)) | (refine ok_bR (by assumption) ?_))
          refine ok_f (by decide) (ok_f (by decide) (ok_f (by decide) (ok_t rfl ?_)))
          rw [nI_i3]
          (try unfold QB); (try unfold QM); repeat (first | (with_reducible refine ok_lt ?_) | ((with_reducible refine ok_gd ?_ ?_); first | assumption | exact zb0 | exact zb1 | ((with_reducible apply ai_of) <;> first | assumption | omega | decide) | exact ai_lit (by assumption) (by decide) (by decide) (by decide)) | (refine ok_bR (by assumption) ?_))
          (try simp (disch := omega) only [nI_clamp, cl0, cl1, cl2, cl3, cl4, cl5, cl6, cl7, cl8])
          rw [rV.2 (3 + i) (by omega)]
          exact qB_g0 Fr.rf x1
        · refine ok_gd M.1.1 (ok_bde (e_m_isWheel M w1 _) ?_)
          rw [hb]
          refine ok_f (by decide) (ok_bde e_m_in ?_)
          rw [show decide ((0 : Int32) ≤ nI 3 ∧ nI 3 ≤ 5) = true by decide]
          obtain ⟨LM, z0, z3, rX, rR, u1, u2, g1⟩ := id M; obtain ⟨a0, ⟨a1, a2, a3, a4, a5, a6, a7, a8, a9, a10, a11, a12, a13⟩, s1, s2, s3, s4, s5, s6, s7, s8, s9, s10, s11, s12, s13⟩ := id LM
          refine ok_f (by decide) (ok_f (by decide) (ok_f (by decide) (ok_f (by decide) (ok_t rfl ?_))))
          (try unfold QB); (try unfold QM); repeat (first | (with_reducible refine ok_lt ?_) | ((with_reducible refine ok_gd ?_ ?_); first | assumption | exact zb0 | exact zb1 | ((with_reducible apply ai_of) <;> first | assumption | omega | decide) | exact ai_lit (by assumption) (by decide) (by decide) (by decide)) | (refine ok_bR (by assumption) ?_))
          (try simp (disch := omega) only [nI_clamp, cl0, cl1, cl2, cl3, cl4, cl5, cl6, cl7, cl8])
          rw [rX.t h5 (by have q1 := W.2.1.2.2.2 i (by assumption); have q2 := (W.1.1.2.2.2.2.2.2.2.1 i (by assumption)).2.2.1; omega)]
          exact qM_g0 F a0
      · refine ⟨nI (dGc D i), 0, by decide, ?_, fun h1 M => qM_st M (fun h0 M F _ => ?_)⟩
        · unfold f_B_wheel
          refine ok_gd x1 (ok_bde (e_B_hasWheel x1 r3 rO w1 _) ?_)
          rw [hb]
          refine ok_f (by decide) (dyB_in (lo := 0) (hi := 5) hn1 hn2 (by decide) ?_)
          (try unfold QB); (try unfold QM); repeat (first | (with_reducible refine ok_lt ?_) | ((with_reducible refine ok_gd ?_ ?_); first | assumption | exact zb0 | exact zb1 | ((with_reducible apply ai_of) <;> first | assumption | omega | decide) | exact ai_lit (by assumption) (by decide) (by decide) (by decide)) | (refine ok_bR (by assumption) ?_))
          (try simp (disch := omega) only [nI_clamp, cl0, cl1, cl2, cl3, cl4, cl5, cl6, cl7, cl8])
          (try unfold QB); (try unfold QM); repeat (first | (with_reducible refine ok_lt ?_) | ((with_reducible refine ok_gd ?_ ?_); first | assumption | exact zb0 | exact zb1 | ((with_reducible apply ai_of) <;> first | assumption | omega | decide) | exact ai_lit (by assumption) (by decide) (by decide) (by decide)) | (refine ok_bR (by assumption) ?_))
          refine ok_f (by decide) (ok_f (by decide) (ok_f (by decide) (ok_f (by decide) (ok_t rfl ?_))))
          (try unfold QB); (try unfold QM); repeat (first | (with_reducible refine ok_lt ?_) | ((with_reducible refine ok_gd ?_ ?_); first | assumption | exact zb0 | exact zb1 | ((with_reducible apply ai_of) <;> first | assumption | omega | decide) | exact ai_lit (by assumption) (by decide) (by decide) (by decide)) | (refine ok_bR (by assumption) ?_))
          rw [ow.2.2.2.2.1]
          exact qB_g0 Fr.rf x1
        · refine ok_gd M.1.1 (ok_bde (e_m_isWheel M w1 _) ?_)
          rw [hb]
          refine ok_f (by decide) (ok_bde e_m_in ?_)
          rw [show decide ((0 : Int32) ≤ nI 4 ∧ nI 4 ≤ 5) = true by decide]
          obtain ⟨q, q1, rQ⟩ := hMc M
          obtain ⟨LM, z0, z3, rX, rR, u1, u2, g1⟩ := id M; obtain ⟨a0, ⟨a1, a2, a3, a4, a5, a6, a7, a8, a9, a10, a11, a12, a13⟩, s1, s2, s3, s4, s5, s6, s7, s8, s9, s10, s11, s12, s13⟩ := id LM
          refine ok_f (by decide) (ok_f (by decide) (ok_f (by decide) (ok_f (by decide) (ok_f (by decide) (ok_t rfl ?_)))))
          refine ok_gd a0 (ok_bR q1 (ok_gd rQ.1.1 (ok_bde (e_n_manyGone rQ W.1.1 hi) ?_)))
          rw [← W.1.2.2 i hi]
          exact qM_gr F a0
      · refine ⟨orB (fun f => decide (dX D f i ≠ 0)) (dF D), 0, by decide, ?_, fun h1 M => qM_st M (fun h0 M F _ => ?_)⟩
        · unfold f_B_wheel
          refine ok_gd x1 (ok_bde (e_B_hasWheel x1 r3 rO w1 _) ?_)
          rw [hb]
          refine ok_f (by decide) (dyB_in (lo := 0) (hi := 5) hn1 hn2 (by decide) ?_)
          (try unfold QB); (try unfold QM); repeat (first | (with_reducible refine ok_lt ?_) | ((with_reducible refine ok_gd ?_ ?_); first | assumption | exact zb0 | exact zb1 | ((with_reducible apply ai_of) <;> first | assumption | omega | decide) | exact ai_lit (by assumption) (by decide) (by decide) (by decide)) | (refine ok_bR (by assumption) ?_))
          (try simp (disch := omega) only [nI_clamp, cl0, cl1, cl2, cl3, cl4, cl5, cl6, cl7, cl8])
          (try unfold QB); (try unfold QM); repeat (first | (with_reducible refine ok_lt ?_) | ((with_reducible refine ok_gd ?_ ?_); first | assumption | exact zb0 | exact zb1 | ((with_reducible apply ai_of) <;> first | assumption | omega | decide) | exact ai_lit (by assumption) (by decide) (by decide) (by decide)) | (refine ok_bR (by assumption) ?_))
          refine ok_f (by decide) (ok_f (by decide) (ok_f (by decide) (ok_f (by decide) (ok_f (by decide) ?_))))
          (try unfold QB); (try unfold QM); repeat (first | (with_reducible refine ok_lt ?_) | ((with_reducible refine ok_gd ?_ ?_); first | assumption | exact zb0 | exact zb1 | ((with_reducible apply ai_of) <;> first | assumption | omega | decide) | exact ai_lit (by assumption) (by decide) (by decide) (by decide)) | (refine ok_bR (by assumption) ?_))
          refine ok_bde (e_O_feastsOfWheel rO W.1.1 hi) ?_
          exact qB_gr Fr.rf x1
        · refine ok_gd M.1.1 (ok_bde (e_m_isWheel M w1 _) ?_)
          rw [hb]
          refine ok_f (by decide) (ok_bde e_m_in ?_)
          rw [show decide ((0 : Int32) ≤ nI 5 ∧ nI 5 ≤ 5) = true by decide]
          obtain ⟨q, q1, rQ⟩ := hMc M
          obtain ⟨LM, z0, z3, rX, rR, u1, u2, g1⟩ := id M; obtain ⟨a0, ⟨a1, a2, a3, a4, a5, a6, a7, a8, a9, a10, a11, a12, a13⟩, s1, s2, s3, s4, s5, s6, s7, s8, s9, s10, s11, s12, s13⟩ := id LM
          refine ok_f (by decide) (ok_f (by decide) (ok_f (by decide) (ok_f (by decide) (ok_f (by decide) (ok_f (by decide) ?_)))))
          refine ok_gd a0 (ok_bde (e_m_feastsOf a0 q1 rQ W.1.1 hi) ?_)
          exact qM_gr F a0
end P7
