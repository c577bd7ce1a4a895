/-! now, work, size, fault, where, trouble: both sides -/
section P8
variable {h h1 : Hp} {x m o q c j tl nc : Nat} {D : DD} {V : Nat → Nat} {K Im : Nat → Nat → Nat} {T : Nat → Int32} {fa tr wh : Int32}
theorem RM.nn (M : RM h m D V K c Im j T tl fa) (hW : 0 < dW D) : ¬ hR h m 3 = none := by
  obtain ⟨q, q1, -⟩ := M.2.2.1 hW
  rw [q1]
  simp
theorem q_now (W : Wst D V K c Im j tl nc) (R : RB h x D V K c Im j T tl fa) (t : Int32) : Pair x h m (fun h1 => RM h1 m D V K c Im j T tl fa) (f_B_now x t h) (f_m_now m t) := by
  obtain ⟨o, o', ho, LB, r3, r4, rO, rD, rV, rP, t1, t2, f1, sUs⟩ := id R; obtain ⟨⟨x1, x2, x3, x4, x5, x6, x7, x8, x9, x10, x11, x12, x13⟩, LR, LC, LK, LS, LG, LH⟩ := id LB
  have o1 := rO.1.1
  have w1 := W.1.1.1
  have v1 := rV.1
  have hv := W.2.1.v W.2.2.2.2.2.1
  rcases Nat.eq_zero_or_pos (dW D) with hW | hW
  · refine ⟨-1, 1, by decide, ?_, fun h1 M => qM_st M (fun h0 M F _ => ?_)⟩
    · unfold f_B_now b_B_now_16
      refine ok_gd x1 (ok_bde (e_B_hasOrrery x1 r3 rO w1) ?_)
      rw [decide_eq_false (by omega)]
      exact ok_t rfl (qB_ref Fr.rf x1)
    · unfold b_m_now_21
      exact ok_gd M.1.1 (ok_t (M.2.1 hW) (qM_ref F M.1.1))
  · rcases dy_cases t (lo := 0) (hi := 3) (by decide) (by decide) with hn | ⟨t, hn1, hn2, rfl⟩
    · refine ⟨-1, 1, by decide, ?_, fun h1 M => qM_st M (fun h0 M F _ => ?_)⟩
      · unfold f_B_now b_B_now_16
        refine ok_gd x1 (ok_bde (e_B_hasOrrery x1 r3 rO w1) ?_)
        rw [decide_eq_true hW]
        exact ok_f (by decide) (dyB_out hn (qB_ref Fr.rf x1))
      · unfold b_m_now_21
        refine ok_gd M.1.1 (ok_f (M.nn hW) (ok_bde e_m_in ?_))
        rw [show decide ((0 : Int32) ≤ t ∧ t ≤ 3) = false from not_in (n := 3) hn]
        exact ok_t rfl (qM_ref F M.1.1)
    · have e : t = 0 ∨ t = 1 ∨ t = 2 ∨ t = 3 := by omega
      rcases e with rfl | rfl | rfl | rfl
      · refine ⟨nI (V 0), 0, by decide, ?_, fun h1 M => qM_st M (fun h0 M F _ => ?_)⟩
        · unfold f_B_now
          refine ok_gd x1 (ok_bde (e_B_hasOrrery x1 r3 rO w1) ?_)
          rw [decide_eq_true hW]
          refine ok_f (by decide) (dyB_in (lo := 0) (hi := 3) hn1 hn2 (by decide) (ok_t rfl ?_))
          (try unfold QB); (try unfold QM); repeat (first | (with_reducible refine ok_lt ?_) | ((with_reducible refine ok_gd ?_ ?_); first | assumption | exact zb0 | exact zb1 | ((with_reducible apply ai_of) <;> first | assumption | omega | decide) | exact ai_lit (by assumption) (by decide) (by decide) (by decide)) | (refine ok_bR (by assumption) ?_))
          (try simp (disch := omega) only [nI_clamp, cl0, cl1, cl2, cl3, cl4, cl5, cl6, cl7, cl8])
          rw [rV.2 0 (by decide)]
          exact qB_g0 Fr.rf x1
        · unfold b_m_now_75
          have hnn := M.nn hW
          obtain ⟨LM, z0, z3, rX, rR, u1, u2, g1⟩ := id M; obtain ⟨a0, ⟨a1, a2, a3, a4, a5, a6, a7, a8, a9, a10, a11, a12, a13⟩, s1, s2, s3, s4, s5, s6, s7, s8, s9, s10, s11, s12, s13⟩ := id LM
          refine ok_gd a0 (ok_f hnn (ok_bde e_m_in ?_))
          rw [show decide ((0 : Int32) ≤ nI 0 ∧ nI 0 ≤ 3) = true by decide]
          refine ok_f (by decide) (ok_t rfl ?_)
          (try unfold QB); (try unfold QM); repeat (first | (with_reducible refine ok_lt ?_) | ((with_reducible refine ok_gd ?_ ?_); first | assumption | exact zb0 | exact zb1 | ((with_reducible apply ai_of) <;> first | assumption | omega | decide) | exact ai_lit (by assumption) (by decide) (by decide) (by decide)) | (refine ok_bR (by assumption) ?_))
          (try simp (disch := omega) only [nI_clamp, cl0, cl1, cl2, cl3, cl4, cl5, cl6, cl7, cl8])
          have g : hI h0 (m + 2) 5 = nI (V 0) := rX.2 5 (by decide)
          rw [g]
          exact qM_g0 F a0
      · refine ⟨nI (V 1), 0, by decide, ?_, fun h1 M => qM_st M (fun h0 M F _ => ?_)⟩
        · unfold f_B_now
          refine ok_gd x1 (ok_bde (e_B_hasOrrery x1 r3 rO w1) ?_)
          rw [decide_eq_true hW]
          refine ok_f (by decide) (dyB_in (lo := 0) (hi := 3) hn1 hn2 (by decide) (ok_f (by decide) (ok_t rfl ?_)))
          (try unfold QB); (try unfold QM); repeat (first | (with_reducible refine ok_lt ?_) | ((with_reducible refine ok_gd ?_ ?_); first | assumption | exact zb0 | exact zb1 | ((with_reducible apply ai_of) <;> first | assumption | omega | decide) | exact ai_lit (by assumption) (by decide) (by decide) (by decide)) | (refine ok_bR (by assumption) ?_))
          (try simp (disch := omega) only [nI_clamp, cl0, cl1, cl2, cl3, cl4, cl5, cl6, cl7, cl8])
          rw [rV.2 1 (by decide)]
          exact qB_g0 Fr.rf x1
        · unfold b_m_now_75
          have hnn := M.nn hW
          obtain ⟨LM, z0, z3, rX, rR, u1, u2, g1⟩ := id M; obtain ⟨a0, ⟨a1, a2, a3, a4, a5, a6, a7, a8, a9, a10, a11, a12, a13⟩, s1, s2, s3, s4, s5, s6, s7, s8, s9, s10, s11, s12, s13⟩ := id LM
          refine ok_gd a0 (ok_f hnn (ok_bde e_m_in ?_))
          rw [show decide ((0 : Int32) ≤ nI 1 ∧ nI 1 ≤ 3) = true by decide]
          refine ok_f (by decide) (ok_f (by decide) (ok_t rfl ?_))
          (try unfold QB); (try unfold QM); repeat (first | (with_reducible refine ok_lt ?_) | ((with_reducible refine ok_gd ?_ ?_); first | assumption | exact zb0 | exact zb1 | ((with_reducible apply ai_of) <;> first | assumption | omega | decide) | exact ai_lit (by assumption) (by decide) (by decide) (by decide)) | (refine ok_bR (by assumption) ?_))
          (try simp (disch := omega) only [nI_clamp, cl0, cl1, cl2, cl3, cl4, cl5, cl6, cl7, cl8])
          have g : hI h0 (m + 2) 6 = nI (V 1) := rX.2 6 (by decide)
          rw [g]
          exact qM_g0 F a0
      · refine ⟨orB (isOnB D V) (dF D), 0, by decide, ?_, fun h1 M => qM_st M (fun h0 M F _ => ?_)⟩
        · unfold f_B_now
          refine ok_gd x1 (ok_bde (e_B_hasOrrery x1 r3 rO w1) ?_)
          rw [decide_eq_true hW]
          refine ok_f (by decide) (dyB_in (lo := 0) (hi := 3) hn1 hn2 (by decide) (ok_f (by decide) (ok_f (by decide) (ok_t rfl ?_))))
          (try unfold QB); (try unfold QM); repeat (first | (with_reducible refine ok_lt ?_) | ((with_reducible refine ok_gd ?_ ?_); first | assumption | exact zb0 | exact zb1 | ((with_reducible apply ai_of) <;> first | assumption | omega | decide) | exact ai_lit (by assumption) (by decide) (by decide) (by decide)) | (refine ok_bR (by assumption) ?_))
          exact ok_bde (e_O_feastsOn W.1.1 rO rV hv) (qB_gr Fr.rf x1)
        · unfold b_m_now_75
          have hnn := M.nn hW
          obtain ⟨LM, z0, z3, rX, rR, u1, u2, g1⟩ := id M; obtain ⟨a0, ⟨a1, a2, a3, a4, a5, a6, a7, a8, a9, a10, a11, a12, a13⟩, s1, s2, s3, s4, s5, s6, s7, s8, s9, s10, s11, s12, s13⟩ := id LM
          obtain ⟨q, q1, q2, q2', rQ⟩ := z3 hW
          refine ok_gd a0 (ok_f hnn (ok_bde e_m_in ?_))
          rw [show decide ((0 : Int32) ≤ nI 2 ∧ nI 2 ≤ 3) = true by decide]
          refine ok_f (by decide) (ok_f (by decide) (ok_f (by decide) (ok_t rfl (ok_gd a0 (ok_bd (ok_mono (ok_m_onNow LM q1 (by omega) rQ W.1.1 rX hv) ?_))))))
          intro y h2 hx
          obtain ⟨rfl, hF2⟩ := hx
          exact qM_gr (F.trans (hF2.r.mono (fun a k e => ScM_X e))) (by rw [hF2.2.1]; exact a0)
      · refine ⟨nI (V 2), 0, by decide, ?_, fun h1 M => qM_st M (fun h0 M F _ => ?_)⟩
        · unfold f_B_now
          refine ok_gd x1 (ok_bde (e_B_hasOrrery x1 r3 rO w1) ?_)
          rw [decide_eq_true hW]
          refine ok_f (by decide) (dyB_in (lo := 0) (hi := 3) hn1 hn2 (by decide) (ok_f (by decide) (ok_f (by decide) (ok_f (by decide) ?_))))
          (try unfold QB); (try unfold QM); repeat (first | (with_reducible refine ok_lt ?_) | ((with_reducible refine ok_gd ?_ ?_); first | assumption | exact zb0 | exact zb1 | ((with_reducible apply ai_of) <;> first | assumption | omega | decide) | exact ai_lit (by assumption) (by decide) (by decide) (by decide)) | (refine ok_bR (by assumption) ?_))
          (try simp (disch := omega) only [nI_clamp, cl0, cl1, cl2, cl3, cl4, cl5, cl6, cl7, cl8])
          rw [rV.2 2 (by decide)]
          exact qB_g0 Fr.rf x1
        · unfold b_m_now_75
          have hnn := M.nn hW
          obtain ⟨LM, z0, z3, rX, rR, u1, u2, g1⟩ := id M; obtain ⟨a0, ⟨a1, a2, a3, a4, a5, a6, a7, a8, a9, a10, a11, a12, a13⟩, s1, s2, s3, s4, s5, s6, s7, s8, s9, s10, s11, s12, s13⟩ := id LM
          refine ok_gd a0 (ok_f hnn (ok_bde e_m_in ?_))
          rw [show decide ((0 : Int32) ≤ nI 3 ∧ nI 3 ≤ 3) = true by decide]
          refine ok_f (by decide) (ok_f (by decide) (ok_f (by decide) (ok_f (by decide) ?_)))
          (try unfold QB); (try unfold QM); repeat (first | (with_reducible refine ok_lt ?_) | ((with_reducible refine ok_gd ?_ ?_); first | assumption | exact zb0 | exact zb1 | ((with_reducible apply ai_of) <;> first | assumption | omega | decide) | exact ai_lit (by assumption) (by decide) (by decide) (by decide)) | (refine ok_bR (by assumption) ?_))
          (try simp (disch := omega) only [nI_clamp, cl0, cl1, cl2, cl3, cl4, cl5, cl6, cl7, cl8])
          have g : hI h0 (m + 2) 7 = nI (V 2) := rX.2 7 (by decide)
          rw [g]
          exact qM_g0 F a0
theorem q_work (W : Wst D V K c Im j tl nc) (R : RB h x D V K c Im j T tl fa) (k t : Int32) : Pair x h m (fun h1 => RM h1 m D V K c Im j T tl fa) (f_B_work x k t h) (f_m_work m k t) := by
  obtain ⟨o, o', ho, LB, r3, r4, rO, rD, rV, rP, t1, t2, f1, sUs⟩ := id R; obtain ⟨⟨x1, x2, x3, x4, x5, x6, x7, x8, x9, x10, x11, x12, x13⟩, LR, LC, LK, LS, LG, LH⟩ := id LB
  obtain ⟨⟨o1, ⟨o2, o3, o4, o5, o6, o7, o8, o9, o10⟩, o11, o12, o13, o14, o15, o16⟩, ⟨p1, p2, p3, p4, p5, p6, p7⟩, oW, oX, oK, oE, oS⟩ := id rO
  have w3 := W.1.1.2.2.1
  have q3 := o13 3 (by decide) (by decide)
  have q4 := o13 4 (by decide) (by decide)
  have q5 := o13 5 (by decide) (by decide)
  have refB : ∀ {r : Int32}, (isN (dN D) k = false ∨ (t < 0 ∨ nI 2 < t)) → QB x h (f_B_work x k t h) (-1) 1 := by
    intro _ hr
    unfold f_B_work b_B_work_24
    refine ok_ite (fun c1 => qB_ref Fr.rf x1) (fun c1 => ?_)
    (try unfold QB); (try unfold QM); repeat (first | (with_reducible refine ok_lt ?_) | ((with_reducible refine ok_gd ?_ ?_); first | assumption | exact zb0 | exact zb1 | ((with_reducible apply ai_of) <;> first | assumption | omega | decide) | exact ai_lit (by assumption) (by decide) (by decide) (by decide)) | (refine ok_bR (by assumption) ?_))
    rw [p5]
    refine ok_ite (fun c2 => qB_ref Fr.rf x1) (fun c2 => ?_)
    rcases hr with hr | hr
    · rw [show isN (dN D) k = true from decide_eq_true ⟨Int32.not_lt.mp c1, Int32.not_le.mp c2⟩] at hr
      cases hr
    · exact dyB_out hr (qB_ref Fr.rf x1)
  have refM : ∀ {h1 : Hp}, RM h1 m D V K c Im j T tl fa → (isN (dN D) k = false ∨ (t < 0 ∨ nI 2 < t)) → QM m h1 (f_m_work m k t h1) (-1) 1 := by
    intro h1 M hr
    refine qM_st M (fun h0 M F _ => ?_)
    unfold b_m_work_36
    obtain ⟨LM, z0, z3, rX, rR, u1, u2, g1⟩ := id M; obtain ⟨a0, ⟨a1, a2, a3, a4, a5, a6, a7, a8, a9, a10, a11, a12, a13⟩, s1, s2, s3, s4, s5, s6, s7, s8, s9, s10, s11, s12, s13⟩ := id LM
    rcases Nat.eq_zero_or_pos (dW D) with hW | hW
    · exact ok_gd a0 (ok_t (z0 hW) (qM_ref F a0))
    · obtain ⟨q, q1, q2, q2', rQ⟩ := z3 hW
      have b1 := rQ.1.1
      refine ok_gd a0 (ok_f (M.nn hW) (ok_ite (fun c1 => qM_ref F a0) (fun c1 => ?_)))
      (try unfold QB); (try unfold QM); repeat (first | (with_reducible refine ok_lt ?_) | ((with_reducible refine ok_gd ?_ ?_); first | assumption | exact zb0 | exact zb1 | ((with_reducible apply ai_of) <;> first | assumption | omega | decide) | exact ai_lit (by assumption) (by decide) (by decide) (by decide)) | (refine ok_bR (by assumption) ?_))
      rw [rQ.2.1.2.2.2.2.2.1]
      refine ok_ite (fun c2 => qM_ref F a0) (fun c2 => ok_bde e_m_in ?_)
      rcases hr with hr | hr
      · rw [show isN (dN D) k = true from decide_eq_true ⟨Int32.not_lt.mp c1, Int32.not_le.mp c2⟩] at hr
        cases hr
      · rw [show decide ((0 : Int32) ≤ t ∧ t ≤ 2) = false from not_in (n := 2) hr]
        exact ok_t rfl (qM_ref F a0)
  cases hb : isN (dN D) k with
  | false => exact ⟨-1, 1, by decide, refB (r := 0) (Or.inl hb), fun h1 M => refM M (Or.inl hb)⟩
  | true =>
    rcases dy_cases t (lo := 0) (hi := 2) (by decide) (by decide) with hn | ⟨t, hn1, hn2, rfl⟩
    · exact ⟨-1, 1, by decide, refB (r := 0) (Or.inr hn), fun h1 M => refM M (Or.inr hn)⟩
    · clear refB refM
      obtain ⟨i, hi, rfl⟩ := isN_ex (by omega) hb
      have hi4 : i < 4 := by omega
      have hW : 0 < dW D := by
        rcases Nat.eq_zero_or_pos (dW D) with e | e
        · have := (W.2.2.2.2.2.2 e).2.1
          omega
        · exact e
      have ok := oK i hi
      have n1 : ¬ nI i < 0 := nI_pos (by omega)
      have n2 : ¬ nI (dN D) ≤ nI i := fun g => by have := (nI_leI (by omega) (by omega)).mp g; omega
      have e : t = 0 ∨ t = 1 ∨ t = 2 := by omega
      rcases e with rfl | rfl | rfl
      · refine ⟨nI (dTk D i), 0, by decide, ?_, fun h1 M => qM_st M (fun h0 M F _ => ?_)⟩
        · unfold f_B_work
          refine ok_f n1 ?_
          (try unfold QB); (try unfold QM); repeat (first | (with_reducible refine ok_lt ?_) | ((with_reducible refine ok_gd ?_ ?_); first | assumption | exact zb0 | exact zb1 | ((with_reducible apply ai_of) <;> first | assumption | omega | decide) | exact ai_lit (by assumption) (by decide) (by decide) (by decide)) | (refine ok_bR (by assumption) ?_))
          rw [p5]
          refine ok_f n2 (dyB_in (lo := 0) (hi := 2) hn1 hn2 (by decide) (ok_t rfl ?_))
          (try unfold QB); (try unfold QM); repeat (first | (with_reducible refine ok_lt ?_) | ((with_reducible refine ok_gd ?_ ?_); first | assumption | exact zb0 | exact zb1 | ((with_reducible apply ai_of) <;> first | assumption | omega | decide) | exact ai_lit (by assumption) (by decide) (by decide) (by decide)) | (refine ok_bR (by assumption) ?_))
          (try simp (disch := omega) only [nI_clamp, cl0, cl1, cl2, cl3, cl4, cl5, cl6, cl7, cl8])
          rw [ok.1]
          exact qB_g0 Fr.rf x1
        · unfold b_m_work_85
          have hnn := M.nn hW
          obtain ⟨LM, z0, z3, rX, rR, u1, u2, g1⟩ := id M; obtain ⟨a0, ⟨a1, a2, a3, a4, a5, a6, a7, a8, a9, a10, a11, a12, a13⟩, s1, s2, s3, s4, s5, s6, s7, s8, s9, s10, s11, s12, s13⟩ := id LM
          obtain ⟨q, q1, q2, q2', rQ⟩ := z3 hW
          obtain ⟨⟨b1, b2, b3, b4, b5, b6, b7, b8, b9, b10, b11⟩, ⟨c0, c1, c2, c3, c4, c5, c6, c7, c8⟩, qW, qX, qE, qK, qS⟩ := id rQ; have d0 := b2 0 (by decide); have d1 := b2 1 (by decide); have d2 := b2 2 (by decide); have d3 := b2 3 (by decide); have d4 := b2 4 (by decide); have d5 := b2 5 (by decide); have d6 := b2 6 (by decide); have d7 := b2 7 (by decide); have d8 := b2 8 (by decide); have d9 := b2 9 (by decide); have d10 := b2 10 (by decide); have d11 := b2 11 (by decide); have d12 := b2 12 (by decide); have d13 := b2 13 (by decide); have d14 := b2 14 (by decide); have d15 := b2 15 (by decide); have d16 := b2 16 (by decide); have e0 := b3 0 (by decide); have e1 := b3 1 (by decide); have e2 := b3 2 (by decide); have e3 := b3 3 (by decide); have f0 := b6 0 (by decide); have f1 := b6 1 (by decide); have f2 := b6 2 (by decide); have f3 := b6 3 (by decide); have f4 := b6 4 (by decide); have f5 := b6 5 (by decide)
          refine ok_gd a0 (ok_f hnn (ok_f n1 ?_))
          (try unfold QB); (try unfold QM); repeat (first | (with_reducible refine ok_lt ?_) | ((with_reducible refine ok_gd ?_ ?_); first | assumption | exact zb0 | exact zb1 | ((with_reducible apply ai_of) <;> first | assumption | omega | decide) | exact ai_lit (by assumption) (by decide) (by decide) (by decide)) | (refine ok_bR (by assumption) ?_))
          rw [c5]
          refine ok_f n2 (ok_bde e_m_in ?_)
          rw [show decide ((0 : Int32) ≤ nI 0 ∧ nI 0 ≤ 2) = true by decide]
          refine ok_f (by decide) (ok_t rfl ?_)
          (try unfold QB); (try unfold QM); repeat (first | (with_reducible refine ok_lt ?_) | ((with_reducible refine ok_gd ?_ ?_); first | assumption | exact zb0 | exact zb1 | ((with_reducible apply ai_of) <;> first | assumption | omega | decide) | exact ai_lit (by assumption) (by decide) (by decide) (by decide)) | (refine ok_bR (by assumption) ?_))
          (try simp (disch := omega) only [nI_clamp, cl0, cl1, cl2, cl3, cl4, cl5, cl6, cl7, cl8])
          have g : hI h0 (q + 1 + 9) i = nI (dTk D i) := (qK i hi).1
          rw [g]
          exact qM_g0 F a0
      · refine ⟨nI (dWo D i), 0, by decide, ?_, fun h1 M => qM_st M (fun h0 M F _ => ?_)⟩
        · unfold f_B_work
          refine ok_f n1 ?_
          (try unfold QB); (try unfold QM); repeat (first | (with_reducible refine ok_lt ?_) | ((with_reducible refine ok_gd ?_ ?_); first | assumption | exact zb0 | exact zb1 | ((with_reducible apply ai_of) <;> first | assumption | omega | decide) | exact ai_lit (by assumption) (by decide) (by decide) (by decide)) | (refine ok_bR (by assumption) ?_))
          rw [p5]
          refine ok_f n2 (dyB_in (lo := 0) (hi := 2) hn1 hn2 (by decide) (ok_f (by decide) (ok_t rfl ?_)))
          (try unfold QB); (try unfold QM); repeat (first | (with_reducible refine ok_lt ?_) | ((with_reducible refine ok_gd ?_ ?_); first | assumption | exact zb0 | exact zb1 | ((with_reducible apply ai_of) <;> first | assumption | omega | decide) | exact ai_lit (by assumption) (by decide) (by decide) (by decide)) | (refine ok_bR (by assumption) ?_))
          (try simp (disch := omega) only [nI_clamp, cl0, cl1, cl2, cl3, cl4, cl5, cl6, cl7, cl8])
          rw [ok.2.1]
          exact qB_g0 Fr.rf x1
        · unfold b_m_work_85
          have hnn := M.nn hW
          obtain ⟨LM, z0, z3, rX, rR, u1, u2, g1⟩ := id M; obtain ⟨a0, ⟨a1, a2, a3, a4, a5, a6, a7, a8, a9, a10, a11, a12, a13⟩, s1, s2, s3, s4, s5, s6, s7, s8, s9, s10, s11, s12, s13⟩ := id LM
          obtain ⟨q, q1, q2, q2', rQ⟩ := z3 hW
          obtain ⟨⟨b1, b2, b3, b4, b5, b6, b7, b8, b9, b10, b11⟩, ⟨c0, c1, c2, c3, c4, c5, c6, c7, c8⟩, qW, qX, qE, qK, qS⟩ := id rQ; have d0 := b2 0 (by decide); have d1 := b2 1 (by decide); have d2 := b2 2 (by decide); have d3 := b2 3 (by decide); have d4 := b2 4 (by decide); have d5 := b2 5 (by decide); have d6 := b2 6 (by decide); have d7 := b2 7 (by decide); have d8 := b2 8 (by decide); have d9 := b2 9 (by decide); have d10 := b2 10 (by decide); have d11 := b2 11 (by decide); have d12 := b2 12 (by decide); have d13 := b2 13 (by decide); have d14 := b2 14 (by decide); have d15 := b2 15 (by decide); have d16 := b2 16 (by decide); have e0 := b3 0 (by decide); have e1 := b3 1 (by decide); have e2 := b3 2 (by decide); have e3 := b3 3 (by decide); have f0 := b6 0 (by decide); have f1 := b6 1 (by decide); have f2 := b6 2 (by decide); have f3 := b6 3 (by decide); have f4 := b6 4 (by decide); have f5 := b6 5 (by decide)
          refine ok_gd a0 (ok_f hnn (ok_f n1 ?_))
          (try unfold QB); (try unfold QM); repeat (first | (with_reducible refine ok_lt ?_) | ((with_reducible refine ok_gd ?_ ?_); first | assumption | exact zb0 | exact zb1 | ((with_reducible apply ai_of) <;> first | assumption | omega | decide) | exact ai_lit (by assumption) (by decide) (by decide) (by decide)) | (refine ok_bR (by assumption) ?_))
          rw [c5]
          refine ok_f n2 (ok_bde e_m_in ?_)
          rw [show decide ((0 : Int32) ≤ nI 1 ∧ nI 1 ≤ 2) = true by decide]
          refine ok_f (by decide) (ok_f (by decide) (ok_t rfl ?_))
          (try unfold QB); (try unfold QM); repeat (first | (with_reducible refine ok_lt ?_) | ((with_reducible refine ok_gd ?_ ?_); first | assumption | exact zb0 | exact zb1 | ((with_reducible apply ai_of) <;> first | assumption | omega | decide) | exact ai_lit (by assumption) (by decide) (by decide) (by decide)) | (refine ok_bR (by assumption) ?_))
          (try simp (disch := omega) only [nI_clamp, cl0, cl1, cl2, cl3, cl4, cl5, cl6, cl7, cl8])
          have g : hI h0 (q + 1 + 10) i = nI (dWo D i) := (qK i hi).2.1
          rw [g]
          exact qM_g0 F a0
      · refine ⟨nI (dTi D i), 0, by decide, ?_, fun h1 M => qM_st M (fun h0 M F _ => ?_)⟩
        · unfold f_B_work
          refine ok_f n1 ?_
          (try unfold QB); (try unfold QM); repeat (first | (with_reducible refine ok_lt ?_) | ((with_reducible refine ok_gd ?_ ?_); first | assumption | exact zb0 | exact zb1 | ((with_reducible apply ai_of) <;> first | assumption | omega | decide) | exact ai_lit (by assumption) (by decide) (by decide) (by decide)) | (refine ok_bR (by assumption) ?_))
          rw [p5]
          refine ok_f n2 (dyB_in (lo := 0) (hi := 2) hn1 hn2 (by decide) (ok_f (by decide) (ok_f (by decide) ?_)))
          (try unfold QB); (try unfold QM); repeat (first | (with_reducible refine ok_lt ?_) | ((with_reducible refine ok_gd ?_ ?_); first | assumption | exact zb0 | exact zb1 | ((with_reducible apply ai_of) <;> first | assumption | omega | decide) | exact ai_lit (by assumption) (by decide) (by decide) (by decide)) | (refine ok_bR (by assumption) ?_))
          (try simp (disch := omega) only [nI_clamp, cl0, cl1, cl2, cl3, cl4, cl5, cl6, cl7, cl8])
          rw [ok.2.2]
          exact qB_g0 Fr.rf x1
        · unfold b_m_work_85
          have hnn := M.nn hW
          obtain ⟨LM, z0, z3, rX, rR, u1, u2, g1⟩ := id M; obtain ⟨a0, ⟨a1, a2, a3, a4, a5, a6, a7, a8, a9, a10, a11, a12, a13⟩, s1, s2, s3, s4, s5, s6, s7, s8, s9, s10, s11, s12, s13⟩ := id LM
          obtain ⟨q, q1, q2, q2', rQ⟩ := z3 hW
          obtain ⟨⟨b1, b2, b3, b4, b5, b6, b7, b8, b9, b10, b11⟩, ⟨c0, c1, c2, c3, c4, c5, c6, c7, c8⟩, qW, qX, qE, qK, qS⟩ := id rQ; have d0 := b2 0 (by decide); have d1 := b2 1 (by decide); have d2 := b2 2 (by decide); have d3 := b2 3 (by decide); have d4 := b2 4 (by decide); have d5 := b2 5 (by decide); have d6 := b2 6 (by decide); have d7 := b2 7 (by decide); have d8 := b2 8 (by decide); have d9 := b2 9 (by decide); have d10 := b2 10 (by decide); have d11 := b2 11 (by decide); have d12 := b2 12 (by decide); have d13 := b2 13 (by decide); have d14 := b2 14 (by decide); have d15 := b2 15 (by decide); have d16 := b2 16 (by decide); have e0 := b3 0 (by decide); have e1 := b3 1 (by decide); have e2 := b3 2 (by decide); have e3 := b3 3 (by decide); have f0 := b6 0 (by decide); have f1 := b6 1 (by decide); have f2 := b6 2 (by decide); have f3 := b6 3 (by decide); have f4 := b6 4 (by decide); have f5 := b6 5 (by decide)
          refine ok_gd a0 (ok_f hnn (ok_f n1 ?_))
          (try unfold QB); (try unfold QM); repeat (first | (with_reducible refine ok_lt ?_) | ((with_reducible refine ok_gd ?_ ?_); first | assumption | exact zb0 | exact zb1 | ((with_reducible apply ai_of) <;> first | assumption | omega | decide) | exact ai_lit (by assumption) (by decide) (by decide) (by decide)) | (refine ok_bR (by assumption) ?_))
          rw [c5]
          refine ok_f n2 (ok_bde e_m_in ?_)
          rw [show decide ((0 : Int32) ≤ nI 2 ∧ nI 2 ≤ 2) = true by decide]
          refine ok_f (by decide) (ok_f (by decide) (ok_f (by decide) ?_))
          (try unfold QB); (try unfold QM); repeat (first | (with_reducible refine ok_lt ?_) | ((with_reducible refine ok_gd ?_ ?_); first | assumption | exact zb0 | exact zb1 | ((with_reducible apply ai_of) <;> first | assumption | omega | decide) | exact ai_lit (by assumption) (by decide) (by decide) (by decide)) | (refine ok_bR (by assumption) ?_))
          (try simp (disch := omega) only [nI_clamp, cl0, cl1, cl2, cl3, cl4, cl5, cl6, cl7, cl8])
          have g : hI h0 (q + 1 + 11) i = nI (dTi D i) := (qK i hi).2.2
          rw [g]
          exact qM_g0 F a0
/-! answers that leave the trouble as it is -/
theorem n_fault (R : RB h x D V K c Im j T tl fa) : f_B_fault x h = some (fa, h) := by
  obtain ⟨o, o', ho, LB, r3, r4, rO, rD, rV, rP, t1, t2, f1, sUs⟩ := id R; obtain ⟨⟨x1, x2, x3, x4, x5, x6, x7, x8, x9, x10, x11, x12, x13⟩, LR, LC, LK, LS, LG, LH⟩ := id LB
  refine ok_eq ?_
  unfold f_B_fault
  (try unfold QB); (try unfold QM); repeat (first | (with_reducible refine ok_lt ?_) | ((with_reducible refine ok_gd ?_ ?_); first | assumption | exact zb0 | exact zb1 | ((with_reducible apply ai_of) <;> first | assumption | omega | decide) | exact ai_lit (by assumption) (by decide) (by decide) (by decide)) | (refine ok_bR (by assumption) ?_))
  exact ok_ret ⟨f1, rfl⟩
theorem nm_fault (M : RM h m D V K c Im j T tl fa) : f_m_fault m h = some (fa, uI h m 0 0) := by
  obtain ⟨LM, z0, z3, rX, rR, u1, u2, g1⟩ := id M; obtain ⟨a0, ⟨a1, a2, a3, a4, a5, a6, a7, a8, a9, a10, a11, a12, a13⟩, s1, s2, s3, s4, s5, s6, s7, s8, s9, s10, s11, s12, s13⟩ := id LM
  refine ok_eq ?_
  unfold f_m_fault
  (try unfold QB); (try unfold QM); repeat (first | (with_reducible refine ok_lt ?_) | ((with_reducible refine ok_gd ?_ ?_); first | assumption | exact zb0 | exact zb1 | ((with_reducible apply ai_of) <;> first | assumption | omega | decide) | exact ai_lit (by assumption) (by decide) (by decide) (by decide)) | (refine ok_bR (by assumption) ?_))
  refine ok_ret ⟨?_, rfl⟩
  rw [hI_uIk (by decide)]
  exact g1
theorem n_trouble (R : RB h x D V K c Im j T tl fa) (t : TrB h x tr wh) : f_B_trouble x h = some (tr, h) := by
  obtain ⟨o, o', ho, LB, r3, r4, rO, rD, rV, rP, t1, t2, f1, sUs⟩ := id R; obtain ⟨⟨x1, x2, x3, x4, x5, x6, x7, x8, x9, x10, x11, x12, x13⟩, LR, LC, LK, LS, LG, LH⟩ := id LB
  refine ok_eq ?_
  unfold f_B_trouble
  (try unfold QB); (try unfold QM); repeat (first | (with_reducible refine ok_lt ?_) | ((with_reducible refine ok_gd ?_ ?_); first | assumption | exact zb0 | exact zb1 | ((with_reducible apply ai_of) <;> first | assumption | omega | decide) | exact ai_lit (by assumption) (by decide) (by decide) (by decide)) | (refine ok_bR (by assumption) ?_))
  exact ok_ret ⟨t.1, rfl⟩
theorem nm_trouble (M : RM h m D V K c Im j T tl fa) (t : TrM h m tr wh) : f_m_trouble m h = some (tr, uI h m 0 0) := by
  obtain ⟨LM, z0, z3, rX, rR, u1, u2, g1⟩ := id M; obtain ⟨a0, ⟨a1, a2, a3, a4, a5, a6, a7, a8, a9, a10, a11, a12, a13⟩, s1, s2, s3, s4, s5, s6, s7, s8, s9, s10, s11, s12, s13⟩ := id LM
  refine ok_eq ?_
  unfold f_m_trouble
  (try unfold QB); (try unfold QM); repeat (first | (with_reducible refine ok_lt ?_) | ((with_reducible refine ok_gd ?_ ?_); first | assumption | exact zb0 | exact zb1 | ((with_reducible apply ai_of) <;> first | assumption | omega | decide) | exact ai_lit (by assumption) (by decide) (by decide) (by decide)) | (refine ok_bR (by assumption) ?_))
  refine ok_ret ⟨?_, rfl⟩
  rw [hI_uIk (by decide)]
  exact t.1
theorem n_where (R : RB h x D V K c Im j T tl fa) (t : TrB h x tr wh) : f_B_where x h = some (wh, h) := by
  obtain ⟨o, o', ho, LB, r3, r4, rO, rD, rV, rP, t1, t2, f1, sUs⟩ := id R; obtain ⟨⟨x1, x2, x3, x4, x5, x6, x7, x8, x9, x10, x11, x12, x13⟩, LR, LC, LK, LS, LG, LH⟩ := id LB
  have lr1 := LR.1
  refine ok_eq ?_
  unfold f_B_where
  (try unfold QB); (try unfold QM); repeat (first | (with_reducible refine ok_lt ?_) | ((with_reducible refine ok_gd ?_ ?_); first | assumption | exact zb0 | exact zb1 | ((with_reducible apply ai_of) <;> first | assumption | omega | decide) | exact ai_lit (by assumption) (by decide) (by decide) (by decide)) | (refine ok_bR (by assumption) ?_))
  rw [t.1]
  refine ok_ite (fun c1 => ?_) (fun c1 => ok_ret ⟨(t.2.2 c1).symm, rfl⟩)
  (try unfold QB); (try unfold QM); repeat (first | (with_reducible refine ok_lt ?_) | ((with_reducible refine ok_gd ?_ ?_); first | assumption | exact zb0 | exact zb1 | ((with_reducible apply ai_of) <;> first | assumption | omega | decide) | exact ai_lit (by assumption) (by decide) (by decide) (by decide)) | (refine ok_bR (by assumption) ?_))
  exact ok_ret ⟨t.2.1 c1, rfl⟩
theorem nm_where (M : RM h m D V K c Im j T tl fa) (t : TrM h m tr wh) : f_m_where m h = some (wh, uI h m 0 0) := by
  obtain ⟨LM, z0, z3, rX, rR, u1, u2, g1⟩ := id M; obtain ⟨a0, ⟨a1, a2, a3, a4, a5, a6, a7, a8, a9, a10, a11, a12, a13⟩, s1, s2, s3, s4, s5, s6, s7, s8, s9, s10, s11, s12, s13⟩ := id LM
  refine ok_eq ?_
  unfold f_m_where
  (try unfold QB); (try unfold QM); repeat (first | (with_reducible refine ok_lt ?_) | ((with_reducible refine ok_gd ?_ ?_); first | assumption | exact zb0 | exact zb1 | ((with_reducible apply ai_of) <;> first | assumption | omega | decide) | exact ai_lit (by assumption) (by decide) (by decide) (by decide)) | (refine ok_bR (by assumption) ?_))
  refine ok_ret ⟨?_, rfl⟩
  rw [hI_uIk (by decide)]
  exact t.2
/-- what size answers -/
def szA (D : DD) (c j tl : Nat) (v : Int32) : Int32 := if v = 0 then nI (dSl D) else if v = 1 then nI (dW D) else if v = 2 then nI (sumN (dGc D) (dW D)) else if v = 3 then nI (dF D) else if v = 4 then nI (dN D) else if v = 5 then nI (sumN (fun f => if dEv D f = 0 then 0 else 1) (dF D)) else if v = 6 then (if dSu D = 0 then 0 else 1) else if v = 7 then nI (dSe D) else if v = 8 then nI c else if v = 9 then nI j else if v = 10 then nI tl else -1
theorem e_O_goneTeeth (rO : RepO h o D) (W : Wf D) : f_O_goneTeeth o h = some (nI (sumN (dGc D) (dW D)), h) := by
  have w1 := W.1
  obtain ⟨⟨o1, ⟨o2, o3, o4, o5, o6, o7, o8, o9, o10⟩, o11, o12, o13, o14, o15, o16⟩, ⟨p1, p2, p3, p4, p5, p6, p7⟩, oW, oX, oK, oE, oS⟩ := id rO
  refine ok_eq ?_
  unfold f_O_goneTeeth
  (try unfold QB); (try unfold QM); repeat (first | (with_reducible refine ok_lt ?_) | ((with_reducible refine ok_gd ?_ ?_); first | assumption | exact zb0 | exact zb1 | ((with_reducible apply ai_of) <;> first | assumption | omega | decide) | exact ai_lit (by assumption) (by decide) (by decide) (by decide)) | (refine ok_bR (by assumption) ?_))
  refine ok_up (dW D) (fun i s h' => s = (o, nI (sumN (dGc D) i), nI i) ∧ h' = h) ?_ FU 0 _ _ (Nat.zero_le _) ⟨rfl, rfl⟩ (by show _ < 10000; omega)
  intro k i s h' hi hI' kk
  obtain ⟨rfl, rfl⟩ := hI'
  show Ok (b_O_goneTeeth_4 k o (nI (sumN (dGc D) i)) (nI i) h') _
  unfold b_O_goneTeeth_4
  (try unfold QB); (try unfold QM); repeat (first | (with_reducible refine ok_lt ?_) | ((with_reducible refine ok_gd ?_ ?_); first | assumption | exact zb0 | exact zb1 | ((with_reducible apply ai_of) <;> first | assumption | omega | decide) | exact ai_lit (by assumption) (by decide) (by decide) (by decide)) | (refine ok_bR (by assumption) ?_))
  rw [p3]
  refine ok_it hi (by omega) (fun e => ok_ret ⟨by rw [e], rfl⟩) (fun hl => ?_)
  have h5 : i < 5 := by omega
  obtain ⟨o17, o18⟩ := o16 i h5
  (try unfold QB); (try unfold QM); repeat (first | (with_reducible refine ok_lt ?_) | ((with_reducible refine ok_gd ?_ ?_); first | assumption | exact zb0 | exact zb1 | ((with_reducible apply ai_of) <;> first | assumption | omega | decide) | exact ai_lit (by assumption) (by decide) (by decide) (by decide)) | (refine ok_bR (by assumption) ?_))
  (try simp (disch := omega) only [nI_clamp, cl0, cl1, cl2, cl3, cl4, cl5, cl6, cl7, cl8])
  (try unfold QB); (try unfold QM); repeat (first | (with_reducible refine ok_lt ?_) | ((with_reducible refine ok_gd ?_ ?_); first | assumption | exact zb0 | exact zb1 | ((with_reducible apply ai_of) <;> first | assumption | omega | decide) | exact ai_lit (by assumption) (by decide) (by decide) (by decide)) | (refine ok_bR (by assumption) ?_))
  rw [(oW i hl).2.2.2.2.1, nI_add, nI_1]
  exact kk _ _ hl ⟨rfl, rfl⟩
theorem e_O_skyCount (rO : RepO h o D) (W : Wf D) : f_O_skyCount o h = some (nI (sumN (fun f => if dEv D f = 0 then 0 else 1) (dF D)), h) := by
  have w2 := W.2.1
  have o1 := rO.1.1
  refine ok_eq ?_
  unfold f_O_skyCount
  (try unfold QB); (try unfold QM); repeat (first | (with_reducible refine ok_lt ?_) | ((with_reducible refine ok_gd ?_ ?_); first | assumption | exact zb0 | exact zb1 | ((with_reducible apply ai_of) <;> first | assumption | omega | decide) | exact ai_lit (by assumption) (by decide) (by decide) (by decide)) | (refine ok_bR (by assumption) ?_))
  refine ok_up (dF D) (fun i s h' => s = (o, nI (sumN (fun f => if dEv D f = 0 then 0 else 1) i), nI i) ∧ h' = h) ?_ FU 0 _ _ (Nat.zero_le _) ⟨rfl, rfl⟩ (by show _ < 10000; omega)
  intro k i s h' hi hI' kk
  obtain ⟨rfl, rfl⟩ := hI'
  show Ok (b_O_skyCount_4 k o (nI (sumN (fun f => if dEv D f = 0 then 0 else 1) i)) (nI i) h') _
  unfold b_O_skyCount_4 b_O_skyCount_23
  (try unfold QB); (try unfold QM); repeat (first | (with_reducible refine ok_lt ?_) | ((with_reducible refine ok_gd ?_ ?_); first | assumption | exact zb0 | exact zb1 | ((with_reducible apply ai_of) <;> first | assumption | omega | decide) | exact ai_lit (by assumption) (by decide) (by decide) (by decide)) | (refine ok_bR (by assumption) ?_))
  rw [rO.2.1.2.2.2.1]
  refine ok_it hi (by omega) (fun e => ok_ret ⟨by rw [e], rfl⟩) (fun hl => ?_)
  have hs : sumN (fun f => if dEv D f = 0 then 0 else 1) (i + 1) = sumN (fun f => if dEv D f = 0 then 0 else 1) i + (if dEv D i = 0 then 0 else 1) := rfl
  refine ok_gd o1 (ok_bde (e_O_hasSky rO W hl) (ok_ib (fun c1 => kk _ _ hl ⟨?_, rfl⟩) (fun c1 => kk _ _ hl ⟨?_, rfl⟩)))
  · have := of_decide_eq_false c1
    rw [hs, if_pos (by omega), nI_1]
    rfl
  · have := of_decide_eq_true c1
    rw [hs, if_neg (by omega), nI_1, nI_1]
theorem n_size (W : Wst D V K c Im j tl nc) (R : RB h x D V K c Im j T tl fa) (v : Int32) : f_B_size x v h = some (szA D c j tl v, h) := by
  obtain ⟨o, o', ho, LB, r3, r4, rO, rD, rV, rP, t1, t2, f1, sUs⟩ := id R; obtain ⟨⟨x1, x2, x3, x4, x5, x6, x7, x8, x9, x10, x11, x12, x13⟩, LR, LC, LK, LS, LG, LH⟩ := id LB
  obtain ⟨⟨o1, ⟨o2, o3, o4, o5, o6, o7, o8, o9, o10⟩, o11, o12, o13, o14, o15, o16⟩, ⟨p1, p2, p3, p4, p5, p6, p7⟩, oW, oX, oK, oE, oS⟩ := id rO
  have w7 := W.1.1.2.2.2.2.2.2.1
  have w1 := W.1.1.1
  have P1 := rP.1
  have P2 : hI h (x + 38) 2 = nI c := rP.2.2.2.2.2.2.2.1
  have P4 : hI h (x + 38) 4 = nI j := rP.2.2.2.2.2.2.2.2.1
  refine ok_eq ?_
  unfold f_B_size szA
  refine ok_ite (fun e => ?_) (fun e => ?_)
  · rw [if_pos e]
    (try unfold QB); (try unfold QM); repeat (first | (with_reducible refine ok_lt ?_) | ((with_reducible refine ok_gd ?_ ?_); first | assumption | exact zb0 | exact zb1 | ((with_reducible apply ai_of) <;> first | assumption | omega | decide) | exact ai_lit (by assumption) (by decide) (by decide) (by decide)) | (refine ok_bR (by assumption) ?_))
    exact ok_ret ⟨p2, rfl⟩
  rw [if_neg e]
  refine ok_ite (fun e => ?_) (fun e => ?_)
  · rw [if_pos e]
    (try unfold QB); (try unfold QM); repeat (first | (with_reducible refine ok_lt ?_) | ((with_reducible refine ok_gd ?_ ?_); first | assumption | exact zb0 | exact zb1 | ((with_reducible apply ai_of) <;> first | assumption | omega | decide) | exact ai_lit (by assumption) (by decide) (by decide) (by decide)) | (refine ok_bR (by assumption) ?_))
    exact ok_ret ⟨p3, rfl⟩
  rw [if_neg e]
  refine ok_ite (fun e => ?_) (fun e => ?_)
  · rw [if_pos e]
    (try unfold QB); (try unfold QM); repeat (first | (with_reducible refine ok_lt ?_) | ((with_reducible refine ok_gd ?_ ?_); first | assumption | exact zb0 | exact zb1 | ((with_reducible apply ai_of) <;> first | assumption | omega | decide) | exact ai_lit (by assumption) (by decide) (by decide) (by decide)) | (refine ok_bR (by assumption) ?_))
    exact ok_bde (e_O_goneTeeth rO W.1.1) (ok_ret ⟨rfl, rfl⟩)
  rw [if_neg e]
  refine ok_ite (fun e => ?_) (fun e => ?_)
  · rw [if_pos e]
    (try unfold QB); (try unfold QM); repeat (first | (with_reducible refine ok_lt ?_) | ((with_reducible refine ok_gd ?_ ?_); first | assumption | exact zb0 | exact zb1 | ((with_reducible apply ai_of) <;> first | assumption | omega | decide) | exact ai_lit (by assumption) (by decide) (by decide) (by decide)) | (refine ok_bR (by assumption) ?_))
    exact ok_ret ⟨p4, rfl⟩
  rw [if_neg e]
  refine ok_ite (fun e => ?_) (fun e => ?_)
  · rw [if_pos e]
    (try unfold QB); (try unfold QM); repeat (first | (with_reducible refine ok_lt ?_) | ((with_reducible refine ok_gd ?_ ?_); first | assumption | exact zb0 | exact zb1 | ((with_reducible apply ai_of) <;> first | assumption | omega | decide) | exact ai_lit (by assumption) (by decide) (by decide) (by decide)) | (refine ok_bR (by assumption) ?_))
    exact ok_ret ⟨p5, rfl⟩
  rw [if_neg e]
  refine ok_ite (fun e => ?_) (fun e => ?_)
  · rw [if_pos e]
    (try unfold QB); (try unfold QM); repeat (first | (with_reducible refine ok_lt ?_) | ((with_reducible refine ok_gd ?_ ?_); first | assumption | exact zb0 | exact zb1 | ((with_reducible apply ai_of) <;> first | assumption | omega | decide) | exact ai_lit (by assumption) (by decide) (by decide) (by decide)) | (refine ok_bR (by assumption) ?_))
    exact ok_bde (e_O_skyCount rO W.1.1) (ok_ret ⟨rfl, rfl⟩)
  rw [if_neg e]
  refine ok_ite (fun e => ?_) (fun e => ?_)
  · rw [if_pos e]
    (try unfold QB); (try unfold QM); repeat (first | (with_reducible refine ok_lt ?_) | ((with_reducible refine ok_gd ?_ ?_); first | assumption | exact zb0 | exact zb1 | ((with_reducible apply ai_of) <;> first | assumption | omega | decide) | exact ai_lit (by assumption) (by decide) (by decide) (by decide)) | (refine ok_bR (by assumption) ?_))
    rw [p6]
    refine ok_ix (by omega) (fun ez => ok_ret ⟨by rw [if_pos ez], rfl⟩) (fun ez => ok_ret ⟨by rw [if_neg ez], rfl⟩)
  rw [if_neg e]
  refine ok_ite (fun e => ?_) (fun e => ?_)
  · rw [if_pos e]
    (try unfold QB); (try unfold QM); repeat (first | (with_reducible refine ok_lt ?_) | ((with_reducible refine ok_gd ?_ ?_); first | assumption | exact zb0 | exact zb1 | ((with_reducible apply ai_of) <;> first | assumption | omega | decide) | exact ai_lit (by assumption) (by decide) (by decide) (by decide)) | (refine ok_bR (by assumption) ?_))
    exact ok_ret ⟨p7, rfl⟩
  rw [if_neg e]
  refine ok_ite (fun e => ?_) (fun e => ?_)
  · rw [if_pos e]
    (try unfold QB); (try unfold QM); repeat (first | (with_reducible refine ok_lt ?_) | ((with_reducible refine ok_gd ?_ ?_); first | assumption | exact zb0 | exact zb1 | ((with_reducible apply ai_of) <;> first | assumption | omega | decide) | exact ai_lit (by assumption) (by decide) (by decide) (by decide)) | (refine ok_bR (by assumption) ?_))
    exact ok_ret ⟨P2, rfl⟩
  rw [if_neg e]
  refine ok_ite (fun e => ?_) (fun e => ?_)
  · rw [if_pos e]
    (try unfold QB); (try unfold QM); repeat (first | (with_reducible refine ok_lt ?_) | ((with_reducible refine ok_gd ?_ ?_); first | assumption | exact zb0 | exact zb1 | ((with_reducible apply ai_of) <;> first | assumption | omega | decide) | exact ai_lit (by assumption) (by decide) (by decide) (by decide)) | (refine ok_bR (by assumption) ?_))
    exact ok_ret ⟨P4, rfl⟩
  rw [if_neg e]
  refine ok_ite (fun e => ?_) (fun e => ?_)
  · rw [if_pos e]
    (try unfold QB); (try unfold QM); repeat (first | (with_reducible refine ok_lt ?_) | ((with_reducible refine ok_gd ?_ ?_); first | assumption | exact zb0 | exact zb1 | ((with_reducible apply ai_of) <;> first | assumption | omega | decide) | exact ai_lit (by assumption) (by decide) (by decide) (by decide)) | (refine ok_bR (by assumption) ?_))
    exact ok_ret ⟨t1, rfl⟩
  rw [if_neg e]
  exact ok_ret ⟨rfl, rfl⟩
theorem nm_size (W : Wst D V K c Im j tl nc) (M : RM h m D V K c Im j T tl fa) (v : Int32) : f_m_size m v h = some (szA D c j tl v, uI h m 0 0) := by
  have M0 : RM (uI h m 0 0) m D V K c Im j T tl fa := M.fr (fr_uI (S := ScM m) (ScM_l (by decide))) (fun a k e => Or.inl e)
  have a00 := M.1.1
  have w7 := W.1.1.2.2.2.2.2.2.1
  have w1 := W.1.1.1
  generalize hH : uI h m 0 0 = H at M0
  refine ok_eq ?_
  unfold f_m_size
  refine ok_gd a00 (ok_lt ?_)
  rw [hH]
  clear M
  have M := M0
  obtain ⟨LM, z0, z3, rX, rR, u1, u2, g1⟩ := id M; obtain ⟨a0, ⟨a1, a2, a3, a4, a5, a6, a7, a8, a9, a10, a11, a12, a13⟩, s1, s2, s3, s4, s5, s6, s7, s8, s9, s10, s11, s12, s13⟩ := id LM
  refine ok_ite (fun e => ?_) (fun e => ok_bde e_m_in ?_)
  · rw [e]
    (try unfold QB); (try unfold QM); repeat (first | (with_reducible refine ok_lt ?_) | ((with_reducible refine ok_gd ?_ ?_); first | assumption | exact zb0 | exact zb1 | ((with_reducible apply ai_of) <;> first | assumption | omega | decide) | exact ai_lit (by assumption) (by decide) (by decide) (by decide)) | (refine ok_bR (by assumption) ?_))
    exact ok_ret ⟨u1, rfl⟩
  rcases dy_cases v (lo := 0) (hi := 9) (by decide) (by decide) with hn | ⟨t, hn1, hn2, rfl⟩
  · rw [show decide ((0 : Int32) ≤ v ∧ v ≤ 9) = false from not_in (n := 9) hn]
    refine ok_t rfl (ok_ret ⟨?_, rfl⟩)
    have ne : ∀ {k : Nat}, k ≤ 9 → ¬ v = nI k := fun hk g => by
      rw [g] at hn
      rcases hn with q | q
      · exact nI_pos (by omega) q
      · have := (nI_ltI (by decide) (by omega)).mp q
        omega
    unfold szA
    rw [if_neg (show ¬ v = 0 from ne (k := 0) (by decide)), if_neg (show ¬ v = 1 from ne (k := 1) (by decide)), if_neg (show ¬ v = 2 from ne (k := 2) (by decide)), if_neg (show ¬ v = 3 from ne (k := 3) (by decide)), if_neg (show ¬ v = 4 from ne (k := 4) (by decide)), if_neg (show ¬ v = 5 from ne (k := 5) (by decide)), if_neg (show ¬ v = 6 from ne (k := 6) (by decide)), if_neg (show ¬ v = 7 from ne (k := 7) (by decide)), if_neg (show ¬ v = 8 from ne (k := 8) (by decide)), if_neg (show ¬ v = 9 from ne (k := 9) (by decide)), if_neg e]
  · rw [show decide ((0 : Int32) ≤ nI t ∧ nI t ≤ 9) = true from yes_in (n := 9) hn2 (by decide)]
    refine ok_f (by decide) (ok_gd a0 ?_)
    have et : t = 0 ∨ t = 1 ∨ t = 2 ∨ t = 3 ∨ t = 4 ∨ t = 5 ∨ t = 6 ∨ t = 7 ∨ t = 8 ∨ t = 9 := by omega
    rcases Nat.eq_zero_or_pos (dW D) with hW | hW
    · refine ok_t (z0 hW) (ok_ret ⟨?_, rfl⟩)
      obtain ⟨y1, y2, y3, y4, y5, y6, y7⟩ := W.2.2.2.2.2.2 hW
      unfold szA
      rw [hW, y1, y2, y3, y4, y5, y6, y7]
      rcases et with rfl | rfl | rfl | rfl | rfl | rfl | rfl | rfl | rfl | rfl <;> rfl
    · obtain ⟨q, q1, q2, q2', rQ⟩ := z3 hW
      obtain ⟨b1, -⟩ := rQ.1
      obtain ⟨c0, c1, c2, c3, c4, c5, c6, c7, c8⟩ := rQ.2.1
      refine ok_f (by rw [q1]; simp) ?_
      rcases et with rfl | rfl | rfl | rfl | rfl | rfl | rfl | rfl | rfl | rfl
      · refine ok_t rfl ?_
        (try unfold QB); (try unfold QM); repeat (first | (with_reducible refine ok_lt ?_) | ((with_reducible refine ok_gd ?_ ?_); first | assumption | exact zb0 | exact zb1 | ((with_reducible apply ai_of) <;> first | assumption | omega | decide) | exact ai_lit (by assumption) (by decide) (by decide) (by decide)) | (refine ok_bR (by assumption) ?_))
        exact ok_ret ⟨c1, rfl⟩
      · refine ok_f (by decide) (ok_t rfl ?_)
        (try unfold QB); (try unfold QM); repeat (first | (with_reducible refine ok_lt ?_) | ((with_reducible refine ok_gd ?_ ?_); first | assumption | exact zb0 | exact zb1 | ((with_reducible apply ai_of) <;> first | assumption | omega | decide) | exact ai_lit (by assumption) (by decide) (by decide) (by decide)) | (refine ok_bR (by assumption) ?_))
        exact ok_ret ⟨c2, rfl⟩
      · refine ok_f (by decide) (ok_f (by decide) (ok_t rfl ?_))
        (try unfold QB); (try unfold QM); repeat (first | (with_reducible refine ok_lt ?_) | ((with_reducible refine ok_gd ?_ ?_); first | assumption | exact zb0 | exact zb1 | ((with_reducible apply ai_of) <;> first | assumption | omega | decide) | exact ai_lit (by assumption) (by decide) (by decide) (by decide)) | (refine ok_bR (by assumption) ?_))
        exact ok_ret ⟨c3, rfl⟩
      · refine ok_f (by decide) (ok_f (by decide) (ok_f (by decide) (ok_t rfl ?_)))
        (try unfold QB); (try unfold QM); repeat (first | (with_reducible refine ok_lt ?_) | ((with_reducible refine ok_gd ?_ ?_); first | assumption | exact zb0 | exact zb1 | ((with_reducible apply ai_of) <;> first | assumption | omega | decide) | exact ai_lit (by assumption) (by decide) (by decide) (by decide)) | (refine ok_bR (by assumption) ?_))
        exact ok_ret ⟨c4, rfl⟩
      · refine ok_f (by decide) (ok_f (by decide) (ok_f (by decide) (ok_f (by decide) (ok_t rfl ?_))))
        (try unfold QB); (try unfold QM); repeat (first | (with_reducible refine ok_lt ?_) | ((with_reducible refine ok_gd ?_ ?_); first | assumption | exact zb0 | exact zb1 | ((with_reducible apply ai_of) <;> first | assumption | omega | decide) | exact ai_lit (by assumption) (by decide) (by decide) (by decide)) | (refine ok_bR (by assumption) ?_))
        exact ok_ret ⟨c5, rfl⟩
      · refine ok_f (by decide) (ok_f (by decide) (ok_f (by decide) (ok_f (by decide) (ok_f (by decide) (ok_t rfl ?_)))))
        (try unfold QB); (try unfold QM); repeat (first | (with_reducible refine ok_lt ?_) | ((with_reducible refine ok_gd ?_ ?_); first | assumption | exact zb0 | exact zb1 | ((with_reducible apply ai_of) <;> first | assumption | omega | decide) | exact ai_lit (by assumption) (by decide) (by decide) (by decide)) | (refine ok_bR (by assumption) ?_))
        exact ok_ret ⟨c6, rfl⟩
      · refine ok_f (by decide) (ok_f (by decide) (ok_f (by decide) (ok_f (by decide) (ok_f (by decide) (ok_f (by decide) (ok_t rfl ?_))))))
        (try unfold QB); (try unfold QM); repeat (first | (with_reducible refine ok_lt ?_) | ((with_reducible refine ok_gd ?_ ?_); first | assumption | exact zb0 | exact zb1 | ((with_reducible apply ai_of) <;> first | assumption | omega | decide) | exact ai_lit (by assumption) (by decide) (by decide) (by decide)) | (refine ok_bR (by assumption) ?_))
        rw [c7]
        show Ok _ (fun r h' => r = (if dSu D = 0 then 0 else 1) ∧ h' = H)
        exact ok_ix (by omega) (fun ez => ok_ret ⟨by rw [if_pos ez], rfl⟩) (fun ez => ok_ret ⟨by rw [if_neg ez], rfl⟩)
      · refine ok_f (by decide) (ok_f (by decide) (ok_f (by decide) (ok_f (by decide) (ok_f (by decide) (ok_f (by decide) (ok_f (by decide) (ok_t rfl ?_)))))))
        (try unfold QB); (try unfold QM); repeat (first | (with_reducible refine ok_lt ?_) | ((with_reducible refine ok_gd ?_ ?_); first | assumption | exact zb0 | exact zb1 | ((with_reducible apply ai_of) <;> first | assumption | omega | decide) | exact ai_lit (by assumption) (by decide) (by decide) (by decide)) | (refine ok_bR (by assumption) ?_))
        exact ok_ret ⟨c8, rfl⟩
      · refine ok_f (by decide) (ok_f (by decide) (ok_f (by decide) (ok_f (by decide) (ok_f (by decide) (ok_f (by decide) (ok_f (by decide) (ok_f (by decide) (ok_t rfl ?_))))))))
        (try unfold QB); (try unfold QM); repeat (first | (with_reducible refine ok_lt ?_) | ((with_reducible refine ok_gd ?_ ?_); first | assumption | exact zb0 | exact zb1 | ((with_reducible apply ai_of) <;> first | assumption | omega | decide) | exact ai_lit (by assumption) (by decide) (by decide) (by decide)) | (refine ok_bR (by assumption) ?_))
        exact ok_ret ⟨rR.2.2.1, rfl⟩
      · refine ok_f (by decide) (ok_f (by decide) (ok_f (by decide) (ok_f (by decide) (ok_f (by decide) (ok_f (by decide) (ok_f (by decide) (ok_f (by decide) (ok_f (by decide) ?_))))))))
        (try unfold QB); (try unfold QM); repeat (first | (with_reducible refine ok_lt ?_) | ((with_reducible refine ok_gd ?_ ?_); first | assumption | exact zb0 | exact zb1 | ((with_reducible apply ai_of) <;> first | assumption | omega | decide) | exact ai_lit (by assumption) (by decide) (by decide) (by decide)) | (refine ok_bR (by assumption) ?_))
        exact ok_ret ⟨rR.2.2.2.1, rfl⟩
end P8
