/-! acts, further: turnBack, oil, set, undo, image, back -/
section AD
variable {h h' h1 : Hp} {x m c j tl nc : Nat} {D : DD} {V : Nat → Nat} {K Im : Nat → Nat → Nat} {T : Nat → Int32} {fa : Int32}
theorem a_turnBack (W : Wst D V K c Im j tl nc) (hn : nc < 512) (R : RB h x D V K c Im j T tl fa) : PairA x h m (fun h1 => RM h1 m D V K c Im j T tl fa) T tl fa nc (f_B_turnBack x h) (f_m_turnBack m) := by
  have hV0 := W.2.1.1
  have hv := W.2.1.v W.2.2.2.2.2.1
  have w1 := W.1.1.1
  rcases Nat.eq_zero_or_pos (dW D) with hW | hW
  · refine Pair.a W hn R ⟨-1, 1, by decide, ?_, fun h1 M => qM_st M (fun h0 M F _ => ?_)⟩
    · obtain ⟨o, o', ho, LB, r3, r4, rO, rD, rV, rP, t1, t2, f1, sUs⟩ := id R; obtain ⟨⟨x1, x2, x3, x4, x5, x6, x7, x8, x9, x10, x11, x12, x13⟩, LR, LC, LK, LS, LG, LH⟩ := id LB
      unfold f_B_turnBack
      refine ok_gd x1 (ok_bde (e_B_hasOrrery x1 r3 rO w1) ?_)
      rw [decide_eq_false (by omega)]
      exact ok_t rfl (qB_ref Fr.rf x1)
    · exact ok_gd M.1.1 (ok_t (M.2.1 hW) (qM_ref F M.1.1))
  by_cases hd : V 0 = 0
  · refine Pair.a W hn R ⟨-1, 5, by decide, ?_, fun h1 M => qM_st M (fun h0 M F _ => ?_)⟩
    · obtain ⟨o, o', ho, LB, r3, r4, rO, rD, rV, rP, t1, t2, f1, sUs⟩ := id R; obtain ⟨⟨x1, x2, x3, x4, x5, x6, x7, x8, x9, x10, x11, x12, x13⟩, LR, LC, LK, LS, LG, LH⟩ := id LB
      have v1 := rV.1
      unfold f_B_turnBack
      refine ok_gd x1 (ok_bde (e_B_hasOrrery x1 r3 rO w1) ?_)
      rw [decide_eq_true hW]
      refine ok_f (by decide) ?_
      (try unfold QB); (try unfold QM); repeat (first | (with_reducible refine ok_lt ?_) | ((with_reducible refine ok_gd ?_ ?_); first | assumption | exact zb0 | exact zb1 | ((with_reducible apply ai_of) <;> first | assumption | omega | decide) | exact ai_lit (by assumption) (by decide) (by decide) (by decide)) | (refine ok_bR (by assumption) ?_))
      (try simp (disch := omega) only [nI_clamp, cl0, cl1, cl2, cl3, cl4, cl5, cl6, cl7, cl8])
      rw [rV.2 0 (by decide), hd]
      exact ok_f (by decide) (qB_ref Fr.rf x1)
    · have hnn := M.nn hW
      obtain ⟨LM, z0, z3, rX, rR, u1, u2, g1⟩ := id M; obtain ⟨a0, ⟨a1, a2, a3, a4, a5, a6, a7, a8, a9, a10, a11, a12, a13⟩, s1, s2, s3, s4, s5, s6, s7, s8, s9, s10, s11, s12, s13⟩ := id LM
      refine ok_gd a0 (ok_f hnn ?_)
      (try unfold QB); (try unfold QM); repeat (first | (with_reducible refine ok_lt ?_) | ((with_reducible refine ok_gd ?_ ?_); first | assumption | exact zb0 | exact zb1 | ((with_reducible apply ai_of) <;> first | assumption | omega | decide) | exact ai_lit (by assumption) (by decide) (by decide) (by decide)) | (refine ok_bR (by assumption) ?_))
      (try simp (disch := omega) only [nI_clamp, cl0, cl1, cl2, cl3, cl4, cl5, cl6, cl7, cl8])
      have g : hI h0 (m + 2) 5 = nI (V 0) := rX.2 5 (by decide)
      rw [g, hd]
      exact ok_t rfl (qM_ref F a0)
  · have hpos : 0 < V 0 := by omega
    have hJ := mvJ_le (D := D) (s := false) (V := upV V 0 (V 0 - 1)) (i := dW D)
    have hvU : WfV D (upV V 0 (V 0 - 1)) := upV_wf0 hv (by omega)
    have bk : ∀ k, k ≠ 2 → bkV D V k = mvV D false (upV V 0 (V 0 - 1)) (dW D) k := fun k hk => if_neg hk
    have b0 : bkV D V 0 = V 0 - 1 := by
      rw [bk 0 (by decide), mvV_lo (by decide)]
      rfl
    have b1' : bkV D V 1 = V 1 := by
      rw [bk 1 (by decide), mvV_lo (by decide)]
      rfl
    have b3 : ∀ w, w < dW D → bkV D V (3 + w) < dT D w := fun w hw => by
      rw [bk _ (by omega), mvV_at hw]
      exact mt_lt W.1.1 hvU hw
    have g2 : WfG D (bkV D V) (nc + 1) := by
      have b2 := W.2.1.2.2.1
      refine ⟨by omega, by rw [b1']; exact hv.2.1, ?_, b3⟩
      show V 2 + mvJ D false (upV V 0 (V 0 - 1)) (dW D) ≤ _
      omega
    refine ⟨nI (bkJ D V), 0, D, bkV D V, shK K V, min 16 (c + 1), Im, j, by decide, W.shk hn g2 hW, ?_, fun h1 M => ?_⟩
    · obtain ⟨o, o', ho, LB, r3, r4, rO, rD, rV, rP, t1, t2, f1, sUs⟩ := id R; obtain ⟨⟨x1, x2, x3, x4, x5, x6, x7, x8, x9, x10, x11, x12, x13⟩, LR, LC, LK, LS, LG, LH⟩ := id LB
      have v1 := rV.1
      have P1 := rP.1
      unfold f_B_turnBack
      refine ok_gd x1 (ok_bde (e_B_hasOrrery x1 r3 rO w1) ?_)
      rw [decide_eq_true hW]
      refine ok_f (by decide) ?_
      (try unfold QB); (try unfold QM); repeat (first | (with_reducible refine ok_lt ?_) | ((with_reducible refine ok_gd ?_ ?_); first | assumption | exact zb0 | exact zb1 | ((with_reducible apply ai_of) <;> first | assumption | omega | decide) | exact ai_lit (by assumption) (by decide) (by decide) (by decide)) | (refine ok_bR (by assumption) ?_))
      (try simp (disch := omega) only [nI_clamp, cl0, cl1, cl2, cl3, cl4, cl5, cl6, cl7, cl8])
      rw [rV.2 0 (by decide)]
      refine ok_t (nI_lt (a := 0) hpos (by omega)) ?_
      (try unfold QB); (try unfold QM); repeat (first | (with_reducible refine ok_lt ?_) | ((with_reducible refine ok_gd ?_ ?_); first | assumption | exact zb0 | exact zb1 | ((with_reducible apply ai_of) <;> first | assumption | omega | decide) | exact ai_lit (by assumption) (by decide) (by decide) (by decide)) | (refine ok_bR (by assumption) ?_))
      refine ok_bd (ok_mono (ok_P_keep rP rV) ?_)
      intro _ h2 hx
      obtain ⟨hF2, rP2⟩ := hx
      have hF2' : Fk (aB x) h h2 := hF2.mono (fun a k e => aB_P e)
      have e1 : hS h2 x = some (.inl 0) := by rw [hF2.2.1]; exact x1
      have e3 : hR h2 x 3 = some o := by rw [hF2.2.2.2.1]; exact r3
      have e5 : hR h2 x 5 = some (x + 36) := by rw [hF2.2.2.2.1]; exact x4
      have rO2 : RepO h2 o D := rO.fk hF2 (fun i k hi e => by unfold sP at e; omega) w1
      have rV2 : RepV h2 (x + 36) V := rV.fk hF2 (fun k e => by unfold sP at e; omega)
      have o1 := rO2.1.1
      (try unfold QB); (try unfold QM); repeat (first | (with_reducible refine ok_lt ?_) | ((with_reducible refine ok_gd ?_ ?_); first | assumption | exact zb0 | exact zb1 | ((with_reducible apply ai_of) <;> first | assumption | omega | decide) | exact ai_lit (by assumption) (by decide) (by decide) (by decide)) | (refine ok_bR (by assumption) ?_))
      refine ok_bd (ok_mono (ok_O_goTurnBack W.1.1 rO2 rV2 hv (fun i hi => by omega) hpos) ?_)
      intro y h3 hx
      obtain ⟨rfl, hF3, rV3⟩ := hx
      have e13 : hS h3 x = some (.inl 0) := by rw [hF3.2.1]; exact e1
      have hF4 : Fk (aB x) h h3 := hF2'.trans (hF3.k.mono (fun a k e => Or.inr (Or.inl e)))
      exact ok_gd e13 (ok_bde (e_B_grant e13) (ok_ret ⟨rfl, aB_fin R W.1.1 hF4 rV3 (rP2.fr hF3.k.r (fun i k hi e => by omega))⟩))
    · have hF0 : Fk (aM m) h1 (uI h1 m 0 0) := fk_uI (Or.inl ⟨rfl, Or.inl (by decide)⟩)
      have M0 : RM (uI h1 m 0 0) m D V K c Im j T tl fa := M.fr (fr_uI (S := ScM m) (ScM_l (by decide))) (fun a k e => Or.inl e)
      refine ok_gd M.1.1 (ok_lt ?_)
      generalize uI h1 m 0 0 = h0 at hF0 M0
      have M1 := M
      clear M
      have M := M0
      have hnn := M.nn hW
      obtain ⟨LM, z0, z3, rX, rR, u1, u2, g1⟩ := id M; obtain ⟨a0, ⟨a1, a2, a3, a4, a5, a6, a7, a8, a9, a10, a11, a12, a13⟩, s1, s2, s3, s4, s5, s6, s7, s8, s9, s10, s11, s12, s13⟩ := id LM
      obtain ⟨q, q1, q2, q2', rQ⟩ := z3 hW
      refine ok_gd a0 (ok_f hnn ?_)
      (try unfold QB); (try unfold QM); repeat (first | (with_reducible refine ok_lt ?_) | ((with_reducible refine ok_gd ?_ ?_); first | assumption | exact zb0 | exact zb1 | ((with_reducible apply ai_of) <;> first | assumption | omega | decide) | exact ai_lit (by assumption) (by decide) (by decide) (by decide)) | (refine ok_bR (by assumption) ?_))
      (try simp (disch := omega) only [nI_clamp, cl0, cl1, cl2, cl3, cl4, cl5, cl6, cl7, cl8])
      have g : hI h0 (m + 2) 5 = nI (V 0) := rX.2 5 (by decide)
      rw [g]
      refine ok_f (fun e => hd ((nI_eq (b := 0) (by omega) (by decide)).mp e)) ?_
      refine ok_gd a0 (ok_bd (ok_mono (ok_m_remembers LM rX rR) ?_))
      intro _ h2 hx
      obtain ⟨hF2, rR2⟩ := hx
      have LM2 := LM.fk hF2
      have rX2 : RepX h2 (m + 2) V := rX.fk hF2 (fun k e => by unfold sR at e; omega)
      have rQ2 : RepQ h2 q D := rQ.fk hF2 (fun i k hi e => by unfold sR at e; omega)
      refine ok_gd LM2.1 (ok_bd (ok_mono (ok_m_works LM2 rX2) ?_))
      intro _ h3 hx
      obtain ⟨hF3, rX3⟩ := hx
      have LM3 := LM2.fk hF3
      have rQ3 : RepQ h3 q D := rQ2.fk hF3 (fun i k hi e => by unfold sX at e; omega)
      have q13 : hR h3 m 3 = some q := by rw [hF3.2.2.2.1, hF2.2.2.2.1]; exact q1
      refine ok_gd LM3.1 (ok_bd (ok_mono (ok_m_aTurnBack LM3 q13 (by omega) rQ3 W.1.1 rX3 hv hpos) ?_))
      intro y h4 hx
      obtain ⟨rfl, hF4, rX4⟩ := hx
      have LM4 := LM3.fk hF4
      refine ok_gd LM4.1 (ok_bd (ok_mono (ok_m_becomes LM4 rX4) ?_))
      intro y h5 hx
      obtain ⟨rfl, h6, rfl, hF6, rX6⟩ := hx
      have hF7 : Fk (aM m) h1 h6 := (((hF0.trans (hF2.mono (fun a k e => aM_R e))).trans (hF3.mono (fun a k e => aM_X e))).trans (hF4.mono (fun a k e => aM_X e))).trans (hF6.mono (fun a k e => Or.inr (Or.inl e)))
      have rR6 : RepR h6 m (shK K V) (min 16 (c + 1)) Im j := ((rR2.fr hF3.r (by unfold sX; omega) (by unfold sX; omega) (fun k => by unfold sX; omega) (fun k => by unfold sX; omega)).fr hF4.r (by unfold sX; omega) (by unfold sX; omega) (fun k => by unfold sX; omega) (fun k => by unfold sX; omega)).fr hF6.r (by omega) (by omega) (fun k => by omega) (fun k => by omega)
      refine ok_ret ⟨rfl, aM_fin M1 hF7 (rX6.ext (fun k hk => ?_)) rR6⟩
      by_cases q5 : k = 2
      · rw [q5]
        show bkX D V 2 + bkJ D V = upV V 0 (V 0 - 1) 2 + mvJ D false (upV V 0 (V 0 - 1)) (dW D)
        have e2 : bkX D V 2 = upV V 0 (V 0 - 1) 2 := mvV_lo (D := D) (s := false) (i := dW D) (k := 2) (by decide)
        rw [e2]
        rfl
      · show (if k = 2 then _ else bkX D V k) = (if k = 2 then _ else mvV D false (upV V 0 (V 0 - 1)) (dW D) k)
        rw [if_neg q5, if_neg q5]
        rfl
theorem a_oil (W : Wst D V K c Im j tl nc) (hn : nc < 512) (R : RB h x D V K c Im j T tl fa) (v : Int32) : PairA x h m (fun h1 => RM h1 m D V K c Im j T tl fa) T tl fa nc (f_B_oil x v h) (f_m_oil m v) := by
  have hV1 := W.2.1.2.1
  have w1 := W.1.1.1
  rcases Nat.eq_zero_or_pos (dW D) with hW | hW
  · refine Pair.a W hn R ⟨-1, 1, by decide, ?_, fun h1 M => qM_st M (fun h0 M F _ => ?_)⟩
    · obtain ⟨o, o', ho, LB, r3, r4, rO, rD, rV, rP, t1, t2, f1, sUs⟩ := id R; obtain ⟨⟨x1, x2, x3, x4, x5, x6, x7, x8, x9, x10, x11, x12, x13⟩, LR, LC, LK, LS, LG, LH⟩ := id LB
      unfold f_B_oil
      refine ok_gd x1 (ok_bde (e_B_hasOrrery x1 r3 rO w1) ?_)
      rw [decide_eq_false (by omega)]
      exact ok_t rfl (qB_ref Fr.rf x1)
    · exact ok_gd M.1.1 (ok_t (M.2.1 hW) (qM_ref F M.1.1))
  rcases dy_cases v (lo := 1) (hi := 99) (by decide) (by decide) with hr | ⟨a, ha1, ha2, rfl⟩
  · refine Pair.a W hn R ⟨-1, 2, by decide, ?_, fun h1 M => qM_st M (fun h0 M F _ => ?_)⟩
    · obtain ⟨o, o', ho, LB, r3, r4, rO, rD, rV, rP, t1, t2, f1, sUs⟩ := id R; obtain ⟨⟨x1, x2, x3, x4, x5, x6, x7, x8, x9, x10, x11, x12, x13⟩, LR, LC, LK, LS, LG, LH⟩ := id LB
      unfold f_B_oil b_B_oil_24
      refine ok_gd x1 (ok_bde (e_B_hasOrrery x1 r3 rO w1) ?_)
      rw [decide_eq_true hW]
      exact ok_f (by decide) (dyB_out hr (qB_ref Fr.rf x1))
    · refine ok_gd M.1.1 (ok_f (M.nn hW) (ok_bde e_m_in ?_))
      rw [show decide ((1 : Int32) ≤ v ∧ v ≤ 99) = false from decide_eq_false (fun g => by
        rcases hr with e | e
        · exact absurd g.1 (Int32.not_le.mpr e)
        · exact absurd g.2 (Int32.not_le.mpr e))]
      exact ok_t rfl (qM_ref F M.1.1)
  have hin : decide ((1 : Int32) ≤ nI a ∧ nI a ≤ 99) = true := decide_eq_true ⟨nI_le (a := 1) ha1 (by omega), nI_le (b := 99) ha2 (by decide)⟩
  by_cases hd : V 1 = 99
  · refine Pair.a W hn R ⟨-1, 5, by decide, ?_, fun h1 M => qM_st M (fun h0 M F _ => ?_)⟩
    · obtain ⟨o, o', ho, LB, r3, r4, rO, rD, rV, rP, t1, t2, f1, sUs⟩ := id R; obtain ⟨⟨x1, x2, x3, x4, x5, x6, x7, x8, x9, x10, x11, x12, x13⟩, LR, LC, LK, LS, LG, LH⟩ := id LB
      have v1 := rV.1
      unfold f_B_oil
      refine ok_gd x1 (ok_bde (e_B_hasOrrery x1 r3 rO w1) ?_)
      rw [decide_eq_true hW]
      refine ok_f (by decide) (dyB_in (lo := 1) (hi := 99) ha1 ha2 (by decide) ?_)
      (try unfold QB); (try unfold QM); repeat (first | (with_reducible refine ok_lt ?_) | ((with_reducible refine ok_gd ?_ ?_); first | assumption | exact zb0 | exact zb1 | ((with_reducible apply ai_of) <;> first | assumption | omega | decide) | exact ai_lit (by assumption) (by decide) (by decide) (by decide)) | (refine ok_bR (by assumption) ?_))
      (try simp (disch := omega) only [nI_clamp, cl0, cl1, cl2, cl3, cl4, cl5, cl6, cl7, cl8])
      rw [rV.2 1 (by decide), hd]
      exact ok_f (by decide) (qB_ref Fr.rf x1)
    · have hnn := M.nn hW
      obtain ⟨LM, z0, z3, rX, rR, u1, u2, g1⟩ := id M; obtain ⟨a0, ⟨a1, a2, a3, a4, a5, a6, a7, a8, a9, a10, a11, a12, a13⟩, s1, s2, s3, s4, s5, s6, s7, s8, s9, s10, s11, s12, s13⟩ := id LM
      refine ok_gd a0 (ok_f hnn (ok_bde e_m_in ?_))
      rw [hin]
      refine ok_f (by decide) ?_
      (try unfold QB); (try unfold QM); repeat (first | (with_reducible refine ok_lt ?_) | ((with_reducible refine ok_gd ?_ ?_); first | assumption | exact zb0 | exact zb1 | ((with_reducible apply ai_of) <;> first | assumption | omega | decide) | exact ai_lit (by assumption) (by decide) (by decide) (by decide)) | (refine ok_bR (by assumption) ?_))
      (try simp (disch := omega) only [nI_clamp, cl0, cl1, cl2, cl3, cl4, cl5, cl6, cl7, cl8])
      have g : hI h0 (m + 2) 6 = nI (V 1) := rX.2 6 (by decide)
      rw [g, hd]
      exact ok_t rfl (qM_ref F a0)
  · have g2 : WfG D (upV V 1 (min 99 (V 1 + a))) (nc + 1) := by
      have g0 := W.2.1
      refine ⟨g0.1, by show min 99 (V 1 + a) ≤ 99; omega, by show V 2 ≤ _; have := g0.2.2.1; omega, fun w hw => ?_⟩
      show (if 3 + w = 1 then _ else V (3 + w)) < _
      rw [if_neg (by omega)]
      exact g0.2.2.2 w hw
    refine ⟨nI (min 99 (V 1 + a)), 0, D, upV V 1 (min 99 (V 1 + a)), shK K V, min 16 (c + 1), Im, j, by decide, W.shk hn g2 hW, ?_, fun h1 M => ?_⟩
    · obtain ⟨o, o', ho, LB, r3, r4, rO, rD, rV, rP, t1, t2, f1, sUs⟩ := id R; obtain ⟨⟨x1, x2, x3, x4, x5, x6, x7, x8, x9, x10, x11, x12, x13⟩, LR, LC, LK, LS, LG, LH⟩ := id LB
      have v1 := rV.1
      have P1 := rP.1
      unfold f_B_oil
      refine ok_gd x1 (ok_bde (e_B_hasOrrery x1 r3 rO w1) ?_)
      rw [decide_eq_true hW]
      refine ok_f (by decide) (dyB_in (lo := 1) (hi := 99) ha1 ha2 (by decide) ?_)
      (try unfold QB); (try unfold QM); repeat (first | (with_reducible refine ok_lt ?_) | ((with_reducible refine ok_gd ?_ ?_); first | assumption | exact zb0 | exact zb1 | ((with_reducible apply ai_of) <;> first | assumption | omega | decide) | exact ai_lit (by assumption) (by decide) (by decide) (by decide)) | (refine ok_bR (by assumption) ?_))
      (try simp (disch := omega) only [nI_clamp, cl0, cl1, cl2, cl3, cl4, cl5, cl6, cl7, cl8])
      rw [rV.2 1 (by decide)]
      refine ok_t (nI_lt (b := 99) (by omega) (by decide)) ?_
      (try unfold QB); (try unfold QM); repeat (first | (with_reducible refine ok_lt ?_) | ((with_reducible refine ok_gd ?_ ?_); first | assumption | exact zb0 | exact zb1 | ((with_reducible apply ai_of) <;> first | assumption | omega | decide) | exact ai_lit (by assumption) (by decide) (by decide) (by decide)) | (refine ok_bR (by assumption) ?_))
      refine ok_bd (ok_mono (ok_P_keep rP rV) ?_)
      intro _ h2 hx
      obtain ⟨hF2, rP2⟩ := hx
      have hF2' : Fk (aB x) h h2 := hF2.mono (fun a k e => aB_P e)
      have e1 : hS h2 x = some (.inl 0) := by rw [hF2.2.1]; exact x1
      have e5 : hR h2 x 5 = some (x + 36) := by rw [hF2.2.2.2.1]; exact x4
      have rV2 : RepV h2 (x + 36) V := rV.fk hF2 (fun k e => by unfold sP at e; omega)
      have v12 := rV2.1
      (try unfold QB); (try unfold QM); repeat (first | (with_reducible refine ok_lt ?_) | ((with_reducible refine ok_gd ?_ ?_); first | assumption | exact zb0 | exact zb1 | ((with_reducible apply ai_of) <;> first | assumption | omega | decide) | exact ai_lit (by assumption) (by decide) (by decide) (by decide)) | (refine ok_bR (by assumption) ?_))
      (try simp (disch := omega) only [nI_clamp, cl0, cl1, cl2, cl3, cl4, cl5, cl6, cl7, cl8])
      rw [rV2.2 1 (by decide), nI_add]
      refine ok_bde (e_min (a := 99) (by decide) (by omega)) ?_
      (try unfold QB); (try unfold QM); repeat (first | (with_reducible refine ok_lt ?_) | ((with_reducible refine ok_gd ?_ ?_); first | assumption | exact zb0 | exact zb1 | ((with_reducible apply ai_of) <;> first | assumption | omega | decide) | exact ai_lit (by assumption) (by decide) (by decide) (by decide)) | (refine ok_bR (by assumption) ?_))
      (try simp (disch := omega) only [nI_clamp, cl0, cl1, cl2, cl3, cl4, cl5, cl6, cl7, cl8])
      rw [hI_uIs]
      have F3 := fk_uI (S := fun a k => a = x + 36) (h := h2) (a := x + 36) (k := 1) (v := nI (min 99 (V 1 + a))) rfl
      exact ok_bde (e_B_grant e1) (ok_ret ⟨rfl, aB_fin R W.1.1 (hF2'.trans (F3.mono (fun a k e => Or.inr (Or.inl e)))) (rV2.up 1 _) (rP2.fr F3.r (fun i k hi e => by omega))⟩)
    · have hF0 : Fk (aM m) h1 (uI h1 m 0 0) := fk_uI (Or.inl ⟨rfl, Or.inl (by decide)⟩)
      have M0 : RM (uI h1 m 0 0) m D V K c Im j T tl fa := M.fr (fr_uI (S := ScM m) (ScM_l (by decide))) (fun a k e => Or.inl e)
      refine ok_gd M.1.1 (ok_lt ?_)
      generalize uI h1 m 0 0 = h0 at hF0 M0
      have M1 := M
      clear M
      have M := M0
      have hnn := M.nn hW
      obtain ⟨LM, z0, z3, rX, rR, u1, u2, g1⟩ := id M; obtain ⟨a0, ⟨a1, a2, a3, a4, a5, a6, a7, a8, a9, a10, a11, a12, a13⟩, s1, s2, s3, s4, s5, s6, s7, s8, s9, s10, s11, s12, s13⟩ := id LM
      refine ok_gd a0 (ok_f hnn (ok_bde e_m_in ?_))
      rw [hin]
      refine ok_f (by decide) ?_
      (try unfold QB); (try unfold QM); repeat (first | (with_reducible refine ok_lt ?_) | ((with_reducible refine ok_gd ?_ ?_); first | assumption | exact zb0 | exact zb1 | ((with_reducible apply ai_of) <;> first | assumption | omega | decide) | exact ai_lit (by assumption) (by decide) (by decide) (by decide)) | (refine ok_bR (by assumption) ?_))
      (try simp (disch := omega) only [nI_clamp, cl0, cl1, cl2, cl3, cl4, cl5, cl6, cl7, cl8])
      have g : hI h0 (m + 2) 6 = nI (V 1) := rX.2 6 (by decide)
      rw [g]
      refine ok_f (fun e => hd ((nI_eq (b := 99) (by omega) (by decide)).mp e)) ?_
      refine ok_gd a0 (ok_bd (ok_mono (ok_m_remembers LM rX rR) ?_))
      intro _ h2 hx
      obtain ⟨hF2, rR2⟩ := hx
      have rX2 : RepX h2 (m + 2) V := rX.fk hF2 (fun k e => by unfold sR at e; omega)
      obtain ⟨a0', ⟨a1', a2', -⟩, s1', s2', -⟩ := LM.fk hF2
      have g' : hI h2 (m + 2) 6 = nI (V 1) := rX2.2 6 (by decide)
      have fin : ∀ y : Int32, y = nI (min 99 (V 1 + a)) → Ok (b_m_oil_90 m y 6 (m + 2) h2) (fun r' h2_1 => r' = nI (min 99 (V 1 + a)) ∧ Fr (fun a _ => inM m a) h1 h2_1 ∧ RM h2_1 m D (upV V 1 (min 99 (V 1 + a))) (shK K V) (min 16 (c + 1)) Im j T tl fa ∧ hI h2_1 m 1 = 0 ∧ hI h2_1 m 2 = -1) := by
        intro y hy
        unfold b_m_oil_90
        (try unfold QB); (try unfold QM); repeat (first | (with_reducible refine ok_lt ?_) | ((with_reducible refine ok_gd ?_ ?_); first | assumption | exact zb0 | exact zb1 | ((with_reducible apply ai_of) <;> first | assumption | omega | decide) | exact ai_lit (by assumption) (by decide) (by decide) (by decide)) | (refine ok_bR (by assumption) ?_))
        (try simp (disch := omega) only [nI_clamp, cl0, cl1, cl2, cl3, cl4, cl5, cl6, cl7, cl8])
        rw [hI_uIs, hy]
        have F3 := fk_uI (S := fun a k => a = m + 2) (h := h2) (a := m + 2) (k := 6) (v := nI (min 99 (V 1 + a))) rfl
        refine ok_bde (e_m_good a0') (ok_ret ⟨rfl, aM_fin M1 ((hF0.trans (hF2.mono (fun a k e => aM_R e))).trans (F3.mono (fun a k e => Or.inr (Or.inl e)))) (rX2.up (k := 6) (by decide) _) (rR2.fr F3.r (by omega) (by omega) (fun k => by omega) (fun k => by omega))⟩)
      (try unfold QB); (try unfold QM); repeat (first | (with_reducible refine ok_lt ?_) | ((with_reducible refine ok_gd ?_ ?_); first | assumption | exact zb0 | exact zb1 | ((with_reducible apply ai_of) <;> first | assumption | omega | decide) | exact ai_lit (by assumption) (by decide) (by decide) (by decide)) | (refine ok_bR (by assumption) ?_))
      (try simp (disch := omega) only [nI_clamp, cl0, cl1, cl2, cl3, cl4, cl5, cl6, cl7, cl8])
      rw [g', nI_add]
      refine ok_ile (b := 99) (by omega) (by decide) (fun c1 => ?_) (fun c1 => fin _ ?_)
      · (try unfold QB); (try unfold QM); repeat (first | (with_reducible refine ok_lt ?_) | ((with_reducible refine ok_gd ?_ ?_); first | assumption | exact zb0 | exact zb1 | ((with_reducible apply ai_of) <;> first | assumption | omega | decide) | exact ai_lit (by assumption) (by decide) (by decide) (by decide)) | (refine ok_bR (by assumption) ?_))
        (try simp (disch := omega) only [nI_clamp, cl0, cl1, cl2, cl3, cl4, cl5, cl6, cl7, cl8])
        rw [g', nI_add]
        exact fin _ (by rw [Nat.min_eq_right c1])
      · rw [Nat.min_eq_left (by omega)]
        rfl
end AD
