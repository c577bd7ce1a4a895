/-! byFor, byIn, years, yearFeasts, slips, wheel, now, work: both sides -/
section P6
variable {h h1 : Hp} {x m c j tl nc : Nat} {D : DD} {V : Nat → Nat} {K Im : Nat → Nat → Nat} {T : Nat → Int32} {fa : Int32}
theorem qB_g0 {v : Int32} (F : Fr (ScB x) h h1) (hs : hS h1 x = some (.inl 0)) : QB x h (bd (f_B_grant x v h1) fun r h2 => some (r, h2)) v 0 := ok_bde (e_B_grant hs) (ok_ret ⟨rfl, F.trans (fr_uI ScB_15), hI_uIs⟩)
theorem qM_g0 {v : Int32} (F : Fr (ScM m) h h1) (hs : hS h1 m = some (.inl 11)) : QM m h (bd (f_m_good m v h1) fun r h2 => some (r, h2)) v 0 := ok_bde (e_m_good hs) (ok_ret ⟨rfl, qM_fin F⟩)
theorem ScB_By {w a k : Nat} (hw : w < 5) (e : sBy (x + 41) w a k) : ScB x a k := by
  unfold sBy sU at e
  unfold ScB sC
  omega
theorem q_byFor (W : Wst D V K c Im j tl nc) (R : RB h x D V K c Im j T tl fa) (w f : Int32) : Pair x h m (fun h1 => RM h1 m D V K c Im j T tl fa) (f_B_byFor x w f h) (f_m_byFor m w f) := by
  obtain ⟨o, o', ho, LB, r3, r4, rO, rD, rV, rP, t1, t2, f1, sUs⟩ := id R; obtain ⟨⟨x1, x2, x3, x4, x5, x6, x7, x8, x9, x10, x11, x12, x13⟩, LR, LC, LK, LS, LG, LH⟩ := id LB
  have w1 := W.1.1.1
  have w2 := W.1.1.2.1
  cases hb : (isN (dW D) w && isN (dF D) f && decide (dX D f.toNatClampNeg w.toNatClampNeg ≠ 0)) with
  | false =>
    refine ⟨-1, 1, by decide, ?_, fun h1 M => qM_st M (fun h0 M F _ => ?_)⟩
    · unfold f_B_byFor
      refine ok_gd x1 (ok_bde (ofb x1 r3 rO W.1.1 w f) ?_)
      rw [hb]
      exact ok_t rfl (qB_ref Fr.rf x1)
    · refine ok_gd M.1.1 (ok_bde (ofm M W w f) ?_)
      rw [hb]
      exact ok_t rfl (qM_ref F M.1.1)
  | true =>
    have hb' := hb
    rw [Bool.and_eq_true, Bool.and_eq_true] at hb'
    obtain ⟨i, hi, rfl⟩ := isN_ex (by omega) hb'.1.1
    obtain ⟨g, hg, rfl⟩ := isN_ex (by omega) hb'.1.2
    have hW := W.fw hg
    refine ⟨pbB (pb (byQ D V i g) (min 9 (dT D i - 1))), 0, by decide, ?_, fun h1 M => qM_st M (fun h0 M F _ => ?_)⟩
    · unfold f_B_byFor
      refine ok_gd x1 (ok_bde (ofb x1 r3 rO W.1.1 _ _) ?_)
      rw [hb]
      refine ok_f (by decide) (ok_gd x1 (ok_bd (ok_mono (ok_B_daysToCome R W hW) ?_)))
      intro u h2 hx
      obtain ⟨rfl, hF, e1, e2, e33, -, o2, e3, X⟩ := hx
      have eo : o2 = o := by rw [e33, r3] at e3; exact (Option.some.inj e3).symm
      subst eo
      refine ok_gd e2 (ok_bd (ok_mono (ok_C_tryBys X (by omega) (by omega) hg hi) ?_))
      intro _ h3 hx
      obtain ⟨hF3, e7, e8⟩ := hx
      refine ok_gd (by rw [hF3.2.1]; exact e2) (ok_lt ?_)
      rw [e7]
      exact qB_gr (hF.trans (hF3.mono (fun a k e => ScB_By (by omega) e))) (by rw [hF3.2.1]; exact e1)
    · refine ok_gd M.1.1 (ok_bde (ofm M W _ _) ?_)
      rw [hb]
      obtain ⟨q, X, hq⟩ := M.dx W hW
      refine ok_f (by decide) (ok_gd M.1.1 (ok_bd (ok_mono (ok_m_paces X hq hi hg) ?_)))
      intro y h2 hx
      obtain ⟨-, hF2, e23⟩ := hx
      have a2 : hS h2 m = some (.inl 11) := by rw [hF2.2.1]; exact M.1.1
      refine ok_gd a2 (ok_lt ?_)
      rw [e23]
      exact qM_gr (F.trans hF2) a2
theorem q_byIn (W : Wst D V K c Im j tl nc) (R : RB h x D V K c Im j T tl fa) (w f : Int32) : Pair x h m (fun h1 => RM h1 m D V K c Im j T tl fa) (f_B_byIn x w f h) (f_m_byIn m w f) := by
  obtain ⟨o, o', ho, LB, r3, r4, rO, rD, rV, rP, t1, t2, f1, sUs⟩ := id R; obtain ⟨⟨x1, x2, x3, x4, x5, x6, x7, x8, x9, x10, x11, x12, x13⟩, LR, LC, LK, LS, LG, LH⟩ := id LB
  have w1 := W.1.1.1
  have w2 := W.1.1.2.1
  cases hb : (isN (dW D) w && isN (dF D) f && decide (dX D f.toNatClampNeg w.toNatClampNeg ≠ 0)) with
  | false =>
    refine ⟨-1, 1, by decide, ?_, fun h1 M => qM_st M (fun h0 M F _ => ?_)⟩
    · unfold f_B_byIn
      refine ok_gd x1 (ok_bde (ofb x1 r3 rO W.1.1 w f) ?_)
      rw [hb]
      exact ok_t rfl (qB_ref Fr.rf x1)
    · refine ok_gd M.1.1 (ok_bde (ofm M W w f) ?_)
      rw [hb]
      exact ok_t rfl (qM_ref F M.1.1)
  | true =>
    have hb' := hb
    rw [Bool.and_eq_true, Bool.and_eq_true] at hb'
    obtain ⟨i, hi, rfl⟩ := isN_ex (by omega) hb'.1.1
    obtain ⟨g, hg, rfl⟩ := isN_ex (by omega) hb'.1.2
    have hW := W.fw hg
    refine ⟨pbD (pb (byQ D V i g) (min 9 (dT D i - 1))), 0, by decide, ?_, fun h1 M => qM_st M (fun h0 M F _ => ?_)⟩
    · unfold f_B_byIn
      refine ok_gd x1 (ok_bde (ofb x1 r3 rO W.1.1 _ _) ?_)
      rw [hb]
      refine ok_f (by decide) (ok_gd x1 (ok_bd (ok_mono (ok_B_daysToCome R W hW) ?_)))
      intro u h2 hx
      obtain ⟨rfl, hF, e1, e2, e33, -, o2, e3, X⟩ := hx
      have eo : o2 = o := by rw [e33, r3] at e3; exact (Option.some.inj e3).symm
      subst eo
      refine ok_gd e2 (ok_bd (ok_mono (ok_C_tryBys X (by omega) (by omega) hg hi) ?_))
      intro _ h3 hx
      obtain ⟨hF3, e7, e8⟩ := hx
      refine ok_gd (by rw [hF3.2.1]; exact e2) (ok_lt ?_)
      rw [e8]
      exact qB_gr (hF.trans (hF3.mono (fun a k e => ScB_By (by omega) e))) (by rw [hF3.2.1]; exact e1)
    · refine ok_gd M.1.1 (ok_bde (ofm M W _ _) ?_)
      rw [hb]
      obtain ⟨q, X, hq⟩ := M.dx W hW
      refine ok_f (by decide) (ok_gd M.1.1 (ok_bd (ok_mono (ok_m_paces X hq hi hg) ?_)))
      intro y h2 hx
      obtain ⟨rfl, hF2, e23⟩ := hx
      have a2 : hS h2 m = some (.inl 11) := by rw [hF2.2.1]; exact M.1.1
      exact qM_gr (F.trans hF2) a2
/-! years -/
def yrB (s n : Int32) : Bool := decide (0 ≤ s ∧ s ≤ 65536) && decide (0 ≤ n ∧ n ≤ 400)
theorem yr_ex {s n : Int32} (e : yrB s n = true) : ∃ a b, a < 65537 ∧ b ≤ 400 ∧ s = nI a ∧ n = nI b := by
  unfold yrB at e
  rw [Bool.and_eq_true] at e
  have e1 := of_decide_eq_true e.1
  have e2 := of_decide_eq_true e.2
  rcases dy_cases s (lo := 0) (hi := 65536) (by decide) (by decide) with g | ⟨a, -, ha, rfl⟩
  · rcases g with g | g
    · exact absurd e1.1 (Int32.not_le.mpr g)
    · exact absurd e1.2 (Int32.not_le.mpr g)
  · rcases dy_cases n (lo := 0) (hi := 400) (by decide) (by decide) with g | ⟨b, -, hb, rfl⟩
    · rcases g with g | g
      · exact absurd e2.1 (Int32.not_le.mpr g)
      · exact absurd e2.2 (Int32.not_le.mpr g)
    · exact ⟨a, b, by omega, hb, rfl, rfl⟩
theorem e_B_isNoYear {s n : Int32} : f_B_isNoYear s n h = some (bI (!yrB s n), h) := by
  refine ok_eq ?_
  unfold f_B_isNoYear b_B_isNoYear_22 yrB
  refine ok_ite (fun c1 => ok_gd zb1 (ok_ret ⟨?_, rfl⟩)) (fun c1 => ok_ite (fun c2 => ok_gd zb1 (ok_ret ⟨?_, rfl⟩)) (fun c2 => ok_ite (fun c3 => ok_gd zb1 (ok_ret ⟨?_, rfl⟩)) (fun c3 => ok_ite (fun c4 => ok_gd zb0 (ok_ret ⟨?_, rfl⟩)) (fun c4 => ok_gd zb1 (ok_ret ⟨?_, rfl⟩)))))
  · rw [decide_eq_false (fun g => absurd g.1 (Int32.not_le.mpr c1))]
    rfl
  · rw [decide_eq_false (fun g => absurd g.2 (Int32.not_le.mpr c2))]
    rfl
  · rw [decide_eq_false (p := 0 ≤ n ∧ n ≤ 400) (fun g => absurd g.1 (Int32.not_le.mpr c3)), Bool.and_false]
    rfl
  · rw [decide_eq_true ⟨Int32.not_lt.mp c1, Int32.not_lt.mp c2⟩, decide_eq_true ⟨Int32.not_lt.mp c3, c4⟩]
    rfl
  · rw [decide_eq_false (p := 0 ≤ n ∧ n ≤ 400) (fun g => c4 g.2), Bool.and_false]
    rfl
theorem e_m_refusesSeed {s n : Int32} (b : Bool) : f_m_refusesSeed m (bI b) s n h = some (if b = false then 1 else if yrB s n = false then 2 else 0, h) := by
  refine ok_eq ?_
  unfold f_m_refusesSeed yrB
  refine ok_ib (fun c1 => ok_ret ⟨by rw [c1]; rfl, rfl⟩) (fun c1 => ok_bde e_m_in (ok_ib (fun c2 => ok_ret ⟨?_, rfl⟩) (fun c2 => ok_bde e_m_in (ok_ib (fun c3 => ok_ret ⟨?_, rfl⟩) (fun c3 => ok_ret ⟨?_, rfl⟩)))))
  · rw [c1, c2]
    rfl
  · rw [c1, c2, c3]
    rfl
  · rw [c1, c2, c3]
    rfl
theorem ScB_T {a k : Nat} (e : sT x (x + 37) a k) : ScB x a k := by unfold sT at e; unfold ScB sC; omega
theorem ScM_Z {a k : Nat} (e : sZ m a k) : ScM m a k := by unfold sZ at e; unfold ScM; omega
theorem yB (W : Wst D V K c Im j tl nc) (R : RB h x D V K c Im j T tl fa) {s n F : Nat} (hn : n ≤ 400) (hs : s < 65537) (hF : F ≤ dF D) : Ok (f_B_liveYears x (nI s) (nI n) (xI F) h) (fun y h' => y = nI (yd D (tnV D) F V s n).2.2.2 ∧ Fr (ScB x) h h' ∧ RepV h' (x + 37) (yd D (tnV D) F V s n).1 ∧ hI h' x 7 = nI (yd D (tnV D) F V s n).2.2.1 ∧ hS h' x = some (.inl 0) ∧ hR h' x 6 = some (x + 37)) := by
  obtain ⟨o, o', ho, LB, r3, r4, rO, rD, rV, rP, t1, t2, f1, sUs⟩ := id R; obtain ⟨⟨x1, x2, x3, x4, x5, x6, x7, x8, x9, x10, x11, x12, x13⟩, LR, LC, LK, LS, LG, LH⟩ := id LB
  refine ok_mono (ok_B_liveYears x1 r3 x4 x5 x13 (fun i hi => by omega) (by omega) rO W.1.1 rV (W.2.1.n W.2.2.2.2.2.1 (by omega)) hn hs hF) (fun y h' hh => ?_)
  obtain ⟨e1, e2, e3, e4⟩ := hh
  exact ⟨e1, e2.r.mono (fun a k e => ScB_T e), e3, e4, by rw [e2.2.1]; exact x1, by rw [e2.2.2.2.1]; exact x5⟩
theorem yM (W : Wst D V K c Im j tl nc) (M : RM h m D V K c Im j T tl fa) (hW : 0 < dW D) {s n F : Nat} (hn : n ≤ 400) (hs : s < 65537) (hF : F ≤ dF D) : Ok (f_m_yearsAll m (nI s) (nI n) (xI F) h) (fun y h' => y = nI (yd D (tnV D) F V s n).2.2.2 ∧ Fr (ScM m) h h' ∧ (∀ w, w < dW D → hI h' (m + 3) w = nI ((yd D (tnV D) F V s n).1 (3 + w))) ∧ hI h' m 35 = nI (yd D (tnV D) F V s n).2.2.1 ∧ hS h' m = some (.inl 11) ∧ hR h' m 16 = some (m + 3) ∧ hS h' (m + 3) = some (.inr (0, 8))) := by
  obtain ⟨LM, z0, z3, rX, rR, u1, u2, g1⟩ := id M; obtain ⟨a0, ⟨a1, a2, a3, a4, a5, a6, a7, a8, a9, a10, a11, a12, a13⟩, s1, s2, s3, s4, s5, s6, s7, s8, s9, s10, s11, s12, s13⟩ := id LM
  obtain ⟨q, q1, q2, q2', rQ⟩ := z3 hW
  refine ok_mono (ok_m_yearsAll LM q1 (by omega) rQ W.1.1 rX (W.2.1.n W.2.2.2.2.2.1 (by omega)) hn hs hF) (fun y h' hh => ?_)
  obtain ⟨e1, e2, e3, e4⟩ := hh
  have eq := yd_eq (D := D) (s := s) F (EqV.rf (V := V)) n
  refine ⟨by rw [e1, eq.2], e2.r.mono (fun a k e => ScM_Z e), fun w hw => ?_, by rw [e4, eq.2], by rw [e2.2.1]; exact a0, by rw [e2.2.2.2.1]; exact a3, by rw [e2.2.1]; exact s3⟩
  have g := yd_wf (s := s) (n := 0) (tnX D) (fun U k g => g.tnX_ W.1.1) W.1.1 F n (V := V) (W.2.1.n W.2.2.2.2.2.1 (by omega))
  have q1 := g.2.2.2 w hw
  have q2 := (W.1.1.2.2.2.2.2.2.2.1 w hw).2.2.1
  have q3 := W.1.1.1
  rw [e3.t (by omega) (by omega), eq.1 (3 + w) (by omega)]
theorem q_years (W : Wst D V K c Im j tl nc) (R : RB h x D V K c Im j T tl fa) (w s n : Int32) : Pair x h m (fun h1 => RM h1 m D V K c Im j T tl fa) (f_B_years x w s n h) (f_m_years m w s n) := by
  obtain ⟨o, o', ho, LB, r3, r4, rO, rD, rV, rP, t1, t2, f1, sUs⟩ := id R; obtain ⟨⟨x1, x2, x3, x4, x5, x6, x7, x8, x9, x10, x11, x12, x13⟩, LR, LC, LK, LS, LG, LH⟩ := id LB
  have w1 := W.1.1.1
  cases hb : isN (dW D) w with
  | false =>
    refine ⟨-1, 1, by decide, ?_, fun h1 M => qM_st M (fun h0 M F _ => ?_)⟩
    · unfold f_B_years
      refine ok_gd x1 (ok_bde (e_B_hasWheel x1 r3 rO w1 w) ?_)
      rw [hb]
      exact ok_t rfl (qB_ref Fr.rf x1)
    · refine ok_gd M.1.1 (ok_bde (e_m_isWheel M w1 w) (ok_gd M.1.1 (ok_bde (e_m_refusesSeed _) ?_)))
      rw [hb]
      exact ok_f (show ¬ (1 : Int32) ≤ 0 by decide) (qM_ref F M.1.1)
  | true =>
    obtain ⟨i, hi, rfl⟩ := isN_ex (by omega) hb
    cases hy : yrB s n with
    | false =>
      refine ⟨-1, 2, by decide, ?_, fun h1 M => qM_st M (fun h0 M F _ => ?_)⟩
      · unfold f_B_years
        refine ok_gd x1 (ok_bde (e_B_hasWheel x1 r3 rO w1 _) ?_)
        rw [hb]
        refine ok_f (by decide) (ok_bde e_B_isNoYear ?_)
        rw [hy]
        exact ok_f (by decide) (qB_ref Fr.rf x1)
      · refine ok_gd M.1.1 (ok_bde (e_m_isWheel M w1 _) (ok_gd M.1.1 (ok_bde (e_m_refusesSeed _) ?_)))
        rw [hb, hy]
        exact ok_f (by decide) (qM_ref F M.1.1)
    | true =>
      obtain ⟨a, b, ha, hbb, rfl, rfl⟩ := yr_ex hy
      refine ⟨nI ((yd D (tnV D) 0 V a b).1 (3 + i)), 0, by decide, ?_, fun h1 M => qM_st M (fun h0 M F _ => ?_)⟩
      · unfold f_B_years
        refine ok_gd x1 (ok_bde (e_B_hasWheel x1 r3 rO w1 _) ?_)
        rw [hb]
        refine ok_f (by decide) (ok_bde e_B_isNoYear ?_)
        rw [hy]
        refine ok_t rfl (ok_gd x1 (ok_bd (ok_mono (yB W R (F := 0) hbb ha (Nat.zero_le _)) ?_)))
        intro y h2 hx
        obtain ⟨-, hF2, v2, -, e1, e2⟩ := hx
        have v1 := v2.1
        rw [nI_i3]
        (try unfold QB); (try unfold QM); repeat (first | (with_reducible refine ok_lt ?_) | ((with_reducible refine ok_gd ?_ ?_); first | assumption | exact zb0 | exact zb1 | ((with_reducible apply ai_of) <;> first | assumption | omega | decide) | exact ai_lit (by assumption) (by decide) (by decide) (by decide)) | (refine ok_bR (by assumption) ?_))
        (try simp (disch := omega) only [nI_clamp, cl0, cl1, cl2, cl3, cl4, cl5, cl6, cl7, cl8])
        rw [v2.2 (3 + i) (by omega)]
        exact qB_g0 hF2 e1
      · refine ok_gd M.1.1 (ok_bde (e_m_isWheel M w1 _) (ok_gd M.1.1 (ok_bde (e_m_refusesSeed _) ?_)))
        rw [hb, hy]
        refine ok_t (by decide) (ok_gd M.1.1 (ok_bd (ok_mono (yM W M (by omega) (F := 0) hbb ha (Nat.zero_le _)) ?_)))
        intro y h2 hx
        obtain ⟨-, hF2, e3, -, e1, e2, e4⟩ := hx
        have h8 : i < 8 := by omega
        (try unfold QB); (try unfold QM); repeat (first | (with_reducible refine ok_lt ?_) | ((with_reducible refine ok_gd ?_ ?_); first | assumption | exact zb0 | exact zb1 | ((with_reducible apply ai_of) <;> first | assumption | omega | decide) | exact ai_lit (by assumption) (by decide) (by decide) (by decide)) | (refine ok_bR (by assumption) ?_))
        (try simp (disch := omega) only [nI_clamp, cl0, cl1, cl2, cl3, cl4, cl5, cl6, cl7, cl8])
        rw [e3 i (by omega)]
        exact qM_g0 (F.trans hF2) e1
theorem q_yearFeasts (W : Wst D V K c Im j tl nc) (R : RB h x D V K c Im j T tl fa) (f s n : Int32) : Pair x h m (fun h1 => RM h1 m D V K c Im j T tl fa) (f_B_yearFeasts x f s n h) (f_m_yearFeasts m f s n) := by
  obtain ⟨o, o', ho, LB, r3, r4, rO, rD, rV, rP, t1, t2, f1, sUs⟩ := id R; obtain ⟨⟨x1, x2, x3, x4, x5, x6, x7, x8, x9, x10, x11, x12, x13⟩, LR, LC, LK, LS, LG, LH⟩ := id LB
  have w2 := W.1.1.2.1
  have hz := fun e => (W.2.2.2.2.2.2 e).1
  cases hb : isN (dF D) f with
  | false =>
    refine ⟨-1, 1, by decide, ?_, fun h1 M => qM_st M (fun h0 M F _ => ?_)⟩
    · unfold f_B_yearFeasts
      refine ok_gd x1 (ok_bde (e_B_hasFeast x1 r3 rO f) ?_)
      rw [hb]
      exact ok_t rfl (qB_ref Fr.rf x1)
    · refine ok_gd M.1.1 (ok_bde (e_m_isFeast M hz f) (ok_gd M.1.1 (ok_bde (e_m_refusesSeed _) ?_)))
      rw [hb]
      exact ok_f (show ¬ (1 : Int32) ≤ 0 by decide) (qM_ref F M.1.1)
  | true =>
    obtain ⟨i, hi, rfl⟩ := isN_ex (by omega) hb
    cases hy : yrB s n with
    | false =>
      refine ⟨-1, 2, by decide, ?_, fun h1 M => qM_st M (fun h0 M F _ => ?_)⟩
      · unfold f_B_yearFeasts
        refine ok_gd x1 (ok_bde (e_B_hasFeast x1 r3 rO _) ?_)
        rw [hb]
        refine ok_f (by decide) (ok_bde e_B_isNoYear ?_)
        rw [hy]
        exact ok_f (by decide) (qB_ref Fr.rf x1)
      · refine ok_gd M.1.1 (ok_bde (e_m_isFeast M hz _) (ok_gd M.1.1 (ok_bde (e_m_refusesSeed _) ?_)))
        rw [hb, hy]
        exact ok_f (by decide) (qM_ref F M.1.1)
    | true =>
      obtain ⟨a, b, ha, hbb, rfl, rfl⟩ := yr_ex hy
      refine ⟨nI (yd D (tnV D) (i + 1) V a b).2.2.2, 0, by decide, ?_, fun h1 M => qM_st M (fun h0 M F _ => ?_)⟩
      · unfold f_B_yearFeasts
        refine ok_gd x1 (ok_bde (e_B_hasFeast x1 r3 rO _) ?_)
        rw [hb]
        refine ok_f (by decide) (ok_bde e_B_isNoYear ?_)
        rw [hy]
        refine ok_t rfl (ok_gd x1 (ok_bd (ok_mono (yB W R (F := i + 1) hbb ha (by omega)) ?_)))
        intro y h2 hx
        obtain ⟨rfl, hF2, v2, -, e1, e2⟩ := hx
        exact qB_gr hF2 e1
      · refine ok_gd M.1.1 (ok_bde (e_m_isFeast M hz _) (ok_gd M.1.1 (ok_bde (e_m_refusesSeed _) ?_)))
        rw [hb, hy]
        refine ok_t (by decide) (ok_gd M.1.1 (ok_bd (ok_mono (yM W M (W.fw hi) (F := i + 1) hbb ha (by omega)) ?_)))
        intro y h2 hx
        obtain ⟨rfl, hF2, e3, -, e1, e2⟩ := hx
        exact qM_gr (F.trans hF2) e1
theorem q_slips (W : Wst D V K c Im j tl nc) (R : RB h x D V K c Im j T tl fa) (s n : Int32) : Pair x h m (fun h1 => RM h1 m D V K c Im j T tl fa) (f_B_slips x s n h) (f_m_slips m s n) := by
  obtain ⟨o, o', ho, LB, r3, r4, rO, rD, rV, rP, t1, t2, f1, sUs⟩ := id R; obtain ⟨⟨x1, x2, x3, x4, x5, x6, x7, x8, x9, x10, x11, x12, x13⟩, LR, LC, LK, LS, LG, LH⟩ := id LB
  have w1 := W.1.1.1
  rcases Nat.eq_zero_or_pos (dW D) with hW | hW
  · refine ⟨-1, 1, by decide, ?_, fun h1 M => qM_st M (fun h0 M F _ => ?_)⟩
    · unfold f_B_slips
      refine ok_gd x1 (ok_bde (e_B_hasOrrery x1 r3 rO w1) ?_)
      rw [decide_eq_false (by omega)]
      exact ok_t rfl (qB_ref Fr.rf x1)
    · unfold b_m_slips_18
      refine ok_gd M.1.1 (ok_t (M.2.1 hW) (ok_gd M.1.1 (ok_bde (e_m_refusesSeed false) ?_)))
      exact ok_f (show ¬ (1 : Int32) ≤ 0 by decide) (qM_ref F M.1.1)
  · have hq : ∀ {h0 : Hp}, RM h0 m D V K c Im j T tl fa → ¬ hR h0 m 3 = none := fun M => by
      obtain ⟨q, q1, -⟩ := M.2.2.1 hW
      rw [q1]
      simp
    cases hy : yrB s n with
    | false =>
      refine ⟨-1, 2, by decide, ?_, fun h1 M => qM_st M (fun h0 M F _ => ?_)⟩
      · unfold f_B_slips
        refine ok_gd x1 (ok_bde (e_B_hasOrrery x1 r3 rO w1) ?_)
        rw [decide_eq_true hW]
        refine ok_f (by decide) (ok_bde e_B_isNoYear ?_)
        rw [hy]
        exact ok_f (by decide) (qB_ref Fr.rf x1)
      · unfold b_m_slips_18
        refine ok_gd M.1.1 (ok_f (hq M) (ok_gd M.1.1 (ok_bde (e_m_refusesSeed true) ?_)))
        rw [hy]
        exact ok_f (by decide) (qM_ref F M.1.1)
    | true =>
      obtain ⟨a, b, ha, hbb, rfl, rfl⟩ := yr_ex hy
      refine ⟨nI (yd D (tnV D) 0 V a b).2.2.1, 0, by decide, ?_, fun h1 M => qM_st M (fun h0 M F _ => ?_)⟩
      · unfold f_B_slips
        refine ok_gd x1 (ok_bde (e_B_hasOrrery x1 r3 rO w1) ?_)
        rw [decide_eq_true hW]
        refine ok_f (by decide) (ok_bde e_B_isNoYear ?_)
        rw [hy]
        refine ok_t rfl (ok_gd x1 (ok_bd (ok_mono (yB W R (F := 0) hbb ha (Nat.zero_le _)) ?_)))
        intro y h2 hx
        obtain ⟨-, hF2, v2, e7, e1, e2⟩ := hx
        (try unfold QB); (try unfold QM); repeat (first | (with_reducible refine ok_lt ?_) | ((with_reducible refine ok_gd ?_ ?_); first | assumption | exact zb0 | exact zb1 | ((with_reducible apply ai_of) <;> first | assumption | omega | decide) | exact ai_lit (by assumption) (by decide) (by decide) (by decide)) | (refine ok_bR (by assumption) ?_))
        rw [e7]
        exact ok_bde (e_B_grant e1) (ok_ret ⟨rfl, hF2.trans (fr_uI ScB_15), hI_uIs⟩)
      · unfold b_m_slips_18
        refine ok_gd M.1.1 (ok_f (hq M) (ok_gd M.1.1 (ok_bde (e_m_refusesSeed true) ?_)))
        rw [hy]
        refine ok_t (by decide) (ok_gd M.1.1 (ok_bd (ok_mono (yM W M hW (F := 0) hbb ha (Nat.zero_le _)) ?_)))
        intro y h2 hx
        obtain ⟨-, hF2, e3, e35, e1, e2⟩ := hx
        refine ok_gd e1 (ok_lt ?_)
        rw [e35]
        exact qM_gr (F.trans hF2) e1
end P6
