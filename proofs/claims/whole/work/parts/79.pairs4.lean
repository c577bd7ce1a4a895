/-! agree, drift: both sides -/
section P4
variable {h h1 : Hp} {x m c j tl nc : Nat} {D : DD} {V : Nat → Nat} {K Im : Nat → Nat → Nat} {T : Nat → Int32} {fa : Int32}
theorem e_O_daysFromSky {o : Nat} (rO : RepO h o D) (W : Wf D) {f d : Nat} (hf : f < dF D) (h0 : 0 < dEv D f) (hd : d < 2 ^ 29) : f_O_daysFromSky o (nI f) (nI d) h = some (nI (off D f d), h) := by
  have es := e_O_daysToSky rO W hf h0 hd
  obtain ⟨⟨o1, ⟨o2, o3, o4, o5, o6, o7, o8, o9, o10⟩, o11, o12, o13, o14, o15, o16⟩, ⟨p1, p2, p3, p4, p5, p6, p7⟩, oW, oX, oK, oE, oS⟩ := id rO
  have w2 := W.2.1
  have hE := W.2.2.2.2.2.2.2.2.2.2.2.1 f hf
  have q6 := o13 6 (by decide) (by decide)
  have q7 := o13 7 (by decide) (by decide)
  have h4 : f < 4 := by omega
  have g6 := (oE f hf).1
  have g7 := (oE f hf).2 h0
  have hdl := dts_le (D := D) (f := f) (d := d) hE.2 hE.1
  refine ok_eq ?_
  unfold f_O_daysFromSky
  (try unfold QB); (try unfold QM); repeat (first | (with_reducible refine ok_lt ?_) | ((with_reducible refine ok_gd ?_ ?_); first | assumption | exact zb0 | exact zb1 | ((with_reducible apply ai_of) <;> first | assumption | omega | decide) | exact ai_lit (by assumption) (by decide) (by decide) (by decide)) | (refine ok_bR (by assumption) ?_))
  refine ok_bde es ?_
  (try unfold QB); (try unfold QM); repeat (first | (with_reducible refine ok_lt ?_) | ((with_reducible refine ok_gd ?_ ?_); first | assumption | exact zb0 | exact zb1 | ((with_reducible apply ai_of) <;> first | assumption | omega | decide) | exact ai_lit (by assumption) (by decide) (by decide) (by decide)) | (refine ok_bR (by assumption) ?_))
  (try simp (disch := omega) only [nI_clamp, cl0, cl1, cl2, cl3, cl4, cl5, cl6, cl7, cl8])
  rw [g7]
  refine ok_ilt (by omega) (by omega) (fun c => ?_) (fun c => ?_)
  · (try unfold QB); (try unfold QM); repeat (first | (with_reducible refine ok_lt ?_) | ((with_reducible refine ok_gd ?_ ?_); first | assumption | exact zb0 | exact zb1 | ((with_reducible apply ai_of) <;> first | assumption | omega | decide) | exact ai_lit (by assumption) (by decide) (by decide) (by decide)) | (refine ok_bR (by assumption) ?_))
    rw [g7, g6]
    refine ok_bde (e_B_remainder (by omega) (by omega) h0 (by omega)) ?_
    have hm := Nat.mod_lt (d - dFr D f) h0
    rw [rmd_ge (by omega)]
    refine ok_bde (e_min (by omega) (by omega)) (ok_ret ⟨?_, rfl⟩)
    unfold dts off
    rw [if_neg (show ¬ d ≤ dFr D f by omega), if_neg (show ¬ d ≤ dFr D f by omega)]
    congr 1
    split <;> omega
  · refine ok_ret ⟨?_, rfl⟩
    unfold dts off
    rw [if_pos c, if_pos c]
theorem q_agree (W : Wst D V K c Im j tl nc) (R : RB h x D V K c Im j T tl fa) (f : Int32) : Pair x h m (fun h1 => RM h1 m D V K c Im j T tl fa) (f_B_agree x f h) (f_m_agree m f) := by
  obtain ⟨o, o', ho, LB, r3, r4, rO, rD, rV, rP, t1, t2, f1, sUs⟩ := id R; obtain ⟨⟨x1, x2, x3, x4, x5, x6, x7, x8, x9, x10, x11, x12, x13⟩, LR, LC, LK, LS, LG, LH⟩ := id LB
  have o1 := rO.1.1
  have w2 := W.1.1.2.1
  cases hb : isN (dF D) f with
  | false =>
    refine ⟨-1, 1, by decide, ?_, fun h1 M => qM_st M (fun h0 M F _ => ?_)⟩
    · unfold f_B_agree
      refine ok_gd x1 (ok_bde (e_B_hasFeast x1 r3 rO f) ?_)
      rw [hb]
      exact ok_t rfl (qB_ref Fr.rf x1)
    · exact ok_gd M.1.1 (ok_bde ((e_m_refusesSky M W f).1 hb) (ok_f (by decide) (qM_ref F M.1.1)))
  | true =>
    obtain ⟨i, hi, rfl⟩ := isN_ex (by omega) hb
    have hW := W.fw hi
    rcases Nat.eq_zero_or_pos (dEv D i) with h0 | h0
    · refine ⟨-1, 6, by decide, ?_, fun h1 M => qM_st M (fun h0' M F _ => ?_)⟩
      · unfold f_B_agree
        refine ok_gd x1 (ok_bde (e_B_hasFeast x1 r3 rO _) ?_)
        rw [hb]
        refine ok_f (by decide) (ok_gd x1 (ok_bR r3 (ok_gd o1 (ok_bde (e_O_hasSky rO W.1.1 hi) ?_))))
        rw [decide_eq_false (by omega)]
        exact ok_t rfl (qB_ref Fr.rf x1)
      · refine ok_gd M.1.1 (ok_bde ((e_m_refusesSky M W _).2 i hi rfl) ?_)
        rw [if_pos h0]
        exact ok_f (by decide) (qM_ref F M.1.1)
    · generalize hP : (fun n => onW (wf D) D V i n && decide (dts D i (V 0 + n) = 0)) = P
      have hPn : ∀ n, P n = (onW (wf D) D V i n && decide (dts D i (V 0 + n) = 0)) := fun n => by rw [← hP]
      refine ⟨oI (fd P 0 5001), 0, by decide, ?_, fun h1 M => qM_st M (fun h0' M F _ => ?_)⟩
      · unfold f_B_agree
        refine ok_gd x1 (ok_bde (e_B_hasFeast x1 r3 rO _) ?_)
        rw [hb]
        refine ok_f (by decide) (ok_gd x1 (ok_bR r3 (ok_gd o1 (ok_bde (e_O_hasSky rO W.1.1 hi) ?_))))
        rw [decide_eq_true h0]
        refine ok_f (by decide) (ok_gd x1 (ok_bd (ok_mono (ok_B_daysToCome R W hW) ?_)))
        intro u h2 hx
        obtain ⟨rfl, hF, e1, e2, -, -, o2, e3, X⟩ := hx
        refine ok_gd e2 ?_
        unfold f_C_agreeingFrom
        refine ok_bd (ok_gd e2 (ok_bd (ok_mono (ok_C_firstDay X hi hi true (fun _ => h0) (a := 0) (b := 5000) (by decide) (by decide)) ?_)))
        intro y h3 hx
        obtain ⟨rfl, rfl⟩ := hx
        refine ok_ret ?_
        rw [fd_congr (Q := P) (fun e _ _ => by unfold fdP; rw [hPn]; simp)]
        exact qB_gr hF e1
      · refine ok_gd M.1.1 (ok_bde ((e_m_refusesSky M W _).2 i hi rfl) ?_)
        rw [if_neg (show ¬ dEv D i = 0 by omega)]
        obtain ⟨q, X, hq⟩ := M.dx W hW
        refine ok_t (by decide) (ok_gd M.1.1 (ok_bd (ok_mono (ok_m_works' X) ?_)))
        intro _ h2 hx
        obtain ⟨hF2, v2⟩ := hx
        refine ok_lt (ok_up 5001 (fun a st h' => st = (m, nI i, nI a) ∧ Fk (sX m) h0' h' ∧ RepX h' (m + 3) (tnI D a V) ∧ ∀ e, e < a → P e = false) ?_ FU 0 _ _ (Nat.zero_le _) ⟨rfl, hF2, v2, fun e he => absurd he (Nat.not_lt_zero _)⟩ (by show _ < 10000; omega))
        intro k a st h' ha hI' kk
        obtain ⟨rfl, hF3, v3, hno⟩ := hI'
        have X3 := X.fk hF3
        show Ok (b_m_agree_27 k m (nI i) (nI a) h') _
        unfold b_m_agree_27
        refine ok_ilt (a := 5000) (by decide) (by omega) (fun e => ?_) (fun hl => ?_)
        · rw [fd_none _ _ (fun e _ h2 => hno e (by omega))]
          exact qM_gr (F.trans (hF3.r.mono (fun a k e => ScM_X e))) X3.1.1
        · have go : P a = false → Ok (b_m_agree_62 k m (nI i) (nI a) h') (fun r' h' => r' = oI (fd P 0 5001) ∧ Fr (ScM m) h1 h' ∧ hI h' m 1 = 0 ∧ hI h' m 2 = -1) := by
            intro hp
            unfold b_m_agree_62
            refine ok_gd X3.1.1 (ok_bd (ok_mono (ok_m_step X3 (by omega) v3) ?_))
            intro _ h4 hx4
            obtain ⟨hF4, v4⟩ := hx4
            refine kk _ _ (by omega) ⟨by rw [nI_1], hF3.trans hF4, v4, fun e he => ?_⟩
            by_cases q2 : e = a
            · rw [q2]
              exact hp
            · exact hno e (by omega)
          refine ok_gd X3.1.1 (ok_bde (e_m_onD X3 (n := a) (by omega) v3 hi) (ok_ib (fun c1 => go (by rw [hPn, c1]; rfl)) (fun c1 => ?_)))
          obtain ⟨a0, ⟨a1, a2, a3, a4, a5, -⟩, s1, s2, s3, s4, s5, -⟩ := X3.1
          (try unfold QB); (try unfold QM); repeat (first | (with_reducible refine ok_lt ?_) | ((with_reducible refine ok_gd ?_ ?_); first | assumption | exact zb0 | exact zb1 | ((with_reducible apply ai_of) <;> first | assumption | omega | decide) | exact ai_lit (by assumption) (by decide) (by decide) (by decide)) | (refine ok_bR (by assumption) ?_))
          (try simp (disch := omega) only [nI_clamp, cl0, cl1, cl2, cl3, cl4, cl5, cl6, cl7, cl8])
          have g5 : hI h' (m + 3) 5 = nI (V 0 + a) := by
            rw [v3.2 5 (by decide)]
            show nI (tnI D a V 0) = _
            rw [(tnI_0 a).1]
          rw [g5]
          have hV0 := W.2.1.1
          refine ok_bde (e_m_off a0 X3.2.1 X3.2.2.2.1 W.1.1 hi h0 (by omega)) ?_
          have hol : off D i (V 0 + a) < 2 ^ 31 := by
            have hE := W.1.1.2.2.2.2.2.2.2.2.2.2.2.1 i hi
            unfold off
            split <;> omega
          refine ok_ieq (b := 0) hol (by decide) (fun c2 => ?_) (fun c2 => go ?_)
          · rw [fd_some 5001 0 a (Nat.zero_le _) (by omega) (by rw [hPn, c1, decide_eq_true ((off_z h0).mp c2)]; rfl) (fun e _ h2 => hno e h2)]
            exact qM_gr (F.trans (hF3.r.mono (fun a k e => ScM_X e))) a0
          · rw [hPn, decide_eq_false (fun g => c2 ((off_z h0).mpr g))]
            simp
theorem q_drift (W : Wst D V K c Im j tl nc) (R : RB h x D V K c Im j T tl fa) (f : Int32) : Pair x h m (fun h1 => RM h1 m D V K c Im j T tl fa) (f_B_drift x f h) (f_m_drift m f) := by
  obtain ⟨o, o', ho, LB, r3, r4, rO, rD, rV, rP, t1, t2, f1, sUs⟩ := id R; obtain ⟨⟨x1, x2, x3, x4, x5, x6, x7, x8, x9, x10, x11, x12, x13⟩, LR, LC, LK, LS, LG, LH⟩ := id LB
  have o1 := rO.1.1
  have w2 := W.1.1.2.1
  cases hb : isN (dF D) f with
  | false =>
    refine ⟨-1, 1, by decide, ?_, fun h1 M => qM_st M (fun h0 M F _ => ?_)⟩
    · unfold f_B_drift
      refine ok_gd x1 (ok_bde (e_B_hasFeast x1 r3 rO f) ?_)
      rw [hb]
      exact ok_t rfl (qB_ref Fr.rf x1)
    · exact ok_gd M.1.1 (ok_bde ((e_m_refusesSky M W f).1 hb) (ok_f (by decide) (qM_ref F M.1.1)))
  | true =>
    obtain ⟨i, hi, rfl⟩ := isN_ex (by omega) hb
    have hW := W.fw hi
    rcases Nat.eq_zero_or_pos (dEv D i) with h0 | h0
    · refine ⟨-1, 6, by decide, ?_, fun h1 M => qM_st M (fun h0' M F _ => ?_)⟩
      · unfold f_B_drift
        refine ok_gd x1 (ok_bde (e_B_hasFeast x1 r3 rO _) ?_)
        rw [hb]
        refine ok_f (by decide) (ok_gd x1 (ok_bR r3 (ok_gd o1 (ok_bde (e_O_hasSky rO W.1.1 hi) ?_))))
        rw [decide_eq_false (by omega)]
        exact ok_t rfl (qB_ref Fr.rf x1)
      · refine ok_gd M.1.1 (ok_bde ((e_m_refusesSky M W _).2 i hi rfl) ?_)
        rw [if_pos h0]
        exact ok_f (by decide) (qM_ref F M.1.1)
    · have hV0 := W.2.1.1
      refine ⟨match fd (onW (wf D) D V i) 1 5000 with | none => -2 | some n => nI (off D i (V 0 + n)), 0, by decide, ?_, fun h1 M => qM_st M (fun h0' M F _ => ?_)⟩
      · unfold f_B_drift b_B_drift_73
        refine ok_gd x1 (ok_bde (e_B_hasFeast x1 r3 rO _) ?_)
        rw [hb]
        refine ok_f (by decide) (ok_gd x1 (ok_bR r3 (ok_gd o1 (ok_bde (e_O_hasSky rO W.1.1 hi) ?_))))
        rw [decide_eq_true h0]
        refine ok_f (by decide) (ok_gd x1 (ok_bd (ok_mono (ok_B_daysToCome R W hW) ?_)))
        intro u h2 hx
        obtain ⟨rfl, hF, e1, e2, -, e5, o2, e3, X⟩ := hx
        refine ok_gd e2 (ok_bd (ok_mono (ok_C_feastFrom X hi (a := 1) (b := 5000) (by decide) (by decide)) ?_))
        intro y h3 hx
        obtain ⟨rfl, rfl⟩ := hx
        rcases fd_cases (onW (wf D) D V i) 5000 1 with ⟨g1, g2⟩ | ⟨n, g1, g2, g3, g4, g5⟩
        · rw [g1]
          exact ok_t rfl (qB_gr hF e1)
        · rw [g1]
          have rO2 := X.2.2.2.1
          have v36 := X.2.2.2.2.1
          have o12 := rO2.1.1
          have v1 := v36.1
          refine ok_f (oI_ne (by omega)) ?_
          (try unfold QB); (try unfold QM); repeat (first | (with_reducible refine ok_lt ?_) | ((with_reducible refine ok_gd ?_ ?_); first | assumption | exact zb0 | exact zb1 | ((with_reducible apply ai_of) <;> first | assumption | omega | decide) | exact ai_lit (by assumption) (by decide) (by decide) (by decide)) | (refine ok_bR (by assumption) ?_))
          (try simp (disch := omega) only [nI_clamp, cl0, cl1, cl2, cl3, cl4, cl5, cl6, cl7, cl8])
          rw [v36.2 0 (by decide)]
          show Ok (bd (f_O_daysFromSky o2 (nI i) (nI (V 0) + nI n) h3) _) _
          rw [nI_add]
          refine ok_bde (e_O_daysFromSky rO2 W.1.1 hi h0 (by omega)) ?_
          exact qB_gr hF e1
      · refine ok_gd M.1.1 (ok_bde ((e_m_refusesSky M W _).2 i hi rfl) ?_)
        rw [if_neg (show ¬ dEv D i = 0 by omega)]
        obtain ⟨q, X, hq⟩ := M.dx W hW
        unfold b_m_drift_53
        refine ok_t (by decide) (ok_gd M.1.1 (ok_bd (ok_mono (ok_m_next1 X hi) ?_)))
        intro y h2 hx
        obtain ⟨rfl, hF2⟩ := hx
        have X2 := X.fk hF2
        have F2 := F.trans (hF2.r.mono (fun a k e => ScM_X e))
        rcases fd_cases (onW (wf D) D V i) 5000 1 with ⟨g1, g2⟩ | ⟨n, g1, g2, g3, g4, g5⟩
        · rw [g1]
          exact ok_t rfl (qM_gr F2 X2.1.1)
        · rw [g1]
          refine ok_f (oI_ne (by omega)) ?_
          obtain ⟨a0, ⟨a1, a2, a3, a4, a5, -⟩, s1, s2, s3, s4, s5, -⟩ := X2.1
          (try unfold QB); (try unfold QM); repeat (first | (with_reducible refine ok_lt ?_) | ((with_reducible refine ok_gd ?_ ?_); first | assumption | exact zb0 | exact zb1 | ((with_reducible apply ai_of) <;> first | assumption | omega | decide) | exact ai_lit (by assumption) (by decide) (by decide) (by decide)) | (refine ok_bR (by assumption) ?_))
          (try simp (disch := omega) only [nI_clamp, cl0, cl1, cl2, cl3, cl4, cl5, cl6, cl7, cl8])
          have g5' : hI h2 (m + 2) 5 = nI (V 0) := X2.2.2.2.2.2.1.2 5 (by decide)
          rw [g5']
          show Ok (bd (f_m_off m (nI i) (nI (V 0) + nI n) h2) _) _
          rw [nI_add]
          refine ok_bde (e_m_off a0 X2.2.1 X2.2.2.2.1 W.1.1 hi h0 (by omega)) ?_
          exact qM_gr F2 a0
end P4
