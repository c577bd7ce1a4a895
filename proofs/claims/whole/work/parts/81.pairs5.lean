/-! setFor, settings: both sides -/
section P5
variable {h h1 : Hp} {x m q c j tl nc w n : Nat} {D : DD} {V : Nat → Nat} {K Im : Nat → Nat → Nat} {T : Nat → Int32} {fa : Int32}
theorem DX.tb {h' : Hp} (X : DX h m q D V) (F : Fk (sTb m) h h') : DX h' m q D V := by
  obtain ⟨x1, x2, x3, x4, x5, x6, x7⟩ := X
  exact ⟨x1.fk F, by rw [F.2.2.2.1]; exact x2, x3, x4.fk F (fun i k hi e => by unfold sTb at e; omega), x5, x6.fk F (fun k e => by unfold sTb at e; omega), x7⟩
theorem ok_m_leadsTo (X : DX h m q D V) (hw : w < dW D) {f t : Nat} (hf : f < dF D) (hx : dX D f w ≠ 0) (ht : t < dT D w) (hn : n ≤ 5000) : Ok (f_m_leadsTo m (nI w) (nI f) (nI t) (nI n) h) (fun y h' => y = bI (lead D V w f n t) ∧ Fk (sTb m) h h') := by
  obtain ⟨x1, x2, x3, x4, x5, x6, x7⟩ := id X
  have w1 := x5.1
  have w2 := x5.2.1
  have hT := x5.2.2.2.2.2.2.2.1 w hw
  have hX := x5.2.2.2.2.2.2.2.2.1 f w hf hw
  unfold f_m_leadsTo
  refine ok_gd x1.1 (ok_bR x2 (ok_gd x4.1.1 (ok_bde (e_n_isGone x4 hw (by omega) t) ?_)))
  refine ok_ib (fun hg => ?_) (fun hg => ok_gd zb0 (ok_ret ⟨?_, Fk.rf⟩))
  · refine ok_gd x1.1 (ok_bde (e_m_goings x1 x2 x4 x5 x6 x7.wf hw (by omega)) ?_)
    have hgl : wg D V w n ≤ n := gs_le
    refine ok_gd x1.1 (ok_bd (ok_mono (ok_m_toothBehind x1 x2 x3 x4 x5 hw ht (G := wg D V w n) (by omega)) ?_))
    intro y h2 hx2
    obtain ⟨rfl, hF2⟩ := hx2
    have X2 := X.tb hF2
    have rQ := X2.2.2.2.1
    have a0 := X2.1.1
    have q1 := X2.2.1
    obtain ⟨⟨b1, b2, b3, b4, b5, b6, b7, b8, b9, b10, b11⟩, ⟨c0, c1, c2, c3, c4, c5, c6, c7, c8⟩, qW, qX, qE, qK, qS⟩ := id rQ; have d0 := b2 0 (by decide); have d1 := b2 1 (by decide); have d2 := b2 2 (by decide); have d3 := b2 3 (by decide); have d4 := b2 4 (by decide); have d5 := b2 5 (by decide); have d6 := b2 6 (by decide); have d7 := b2 7 (by decide); have d8 := b2 8 (by decide); have d9 := b2 9 (by decide); have d10 := b2 10 (by decide); have d11 := b2 11 (by decide); have d12 := b2 12 (by decide); have d13 := b2 13 (by decide); have d14 := b2 14 (by decide); have d15 := b2 15 (by decide); have d16 := b2 16 (by decide); have e0 := b3 0 (by decide); have e1 := b3 1 (by decide); have e2 := b3 2 (by decide); have e3 := b3 3 (by decide); have f0 := b6 0 (by decide); have f1 := b6 1 (by decide); have f2 := b6 2 (by decide); have f3 := b6 3 (by decide); have f4 := b6 4 (by decide); have f5 := b6 5 (by decide)
    rw [nI_i5']
    (try unfold QB); (try unfold QM); repeat (first | (with_reducible refine ok_lt ?_) | ((with_reducible refine ok_gd ?_ ?_); first | assumption | exact zb0 | exact zb1 | ((with_reducible apply ai_of) <;> first | assumption | omega | decide) | exact ai_lit (by assumption) (by decide) (by decide) (by decide)) | (refine ok_bR (by assumption) ?_))
    (try simp (disch := omega) only [nI_clamp, cl0, cl1, cl2, cl3, cl4, cl5, cl6, cl7, cl8])
    have g6 : hI h2 (q + 1 + 5) (5 * f + w) = nI (dX D f w - 1) := (qX f w hf hw).2 hx
    rw [g6]
    have hil : it (wf D w) (wg D V w n) t < dT D w := it_lt (fun u hu => wf_lt x5 hw hu) ht _
    refine ok_ieq (by omega) (by omega) (fun c1 => ok_gd zb1 (ok_ret ⟨?_, hF2⟩)) (fun c1 => ok_gd zb0 (ok_ret ⟨?_, hF2⟩))
    · unfold lead
      rw [hg, decide_eq_true (by omega)]
      rfl
    · unfold lead
      rw [hg, decide_eq_false (by omega)]
      rfl
  · unfold lead
    rw [hg]
    rfl
theorem ofb {o : Nat} (hx : hS h x = some (.inl 0)) (h3 : hR h x 3 = some o) (R : RepO h o D) (W : Wf D) (w f : Int32) : f_B_hasWheelOfFeast x w f h = some (bI (isN (dW D) w && isN (dF D) f && decide (dX D f.toNatClampNeg w.toNatClampNeg ≠ 0)), h) := by
  have w1 := W.1
  have w2 := W.2.1
  refine ok_eq ?_
  unfold f_B_hasWheelOfFeast
  refine ok_gd hx (ok_bde (e_B_hasWheel hx h3 R w1 w) (ok_ib (fun c1 => ok_gd zb0 (ok_ret ⟨by rw [c1]; rfl, rfl⟩)) (fun c1 => ?_)))
  refine ok_gd hx (ok_bde (e_B_hasFeast hx h3 R f) (ok_ib (fun c2 => ok_gd zb0 (ok_ret ⟨by rw [c1, c2]; rfl, rfl⟩)) (fun c2 => ?_)))
  obtain ⟨i, hi, rfl⟩ := isN_ex (by omega) c1
  obtain ⟨g, hg, rfl⟩ := isN_ex (by omega) c2
  have hX := W.2.2.2.2.2.2.2.2.1 g i hg hi
  have hT := W.2.2.2.2.2.2.2.1 i hi
  refine ok_gd hx (ok_bR h3 (ok_gd R.1.1 (ok_bde (e_O_feastTooth R w2 hg (by omega)) ?_)))
  rw [c1, c2, nI_clamp (n := g) (by omega), nI_clamp (n := i) (by omega)]
  refine ok_ix (by omega) (fun ez => ok_gd zb0 (ok_ret ⟨?_, rfl⟩)) (fun ez => ok_gd zb1 (ok_ret ⟨?_, rfl⟩))
  · rw [decide_eq_false (fun e => e ez)]
    rfl
  · rw [decide_eq_true ez]
    rfl
theorem ofm (M : RM h m D V K c Im j T tl fa) (W : Wst D V K c Im j tl nc) (w f : Int32) : f_m_isOf m w f h = some (bI (isN (dW D) w && isN (dF D) f && decide (dX D f.toNatClampNeg w.toNatClampNeg ≠ 0)), h) := by
  have w1 := W.1.1.1
  have w2 := W.1.1.2.1
  have hz := fun e => (W.2.2.2.2.2.2 e).1
  refine ok_eq ?_
  unfold f_m_isOf
  refine ok_gd M.1.1 (ok_bde (e_m_isWheel M w1 w) (ok_ib (fun c1 => ok_gd zb0 (ok_ret ⟨by rw [c1]; rfl, rfl⟩)) (fun c1 => ?_)))
  refine ok_gd M.1.1 (ok_bde (e_m_isFeast M hz f) (ok_ib (fun c2 => ok_gd zb0 (ok_ret ⟨by rw [c1, c2]; rfl, rfl⟩)) (fun c2 => ?_)))
  obtain ⟨i, hi, rfl⟩ := isN_ex (by omega) c1
  obtain ⟨g, hg, rfl⟩ := isN_ex (by omega) c2
  obtain ⟨LM, z0, z3, rX, rR, u1, u2, g1⟩ := id M; obtain ⟨a0, ⟨a1, a2, a3, a4, a5, a6, a7, a8, a9, a10, a11, a12, a13⟩, s1, s2, s3, s4, s5, s6, s7, s8, s9, s10, s11, s12, s13⟩ := id LM
  obtain ⟨q, q1, q2, q2', rQ⟩ := z3 (by omega)
  obtain ⟨⟨b1, b2, b3, b4, b5, b6, b7, b8, b9, b10, b11⟩, ⟨c0, c1, c2, c3, c4, c5, c6, c7, c8⟩, qW, qX, qE, qK, qS⟩ := id rQ; have d0 := b2 0 (by decide); have d1 := b2 1 (by decide); have d2 := b2 2 (by decide); have d3 := b2 3 (by decide); have d4 := b2 4 (by decide); have d5 := b2 5 (by decide); have d6 := b2 6 (by decide); have d7 := b2 7 (by decide); have d8 := b2 8 (by decide); have d9 := b2 9 (by decide); have d10 := b2 10 (by decide); have d11 := b2 11 (by decide); have d12 := b2 12 (by decide); have d13 := b2 13 (by decide); have d14 := b2 14 (by decide); have d15 := b2 15 (by decide); have d16 := b2 16 (by decide); have e0 := b3 0 (by decide); have e1 := b3 1 (by decide); have e2 := b3 2 (by decide); have e3 := b3 3 (by decide); have f0 := b6 0 (by decide); have f1 := b6 1 (by decide); have f2 := b6 2 (by decide); have f3 := b6 3 (by decide); have f4 := b6 4 (by decide); have f5 := b6 5 (by decide)
  have h4 : g < 4 := by omega
  (try unfold QB); (try unfold QM); repeat (first | (with_reducible refine ok_lt ?_) | ((with_reducible refine ok_gd ?_ ?_); first | assumption | exact zb0 | exact zb1 | ((with_reducible apply ai_of) <;> first | assumption | omega | decide) | exact ai_lit (by assumption) (by decide) (by decide) (by decide)) | (refine ok_bR (by assumption) ?_))
  rw [isN_of hi (by omega), isN_of hg (by omega), nI_clamp (n := g) (by omega), nI_clamp (n := i) (by omega)]
  refine ok_bde (e_m_bit _ i) ?_
  have e7 : bt (hI h (q + 1 + 6) g) i = decide (dX D g i ≠ 0) := (qX g i hg hi).1
  rw [e7]
  refine ok_ib (fun c3 => ok_gd zb0 (ok_ret ⟨?_, rfl⟩)) (fun c3 => ok_gd zb1 (ok_ret ⟨?_, rfl⟩))
  · rw [c3]
    rfl
  · rw [c3]
    rfl
theorem ScB_F {a : Nat} (e : sFR (x + 41) a) {k : Nat} : ScB x a k := by
  unfold sFR at e
  unfold ScB sC
  omega
theorem ScM_T {a k : Nat} (e : sTb m a k) : ScM m a k := by unfold sTb at e; unfold ScM; omega
theorem q_settings (W : Wst D V K c Im j tl nc) (R : RB h x D V K c Im j T tl fa) (f n : Int32) : Pair x h m (fun h1 => RM h1 m D V K c Im j T tl fa) (f_B_settings x f n h) (f_m_settings m f n) := by
  obtain ⟨o, o', ho, LB, r3, r4, rO, rD, rV, rP, t1, t2, f1, sUs⟩ := id R; obtain ⟨⟨x1, x2, x3, x4, x5, x6, x7, x8, x9, x10, x11, x12, x13⟩, LR, LC, LK, LS, LG, LH⟩ := id LB
  have w1 := W.1.1.1
  have w2 := W.1.1.2.1
  have hz := fun e => (W.2.2.2.2.2.2 e).1
  cases hb : isN (dF D) f with
  | false =>
    refine ⟨-1, 1, by decide, ?_, fun h1 M => qM_st M (fun h0 M F _ => ?_)⟩
    · unfold f_B_settings
      refine ok_gd x1 (ok_bde (e_B_hasFeast x1 r3 rO f) ?_)
      rw [hb]
      exact ok_t rfl (qB_ref Fr.rf x1)
    · refine ok_gd M.1.1 (ok_bde (e_m_isFeast M hz f) ?_)
      rw [hb]
      exact qM_dn F M.1.1
  | true =>
    obtain ⟨i, hi, rfl⟩ := isN_ex (by omega) hb
    have hW := W.fw hi
    rcases dy_cases n (lo := 1) (hi := 5000) (by decide) (by decide) with hn | ⟨n, hn1, hn2, rfl⟩
    · refine ⟨-1, 2, by decide, ?_, fun h1 M => qM_st M (fun h0 M F _ => ?_)⟩
      · unfold f_B_settings b_B_settings_26
        refine ok_gd x1 (ok_bde (e_B_hasFeast x1 r3 rO _) ?_)
        rw [hb]
        exact ok_f (by decide) (dyB_out hn (qB_ref Fr.rf x1))
      · refine ok_gd M.1.1 (ok_bde (e_m_isFeast M hz _) ?_)
        rw [hb]
        exact qM_do F M.1.1 hn
    · refine ⟨nI (prN D V i n (dW D)), 0, by decide, ?_, fun h1 M => qM_st M (fun h0 M F _ => ?_)⟩
      · unfold f_B_settings
        refine ok_gd x1 (ok_bde (e_B_hasFeast x1 r3 rO _) ?_)
        rw [hb]
        refine ok_f (by decide) (dyB_in (lo := 1) (hi := 5000) hn1 hn2 (by decide) (ok_gd x1 (ok_bd (ok_mono (ok_B_daysToCome R W hW) ?_))))
        intro u h2 hx
        obtain ⟨rfl, hF, e1, e2, e33, -, o2, e3, X⟩ := hx
        have eo : o2 = o := by rw [e33, r3] at e3; exact (Option.some.inj e3).symm
        subst eo
        refine ok_gd e2 (ok_bd (ok_mono (ok_C_settingsFor X (by omega) (by omega) hi hn2) ?_))
        intro y h3 hx
        obtain ⟨rfl, hF3⟩ := hx
        exact qB_gr (hF.trans (hF3.r.mono (fun a k e => ScB_F e))) (by rw [hF3.2.1]; exact e1)
      · refine ok_gd M.1.1 (ok_bde (e_m_isFeast M hz _) ?_)
        rw [hb]
        obtain ⟨q, X, hq⟩ := M.dx W hW
        refine qM_di (a := 1) (b := 5000) M.1.1 hn1 hn2 (by decide) (ok_lt (ok_lt ?_))
        refine ok_up (dW D) (fun a st h' => st = (m, nI i, nI n, nI (prN D V i n a), nI a) ∧ Fk (sTb m) h0 h') ?_ FU 0 _ _ (Nat.zero_le _) ⟨rfl, Fk.rf⟩ (by show _ < 10000; omega)
        intro k a st h' ha hI' kk
        obtain ⟨rfl, hF3⟩ := hI'
        have X3 := X.tb hF3
        have rQ := X3.2.2.2.1
        have a0 := X3.1.1
        have q1 := X3.2.1
        show Ok (b_m_settings_36 k m (nI i) (nI n) (nI (prN D V i n a)) (nI a) h') _
        unfold b_m_settings_36 b_m_settings_125
        obtain ⟨⟨b1, b2, b3, b4, b5, b6, b7, b8, b9, b10, b11⟩, ⟨c0, c1, c2, c3, c4, c5, c6, c7, c8⟩, qW, qX, qE, qK, qS⟩ := id rQ; have d0 := b2 0 (by decide); have d1 := b2 1 (by decide); have d2 := b2 2 (by decide); have d3 := b2 3 (by decide); have d4 := b2 4 (by decide); have d5 := b2 5 (by decide); have d6 := b2 6 (by decide); have d7 := b2 7 (by decide); have d8 := b2 8 (by decide); have d9 := b2 9 (by decide); have d10 := b2 10 (by decide); have d11 := b2 11 (by decide); have d12 := b2 12 (by decide); have d13 := b2 13 (by decide); have d14 := b2 14 (by decide); have d15 := b2 15 (by decide); have d16 := b2 16 (by decide); have e0 := b3 0 (by decide); have e1 := b3 1 (by decide); have e2 := b3 2 (by decide); have e3 := b3 3 (by decide); have f0 := b6 0 (by decide); have f1 := b6 1 (by decide); have f2 := b6 2 (by decide); have f3 := b6 3 (by decide); have f4 := b6 4 (by decide); have f5 := b6 5 (by decide)
        (try unfold QB); (try unfold QM); repeat (first | (with_reducible refine ok_lt ?_) | ((with_reducible refine ok_gd ?_ ?_); first | assumption | exact zb0 | exact zb1 | ((with_reducible apply ai_of) <;> first | assumption | omega | decide) | exact ai_lit (by assumption) (by decide) (by decide) (by decide)) | (refine ok_bR (by assumption) ?_))
        rw [c2]
        refine ok_it ha (by omega) (fun e => ?_) (fun hl => ?_)
        · rw [e]
          exact qM_gr (F.trans (hF3.r.mono (fun a k e => ScM_T e))) X3.1.1
        · have h4 : i < 4 := by omega
          have hs : prN D V i n (a + 1) = if dX D i a = 0 then prN D V i n a else prN D V i n a * cntN (lead D V a i n) (dT D a) := rfl
          have hT := W.1.1.2.2.2.2.2.2.2.1 a hl
          (try unfold QB); (try unfold QM); repeat (first | (with_reducible refine ok_lt ?_) | ((with_reducible refine ok_gd ?_ ?_); first | assumption | exact zb0 | exact zb1 | ((with_reducible apply ai_of) <;> first | assumption | omega | decide) | exact ai_lit (by assumption) (by decide) (by decide) (by decide)) | (refine ok_bR (by assumption) ?_))
          (try simp (disch := omega) only [nI_clamp, cl0, cl1, cl2, cl3, cl4, cl5, cl6, cl7, cl8])
          refine ok_bde (e_m_bit _ a) ?_
          have e7 : bt (hI h' (q + 1 + 6) i) a = decide (dX D i a ≠ 0) := (qX i a hi hl).1
          rw [e7]
          refine ok_ib (fun c3 => kk _ _ hl ⟨?_, hF3⟩) (fun c3 => ?_)
          · have ez : dX D i a = 0 := Classical.byContradiction (of_decide_eq_false c3)
            rw [hs, if_pos ez, nI_1]
          · have ez : dX D i a ≠ 0 := of_decide_eq_true c3
            refine ok_lt (ok_lt ?_)
            refine ok_up (dT D a) (fun t st h4 => st = (m, nI i, nI n, nI (prN D V i n a), nI a, nI (cntN (lead D V a i n) t), nI t) ∧ Fk (sTb m) h0 h4) ?_ FU 0 _ _ (Nat.zero_le _) ⟨rfl, hF3⟩ (by show _ < 10000; omega)
            intro k2 t st h4 ht hI4 kk2
            obtain ⟨rfl, hF4⟩ := hI4
            have X4 := X.tb hF4
            clear b1 b2 b3 b4 b5 b6 b7 b8 b9 b10 b11 c0 c1 c2 c4 c5 c6 c7 c8 qW qX qE qK qS d0 d1 d2 d3 d4 d5 d6 d7 d8 d9 d10 d11 d12 d13 d14 d15 d16 e0 e1 e2 e3 f0 f2 f3 f4 f5
            have rQ := X4.2.2.2.1
            have a0 := X4.1.1
            have q1 := X4.2.1
            show Ok (b_m_settings_74 k k2 m (nI i) (nI n) (nI (prN D V i n a)) (nI a) (nI (cntN (lead D V a i n) t)) (nI t) h4) _
            unfold b_m_settings_74 b_m_settings_125 b_m_settings_109
            obtain ⟨⟨b1, b2, b3, b4, b5, b6, b7, b8, b9, b10, b11⟩, ⟨c0, c1, c2, c3, c4, c5, c6, c7, c8⟩, qW, qX, qE, qK, qS⟩ := id rQ; have d0 := b2 0 (by decide); have d1 := b2 1 (by decide); have d2 := b2 2 (by decide); have d3 := b2 3 (by decide); have d4 := b2 4 (by decide); have d5 := b2 5 (by decide); have d6 := b2 6 (by decide); have d7 := b2 7 (by decide); have d8 := b2 8 (by decide); have d9 := b2 9 (by decide); have d10 := b2 10 (by decide); have d11 := b2 11 (by decide); have d12 := b2 12 (by decide); have d13 := b2 13 (by decide); have d14 := b2 14 (by decide); have d15 := b2 15 (by decide); have d16 := b2 16 (by decide); have e0 := b3 0 (by decide); have e1 := b3 1 (by decide); have e2 := b3 2 (by decide); have e3 := b3 3 (by decide); have f0 := b6 0 (by decide); have f1 := b6 1 (by decide); have f2 := b6 2 (by decide); have f3 := b6 3 (by decide); have f4 := b6 4 (by decide); have f5 := b6 5 (by decide)
            have h5 : a < 5 := by omega
            (try unfold QB); (try unfold QM); repeat (first | (with_reducible refine ok_lt ?_) | ((with_reducible refine ok_gd ?_ ?_); first | assumption | exact zb0 | exact zb1 | ((with_reducible apply ai_of) <;> first | assumption | omega | decide) | exact ai_lit (by assumption) (by decide) (by decide) (by decide)) | (refine ok_bR (by assumption) ?_))
            (try simp (disch := omega) only [nI_clamp, cl0, cl1, cl2, cl3, cl4, cl5, cl6, cl7, cl8])
            have g : hI h4 (q + 1 + 1) a = nI (dT D a) := (qW a hl).2.1
            rw [g]
            refine ok_it ht (by omega) (fun et => ok_lt (kk _ _ hl ⟨?_, hF4⟩)) (fun hlt => ?_)
            · rw [hs, if_neg ez, nI_1, et, pk_mul]
            · refine ok_gd a0 (ok_bd (ok_mono (ok_m_leadsTo X4 hl hi ez hlt hn2) ?_))
              intro y h5 hx5
              obtain ⟨rfl, hF5⟩ := hx5
              have hcs : cntN (lead D V a i n) (t + 1) = cntN (lead D V a i n) t + (if lead D V a i n t = true then 1 else 0) := rfl
              refine ok_ib (fun c4 => ok_lt (kk2 _ _ hlt ⟨?_, hF4.trans hF5⟩)) (fun c4 => ok_lt (kk2 _ _ hlt ⟨?_, hF4.trans hF5⟩))
              · rw [hcs, c4, nI_1, Int32.add_zero]
                rfl
              · rw [hcs, c4, nI_1, nI_1]
                rfl
theorem q_setFor (W : Wst D V K c Im j tl nc) (R : RB h x D V K c Im j T tl fa) (w f n : Int32) : Pair x h m (fun h1 => RM h1 m D V K c Im j T tl fa) (f_B_setFor x w f n h) (f_m_setFor m w f n) := by
  obtain ⟨o, o', ho, LB, r3, r4, rO, rD, rV, rP, t1, t2, f1, sUs⟩ := id R; obtain ⟨⟨x1, x2, x3, x4, x5, x6, x7, x8, x9, x10, x11, x12, x13⟩, LR, LC, LK, LS, LG, LH⟩ := id LB
  have w1 := W.1.1.1
  have w2 := W.1.1.2.1
  cases hb : (isN (dW D) w && isN (dF D) f && decide (dX D f.toNatClampNeg w.toNatClampNeg ≠ 0)) with
  | false =>
    refine ⟨-1, 1, by decide, ?_, fun h1 M => qM_st M (fun h0 M F _ => ?_)⟩
    · unfold f_B_setFor
      refine ok_gd x1 (ok_bde (ofb x1 r3 rO W.1.1 w f) ?_)
      rw [hb]
      exact ok_t rfl (qB_ref Fr.rf x1)
    · refine ok_gd M.1.1 (ok_bde (ofm M W w f) ?_)
      rw [hb]
      exact qM_dn F M.1.1
  | true =>
    have hb' := hb
    rw [Bool.and_eq_true, Bool.and_eq_true] at hb'
    obtain ⟨i, hi, rfl⟩ := isN_ex (by omega) hb'.1.1
    obtain ⟨g, hg, rfl⟩ := isN_ex (by omega) hb'.1.2
    have hxx := of_decide_eq_true hb'.2
    rw [nI_clamp (n := g) (by omega), nI_clamp (n := i) (by omega)] at hxx
    have hW := W.fw hg
    rcases dy_cases n (lo := 1) (hi := 5000) (by decide) (by decide) with hn | ⟨n, hn1, hn2, rfl⟩
    · refine ⟨-1, 2, by decide, ?_, fun h1 M => qM_st M (fun h0 M F _ => ?_)⟩
      · unfold f_B_setFor b_B_setFor_27
        refine ok_gd x1 (ok_bde (ofb x1 r3 rO W.1.1 _ _) ?_)
        rw [hb]
        exact ok_f (by decide) (dyB_out hn (qB_ref Fr.rf x1))
      · refine ok_gd M.1.1 (ok_bde (ofm M W _ _) ?_)
        rw [hb]
        exact qM_do F M.1.1 hn
    · refine ⟨setR D V i g n, 0, by decide, ?_, fun h1 M => qM_st M (fun h0 M F _ => ?_)⟩
      · unfold f_B_setFor
        refine ok_gd x1 (ok_bde (ofb x1 r3 rO W.1.1 _ _) ?_)
        rw [hb]
        refine ok_f (by decide) (dyB_in (lo := 1) (hi := 5000) hn1 hn2 (by decide) (ok_gd x1 (ok_bd (ok_mono (ok_B_daysToCome R W hW) ?_))))
        intro u h2 hx
        obtain ⟨rfl, hF, e1, e2, e33, -, o2, e3, X⟩ := hx
        have eo : o2 = o := by rw [e33, r3] at e3; exact (Option.some.inj e3).symm
        subst eo
        refine ok_gd e2 (ok_bd (ok_mono (ok_C_settingFor X (by omega) (by omega) hg hi hxx hn2) ?_))
        intro y h3 hx
        obtain ⟨rfl, hF3⟩ := hx
        exact qB_gr (hF.trans (hF3.r.mono (fun a k e => ScB_F e))) (by rw [hF3.2.1]; exact e1)
      · refine ok_gd M.1.1 (ok_bde (ofm M W _ _) ?_)
        rw [hb]
        obtain ⟨q, X, hq⟩ := M.dx W hW
        refine qM_di (a := 1) (b := 5000) M.1.1 hn1 hn2 (by decide) (ok_lt ?_)
        refine ok_up (dW D) (fun a st h' => st = (m, nI i, nI g, nI n, nI a) ∧ Fk (sTb m) h0 h' ∧ othB D V i g n a = true) ?_ FU 0 _ _ (Nat.zero_le _) ⟨rfl, Fk.rf, rfl⟩ (by show _ < 10000; omega)
        intro k a st h' ha hI' kk
        obtain ⟨rfl, hF3, hot⟩ := hI'
        have X3 := X.tb hF3
        obtain ⟨y1, y2, y3, y4, y5, y6, y7⟩ := id X3
        have rQ := X3.2.2.2.1
        obtain ⟨a0, ⟨a1, a2, a3, a4, a5, -⟩, s1, s2, s3, s4, s5, -⟩ := X3.1
        have q1 := X3.2.1
        show Ok (b_m_setFor_37 k m (nI i) (nI g) (nI n) (nI a) h') _
        unfold b_m_setFor_37 b_m_setFor_116
        obtain ⟨⟨b1, b2, b3, b4, b5, b6, b7, b8, b9, b10, b11⟩, ⟨c0, c1, c2, c3, c4, c5, c6, c7, c8⟩, qW, qX, qE, qK, qS⟩ := id rQ; have d0 := b2 0 (by decide); have d1 := b2 1 (by decide); have d2 := b2 2 (by decide); have d3 := b2 3 (by decide); have d4 := b2 4 (by decide); have d5 := b2 5 (by decide); have d6 := b2 6 (by decide); have d7 := b2 7 (by decide); have d8 := b2 8 (by decide); have d9 := b2 9 (by decide); have d10 := b2 10 (by decide); have d11 := b2 11 (by decide); have d12 := b2 12 (by decide); have d13 := b2 13 (by decide); have d14 := b2 14 (by decide); have d15 := b2 15 (by decide); have d16 := b2 16 (by decide); have e0 := b3 0 (by decide); have e1 := b3 1 (by decide); have e2 := b3 2 (by decide); have e3 := b3 3 (by decide); have f0 := b6 0 (by decide); have f1 := b6 1 (by decide); have f2 := b6 2 (by decide); have f3 := b6 3 (by decide); have f4 := b6 4 (by decide); have f5 := b6 5 (by decide)
        (try unfold QB); (try unfold QM); repeat (first | (with_reducible refine ok_lt ?_) | ((with_reducible refine ok_gd ?_ ?_); first | assumption | exact zb0 | exact zb1 | ((with_reducible apply ai_of) <;> first | assumption | omega | decide) | exact ai_lit (by assumption) (by decide) (by decide) (by decide)) | (refine ok_bR (by assumption) ?_))
        rw [c2]
        refine ok_it ha (by omega) (fun e => ?_) (fun hl => ?_)
        · subst e
          clear b1 b2 b3 b4 b5 b6 b7 b8 b9 b10 b11 c0 c1 c2 c3 c4 c5 c6 c7 c8 qW qX qE qK qS d0 d1 d2 d3 d4 d5 d6 d7 d8 d9 d10 d11 d12 d13 d14 d15 d16 e0 e1 e2 e3 f0 f2 f3 f4 f5
          refine ok_lt ?_
          unfold setR
          rw [if_pos hot]
          have hT := W.1.1.2.2.2.2.2.2.2.1 i hi
          refine ok_up (dT D i) (fun t st h4 => st = (m, nI i, nI g, nI n, nI t) ∧ Fk (sTb m) h0 h4 ∧ ∀ e, e < t → lead D V i g n e = false) ?_ FU 0 _ _ (Nat.zero_le _) ⟨rfl, hF3, fun e he => absurd he (Nat.not_lt_zero _)⟩ (by show _ < 10000; omega)
          intro k2 t st h4 ht hI4 kk2
          obtain ⟨rfl, hF4, hno⟩ := hI4
          have X4 := X.tb hF4
          have rQ := X4.2.2.2.1
          have a0 := X4.1.1
          have q1 := X4.2.1
          show Ok (b_m_setFor_125 k2 m (nI i) (nI g) (nI n) (nI t) h4) _
          unfold b_m_setFor_125
          obtain ⟨⟨b1, b2, b3, b4, b5, b6, b7, b8, b9, b10, b11⟩, ⟨c0, c1, c2, c3, c4, c5, c6, c7, c8⟩, qW, qX, qE, qK, qS⟩ := id rQ; have d0 := b2 0 (by decide); have d1 := b2 1 (by decide); have d2 := b2 2 (by decide); have d3 := b2 3 (by decide); have d4 := b2 4 (by decide); have d5 := b2 5 (by decide); have d6 := b2 6 (by decide); have d7 := b2 7 (by decide); have d8 := b2 8 (by decide); have d9 := b2 9 (by decide); have d10 := b2 10 (by decide); have d11 := b2 11 (by decide); have d12 := b2 12 (by decide); have d13 := b2 13 (by decide); have d14 := b2 14 (by decide); have d15 := b2 15 (by decide); have d16 := b2 16 (by decide); have e0 := b3 0 (by decide); have e1 := b3 1 (by decide); have e2 := b3 2 (by decide); have e3 := b3 3 (by decide); have f0 := b6 0 (by decide); have f1 := b6 1 (by decide); have f2 := b6 2 (by decide); have f3 := b6 3 (by decide); have f4 := b6 4 (by decide); have f5 := b6 5 (by decide)
          have h5 : i < 5 := by omega
          (try unfold QB); (try unfold QM); repeat (first | (with_reducible refine ok_lt ?_) | ((with_reducible refine ok_gd ?_ ?_); first | assumption | exact zb0 | exact zb1 | ((with_reducible apply ai_of) <;> first | assumption | omega | decide) | exact ai_lit (by assumption) (by decide) (by decide) (by decide)) | (refine ok_bR (by assumption) ?_))
          (try simp (disch := omega) only [nI_clamp, cl0, cl1, cl2, cl3, cl4, cl5, cl6, cl7, cl8])
          have g2 : hI h4 (q + 1 + 1) i = nI (dT D i) := (qW i hi).2.1
          rw [g2]
          refine ok_it ht (by omega) (fun et => ?_) (fun hlt => ?_)
          · rw [fd_none _ _ (fun e _ h2 => hno e (by omega))]
            exact qM_gr (F.trans (hF4.r.mono (fun a k e => ScM_T e))) a0
          · refine ok_gd a0 (ok_bd (ok_mono (ok_m_leadsTo X4 hi hg hxx hlt hn2) ?_))
            intro y h5 hx5
            obtain ⟨rfl, hF5⟩ := hx5
            refine ok_ib (fun c4 => kk2 _ _ hlt ⟨by rw [nI_1], hF4.trans hF5, fun e he => ?_⟩) (fun c4 => ?_)
            · by_cases q2 : e = t
              · rw [q2]
                exact c4
              · exact hno e (by omega)
            · rw [fd_some _ 0 t (Nat.zero_le _) (by omega) c4 (fun e _ h2 => hno e h2)]
              exact qM_gr (F.trans ((hF4.trans hF5).r.mono (fun a k e => ScM_T e))) (X4.tb hF5).1.1
        · have hT := W.1.1.2.2.2.2.2.2.2.1 a hl
          have hX := W.1.1.2.2.2.2.2.2.2.2.1 g a hg hl
          have hs : othB D V i g n (a + 1) = (othB D V i g n a && (decide (a = i) || decide (dX D g a = 0) || decide (dX D g a = it (wf D a) (wg D V a n) (V (3 + a)) + 1))) := rfl
          refine ok_ieq (by omega) (by omega) (fun c1 => kk _ _ hl ⟨by rw [nI_1], hF3, ?_⟩) (fun c1 => ?_)
          · rw [hs, hot, decide_eq_true c1]
            simp
          · have h4 : g < 4 := by omega
            (try unfold QB); (try unfold QM); repeat (first | (with_reducible refine ok_lt ?_) | ((with_reducible refine ok_gd ?_ ?_); first | assumption | exact zb0 | exact zb1 | ((with_reducible apply ai_of) <;> first | assumption | omega | decide) | exact ai_lit (by assumption) (by decide) (by decide) (by decide)) | (refine ok_bR (by assumption) ?_))
            (try simp (disch := omega) only [nI_clamp, cl0, cl1, cl2, cl3, cl4, cl5, cl6, cl7, cl8])
            refine ok_bde (e_m_bit _ a) ?_
            have e7 : bt (hI h' (q + 1 + 6) g) a = decide (dX D g a ≠ 0) := (qX g a hg hl).1
            rw [e7]
            refine ok_ib (fun c3 => kk _ _ hl ⟨by rw [nI_1], hF3, ?_⟩) (fun c3 => ?_)
            · have ez : dX D g a = 0 := Classical.byContradiction (of_decide_eq_false c3)
              rw [hs, hot, decide_eq_true ez]
              simp
            · have ez : dX D g a ≠ 0 := of_decide_eq_true c3
              have h8 : a < 8 := by omega
              (try unfold QB); (try unfold QM); repeat (first | (with_reducible refine ok_lt ?_) | ((with_reducible refine ok_gd ?_ ?_); first | assumption | exact zb0 | exact zb1 | ((with_reducible apply ai_of) <;> first | assumption | omega | decide) | exact ai_lit (by assumption) (by decide) (by decide) (by decide)) | (refine ok_bR (by assumption) ?_))
              (try simp (disch := omega) only [nI_clamp, cl0, cl1, cl2, cl3, cl4, cl5, cl6, cl7, cl8])
              have hVb := W.2.1.2.2.2 a hl
              rw [y6.t (by omega) (by omega)]
              refine ok_bde (e_m_goings y1 y2 y4 y5 y6 y7.wf hl (by omega)) ?_
              have hgl : wg D V a n ≤ n := gs_le
              refine ok_gd a0 (ok_bd (ok_mono (ok_m_toothBehind y1 y2 y3 y4 y5 hl (y7.wf.2.2.2 a hl) (G := wg D V a n) (by omega)) ?_))
              intro y h5 hx5
              obtain ⟨rfl, hF5⟩ := hx5
              have X5 := X3.tb hF5
              have rQ5 := X5.2.2.2.1
              have a05 := X5.1.1
              have q15 := X5.2.1
              have bb1 := rQ5.1.1
              have dd5 := rQ5.1.2.1 5 (by decide)
              have ff5 : hS h5 (q + 1 + 5) = some (.inr (0, 20)) := rQ5.1.2.2.2.2.1
              rw [nI_i5']
              (try unfold QB); (try unfold QM); repeat (first | (with_reducible refine ok_lt ?_) | ((with_reducible refine ok_gd ?_ ?_); first | assumption | exact zb0 | exact zb1 | ((with_reducible apply ai_of) <;> first | assumption | omega | decide) | exact ai_lit (by assumption) (by decide) (by decide) (by decide)) | (refine ok_bR (by assumption) ?_))
              (try simp (disch := omega) only [nI_clamp, cl0, cl1, cl2, cl3, cl4, cl5, cl6, cl7, cl8])
              have g6 : hI h5 (q + 1 + 5) (5 * g + a) = nI (dX D g a - 1) := (rQ5.2.2.2.1 g a hg hl).2 ez
              rw [g6]
              have hil : it (wf D a) (wg D V a n) (V (3 + a)) < dT D a := it_lt (fun u hu => wf_lt y5 hl hu) (y7.wf.2.2.2 a hl) _
              refine ok_ieq (by omega) (by omega) (fun c4 => kk _ _ hl ⟨by rw [nI_1], hF3.trans hF5, ?_⟩) (fun c4 => ?_)
              · rw [hs, hot, decide_eq_true (show dX D g a = it (wf D a) (wg D V a n) (V (3 + a)) + 1 by omega)]
                simp
              · have e : othB D V i g n (a + 1) = false := by
                  rw [hs, decide_eq_false c1, decide_eq_false ez, decide_eq_false (show ¬ dX D g a = it (wf D a) (wg D V a n) (V (3 + a)) + 1 by omega)]
                  simp
                have e2 : setR D V i g n = -2 := by
                  unfold setR
                  rw [oth_f e hl, if_neg (by simp)]
                rw [e2]
                exact qM_gr (F.trans ((hF3.trans hF5).r.mono (fun a k e => ScM_T e))) a05
end P5
