/-! next, often, meet, soonest, longestGap, agree, drift: both sides -/
section P3
variable {h h1 : Hp} {x m c j tl nc : Nat} {D : DD} {V : Nat → Nat} {K Im : Nat → Nat → Nat} {T : Nat → Int32} {fa : Int32}
theorem ok_B_daysToCome (R : RB h x D V K c Im j T tl fa) (W : Wst D V K c Im j tl nc) (hW : 0 < dW D) : Ok (f_B_daysToCome x h) (fun u h' => u = x + 41 ∧ Fr (ScB x) h h' ∧ hS h' x = some (.inl 0) ∧ hS h' (x + 41) = some (.inl 5) ∧ hR h' x 3 = hR h x 3 ∧ hR h' x 5 = some (x + 36) ∧ ∃ o, hR h' x 3 = some o ∧ CX h' (x + 41) o (x + 36) D V (wf D)) := by
  obtain ⟨o, o', ho, LB, r3, r4, rO, rD, rV, rP, t1, t2, f1, sUs⟩ := id R; obtain ⟨⟨x1, x2, x3, x4, x5, x6, x7, x8, x9, x10, x11, x12, x13⟩, LR, LC, LK, LS, LG, LH⟩ := id LB
  have lc1 := LC.1
  have w1 := W.1.1.1
  have hv := W.2.1.v W.2.2.2.2.2.1
  unfold f_B_daysToCome
  (try unfold QB); (try unfold QM); repeat (first | (with_reducible refine ok_lt ?_) | ((with_reducible refine ok_gd ?_ ?_); first | assumption | exact zb0 | exact zb1 | ((with_reducible apply ai_of) <;> first | assumption | omega | decide) | exact ai_lit (by assumption) (by decide) (by decide) (by decide)) | (refine ok_bR (by assumption) ?_))
  refine ok_bd (ok_mono (ok_C_startFrom LC rO rV W.1.1 hv (by omega) (by omega)) ?_)
  intro _ h1 hx
  obtain ⟨hF, hC, h56⟩ := hx
  have e3 : hR h1 x 3 = some o := by rw [(hF.2.2.2 x 3 (fun e => by unfold sC at e; omega)).2.2]; exact r3
  have e5 : hR h1 x 5 = some (x + 36) := by rw [(hF.2.2.2 x 5 (fun e => by unfold sC at e; omega)).2.2]; exact x4
  have e9 : hR h1 x 9 = some (x + 41) := by rw [(hF.2.2.2 x 9 (fun e => by unfold sC at e; omega)).2.2]; exact x7
  have e1 : hS h1 x = some (.inl 0) := by rw [hF.2.1]; exact x1
  have C' : LayC h1 (x + 41) := LC.fr hF (fun a k e => Or.inl e)
  (try unfold QB); (try unfold QM); repeat (first | (with_reducible refine ok_lt ?_) | ((with_reducible refine ok_gd ?_ ?_); first | assumption | exact zb0 | exact zb1 | ((with_reducible apply ai_of) <;> first | assumption | omega | decide) | exact ai_lit (by assumption) (by decide) (by decide) (by decide)) | (refine ok_bR (by assumption) ?_))
  exact ok_ret ⟨rfl, hF.mono (fun a k e => ScB_C e), e1, C'.1, by rw [e3, r3], e5, o, e3, C', (h56 hW).1, (h56 hW).2, rO.fr hF (fun i k hi e => by unfold sC at e; omega) w1, rV.fr hF (fun k e => by unfold sC at e; omega), fun w hw => ⟨_, hC w hw⟩, W.1.1, hv, W.2.1.1⟩
theorem RM.dx (M : RM h m D V K c Im j T tl fa) (W : Wst D V K c Im j tl nc) (hW : 0 < dW D) : ∃ q, DX h m q D V ∧ m + 15 ≤ q := by
  obtain ⟨q, q1, q2, q3, q4⟩ := M.2.2.1 hW
  exact ⟨q, ⟨M.1, q1, by omega, q4, W.1.1, M.2.2.2.1, W.2.1.n W.2.2.2.2.2.1 (by decide)⟩, q2⟩
theorem ScM_X {a k : Nat} (e : sX m a k) : ScM m a k := by unfold sX at e; unfold ScM; omega
theorem Wst.fw (W : Wst D V K c Im j tl nc) {f : Nat} (hf : f < dF D) : 0 < dW D := by
  rcases Nat.eq_zero_or_pos (dW D) with e | e
  · have := (W.2.2.2.2.2.2 e).1
    omega
  · exact e
theorem q_next (W : Wst D V K c Im j tl nc) (R : RB h x D V K c Im j T tl fa) (f : Int32) : Pair x h m (fun h1 => RM h1 m D V K c Im j T tl fa) (f_B_next x f h) (f_m_next m f) := by
  obtain ⟨o, o', ho, LB, r3, r4, rO, rD, rV, rP, t1, t2, f1, sUs⟩ := id R; obtain ⟨⟨x1, x2, x3, x4, x5, x6, x7, x8, x9, x10, x11, x12, x13⟩, LR, LC, LK, LS, LG, LH⟩ := id LB
  have w2 := W.1.1.2.1
  have hz := fun e => (W.2.2.2.2.2.2 e).1
  cases hb : isN (dF D) f with
  | false =>
    refine ⟨-1, 1, by decide, ?_, fun h1 M => qM_st M (fun h0 M F _ => ?_)⟩
    · unfold f_B_next
      refine ok_gd x1 (ok_bde (e_B_hasFeast x1 r3 rO f) ?_)
      rw [hb]
      exact ok_t rfl (qB_ref Fr.rf x1)
    · refine ok_gd M.1.1 (ok_bde (e_m_isFeast M hz f) ?_)
      rw [hb]
      exact ok_t rfl (qM_ref F M.1.1)
  | true =>
    obtain ⟨i, hi, rfl⟩ := isN_ex (by omega) hb
    have hW := W.fw hi
    refine ⟨oI (fd (onW (wf D) D V i) 1 5000), 0, by decide, ?_, fun h1 M => qM_st M (fun h0 M F _ => ?_)⟩
    · unfold f_B_next
      refine ok_gd x1 (ok_bde (e_B_hasFeast x1 r3 rO _) ?_)
      rw [hb]
      refine ok_f (by decide) (ok_gd x1 (ok_bd (ok_mono (ok_B_daysToCome R W hW) ?_)))
      intro u h2 hx
      obtain ⟨rfl, hF, e1, e2, -, -, o2, e3, X⟩ := hx
      refine ok_gd e2 (ok_bd (ok_mono (ok_C_feastFrom X hi (a := 1) (b := 5000) (by decide) (by decide)) ?_))
      intro y h3 hx
      obtain ⟨rfl, rfl⟩ := hx
      exact qB_gr hF e1
    · refine ok_gd M.1.1 (ok_bde (e_m_isFeast M hz _) ?_)
      rw [hb]
      obtain ⟨q, X, hq⟩ := M.dx W hW
      refine ok_f (by decide) (ok_gd M.1.1 (ok_bd (ok_mono (ok_m_next1 X hi) ?_)))
      intro y h2 hx
      obtain ⟨rfl, hF⟩ := hx
      exact qM_gr (F.trans (hF.r.mono (fun a k e => ScM_X e))) (X.fk hF).1.1
theorem q_meet (W : Wst D V K c Im j tl nc) (R : RB h x D V K c Im j T tl fa) (f g : Int32) : Pair x h m (fun h1 => RM h1 m D V K c Im j T tl fa) (f_B_meet x f g h) (f_m_meet m f g) := by
  obtain ⟨o, o', ho, LB, r3, r4, rO, rD, rV, rP, t1, t2, f1, sUs⟩ := id R; obtain ⟨⟨x1, x2, x3, x4, x5, x6, x7, x8, x9, x10, x11, x12, x13⟩, LR, LC, LK, LS, LG, LH⟩ := id LB
  have w2 := W.1.1.2.1
  have hz := fun e => (W.2.2.2.2.2.2 e).1
  by_cases hall : isN (dF D) f = true ∧ isN (dF D) g = true ∧ f ≠ g
  · obtain ⟨hb, hc, hne⟩ := hall
    obtain ⟨i, hi, rfl⟩ := isN_ex (by omega) hb
    obtain ⟨i2, hi2, rfl⟩ := isN_ex (by omega) hc
    have hW := W.fw hi
    refine ⟨oI (fd (fun n => onW (wf D) D V i n && onW (wf D) D V i2 n) 1 5000), 0, by decide, ?_, fun h1 M => qM_st M (fun h0 M F _ => ?_)⟩
    · unfold f_B_meet
      refine ok_gd x1 (ok_bde (e_B_hasFeast x1 r3 rO _) ?_)
      rw [hb]
      refine ok_f (by decide) (ok_gd x1 (ok_bde (e_B_hasFeast x1 r3 rO _) ?_))
      rw [hc]
      refine ok_f (by decide) (ok_f hne (ok_gd x1 (ok_bd (ok_mono (ok_B_daysToCome R W hW) ?_))))
      intro u h2 hx
      obtain ⟨rfl, hF, e1, e2, -, -, o2, e3, X⟩ := hx
      refine ok_gd e2 ?_
      unfold f_C_meetingFrom
      refine ok_bd (ok_gd e2 (ok_bd (ok_mono (ok_C_firstDay X hi hi2 false (fun e => by cases e) (a := 1) (b := 5000) (by decide) (by decide)) ?_)))
      intro y h3 hx
      obtain ⟨rfl, rfl⟩ := hx
      refine ok_ret ?_
      rw [fd_congr (Q := fun n => onW (wf D) D V i n && onW (wf D) D V i2 n) (fun e _ _ => by unfold fdP; simp)]
      exact qB_gr hF e1
    · refine ok_gd M.1.1 (ok_bde (e_m_isFeast M hz _) ?_)
      rw [hb]
      refine ok_f (by decide) (ok_gd M.1.1 (ok_bde (e_m_isFeast M hz _) ?_))
      rw [hc]
      obtain ⟨q, X, hq⟩ := M.dx W hW
      refine ok_f (by decide) (ok_f hne (ok_gd M.1.1 (ok_bd (ok_mono (ok_m_nextOf X hi hi2) ?_))))
      intro y h2 hx
      obtain ⟨rfl, hF⟩ := hx
      exact qM_gr (F.trans (hF.r.mono (fun a k e => ScM_X e))) (X.fk hF).1.1
  · refine ⟨-1, 1, by decide, ?_, fun h1 M => qM_st M (fun h0 M F _ => ?_)⟩
    · unfold f_B_meet b_B_meet_21
      refine ok_gd x1 (ok_bde (e_B_hasFeast x1 r3 rO _) ?_)
      refine ok_ib (fun c1 => qB_ref Fr.rf x1) (fun c1 => ok_gd x1 (ok_bde (e_B_hasFeast x1 r3 rO _) ?_))
      refine ok_ib (fun c2 => qB_ref Fr.rf x1) (fun c2 => ok_t ?_ (qB_ref Fr.rf x1))
      exact Classical.byContradiction (fun c3 => hall ⟨c1, c2, c3⟩)
    · unfold b_m_meet_39
      refine ok_gd M.1.1 (ok_bde (e_m_isFeast M hz _) ?_)
      refine ok_ib (fun c1 => qM_ref F M.1.1) (fun c1 => ok_gd M.1.1 (ok_bde (e_m_isFeast M hz _) ?_))
      refine ok_ib (fun c2 => qM_ref F M.1.1) (fun c2 => ok_t ?_ (qM_ref F M.1.1))
      exact Classical.byContradiction (fun c3 => hall ⟨c1, c2, c3⟩)
theorem q_often (W : Wst D V K c Im j tl nc) (R : RB h x D V K c Im j T tl fa) (f n : Int32) : Pair x h m (fun h1 => RM h1 m D V K c Im j T tl fa) (f_B_often x f n h) (f_m_often m f n) := by
  obtain ⟨o, o', ho, LB, r3, r4, rO, rD, rV, rP, t1, t2, f1, sUs⟩ := id R; obtain ⟨⟨x1, x2, x3, x4, x5, x6, x7, x8, x9, x10, x11, x12, x13⟩, LR, LC, LK, LS, LG, LH⟩ := id LB
  have w2 := W.1.1.2.1
  have hz := fun e => (W.2.2.2.2.2.2 e).1
  cases hb : isN (dF D) f with
  | false =>
    refine ⟨-1, 1, by decide, ?_, fun h1 M => qM_st M (fun h0 M F _ => ?_)⟩
    · unfold f_B_often
      refine ok_gd x1 (ok_bde (e_B_hasFeast x1 r3 rO f) ?_)
      rw [hb]
      exact ok_t rfl (qB_ref Fr.rf x1)
    · refine ok_gd M.1.1 (ok_bde (e_m_isFeast M hz f) ?_)
      rw [hb]
      exact qM_dn F M.1.1
  | true =>
    obtain ⟨i, hi, rfl⟩ := isN_ex (by omega) hb
    have hW := W.fw hi
    rcases dy_cases n (lo := 0) (hi := 5000) (by decide) (by decide) with hn | ⟨n, hn1, hn2, rfl⟩
    · refine ⟨-1, 2, by decide, ?_, fun h1 M => qM_st M (fun h0 M F _ => ?_)⟩
      · unfold f_B_often b_B_often_25
        refine ok_gd x1 (ok_bde (e_B_hasFeast x1 r3 rO _) ?_)
        rw [hb]
        exact ok_f (by decide) (dyB_out hn (qB_ref Fr.rf x1))
      · refine ok_gd M.1.1 (ok_bde (e_m_isFeast M hz _) ?_)
        rw [hb]
        exact qM_do F M.1.1 hn
    · refine ⟨nI (cntN (fun e => onW (wf D) D V i (e + 1)) n), 0, by decide, ?_, fun h1 M => qM_st M (fun h0 M F _ => ?_)⟩
      · unfold f_B_often
        refine ok_gd x1 (ok_bde (e_B_hasFeast x1 r3 rO _) ?_)
        rw [hb]
        refine ok_f (by decide) (dyB_in (lo := 0) (hi := 5000) hn1 hn2 (by decide) (ok_gd x1 (ok_bd (ok_mono (ok_B_daysToCome R W hW) ?_))))
        intro u h2 hx
        obtain ⟨rfl, hF, e1, e2, -, -, o2, e3, X⟩ := hx
        refine ok_gd e2 (ok_bd (ok_mono (ok_C_feastsUntil X hi hn2) ?_))
        intro y h3 hx
        obtain ⟨rfl, rfl⟩ := hx
        exact qB_gr hF e1
      · refine ok_gd M.1.1 (ok_bde (e_m_isFeast M hz _) ?_)
        rw [hb]
        obtain ⟨q, X, hq⟩ := M.dx W hW
        refine qM_di (a := 0) (b := 5000) M.1.1 hn1 hn2 (by decide) (ok_gd M.1.1 (ok_bd (ok_mono (ok_m_works' X) ?_)))
        intro _ h2 hx
        obtain ⟨hF2, v2⟩ := hx
        refine ok_lt (ok_lt (ok_up n (fun a st h' => st = (m, nI i, nI n, nI (cntN (fun e => onW (wf D) D V i (e + 1)) a), nI a) ∧ Fk (sX m) h0 h' ∧ RepX h' (m + 3) (tnI D a V)) ?_ FU 0 _ _ (Nat.zero_le _) ⟨rfl, hF2, v2⟩ (by show _ < 10000; omega)))
        intro k a st h' ha hI' kk
        obtain ⟨rfl, hF3, v3⟩ := hI'
        have X3 := X.fk hF3
        show Ok (b_m_often_40 k m (nI i) (nI n) (nI (cntN (fun e => onW (wf D) D V i (e + 1)) a)) (nI a) h') _
        unfold b_m_often_40 b_m_often_66
        refine ok_it ha (by omega) (fun e => ?_) (fun hl => ?_)
        · rw [e]
          exact qM_gr (F.trans (hF3.r.mono (fun a k e => ScM_X e))) X3.1.1
        · refine ok_gd X3.1.1 (ok_bd (ok_mono (ok_m_step X3 (by omega) v3) ?_))
          intro _ h4 hx4
          obtain ⟨hF4, v4⟩ := hx4
          have X4 := X3.fk hF4
          refine ok_gd X4.1.1 (ok_bde (e_m_onD X4 (n := a + 1) (by omega) v4 hi) ?_)
          have hs : cntN (fun e => onW (wf D) D V i (e + 1)) (a + 1) = cntN (fun e => onW (wf D) D V i (e + 1)) a + (if onW (wf D) D V i (a + 1) = true then 1 else 0) := rfl
          refine ok_ib (fun c1 => ok_lt (kk _ _ hl ⟨?_, hF3.trans hF4, v4⟩)) (fun c1 => ok_lt (kk _ _ hl ⟨?_, hF3.trans hF4, v4⟩))
          · rw [hs, c1, nI_1, Int32.add_zero]
            rfl
          · rw [hs, c1, nI_1, nI_1]
            rfl
theorem q_soonest (W : Wst D V K c Im j tl nc) (R : RB h x D V K c Im j T tl fa) : Pair x h m (fun h1 => RM h1 m D V K c Im j T tl fa) (f_B_soonest x h) (f_m_soonest m) := by
  obtain ⟨o, o', ho, LB, r3, r4, rO, rD, rV, rP, t1, t2, f1, sUs⟩ := id R; obtain ⟨⟨x1, x2, x3, x4, x5, x6, x7, x8, x9, x10, x11, x12, x13⟩, LR, LC, LK, LS, LG, LH⟩ := id LB
  have w1 := W.1.1.1
  have w2 := W.1.1.2.1
  rcases Nat.eq_zero_or_pos (dW D) with hW | hW
  · refine ⟨-1, 1, by decide, ?_, fun h1 M => qM_st M (fun h0 M F _ => ?_)⟩
    · unfold f_B_soonest
      refine ok_gd x1 (ok_bde (e_B_hasOrrery x1 r3 rO w1) ?_)
      rw [decide_eq_false (by omega)]
      exact ok_t rfl (qB_ref Fr.rf x1)
    · exact ok_gd M.1.1 (ok_t (M.2.1 hW) (qM_ref F M.1.1))
  · refine ⟨oI (sN (fun f => fd (onW (wf D) D V f) 1 5000) (dF D)).1, 0, by decide, ?_, fun h1 M => qM_st M (fun h0 M F _ => ?_)⟩
    · unfold f_B_soonest
      refine ok_gd x1 (ok_bde (e_B_hasOrrery x1 r3 rO w1) ?_)
      rw [decide_eq_true hW]
      refine ok_f (by decide) (ok_gd x1 (ok_bd (ok_mono (ok_B_daysToCome R W hW) ?_)))
      intro u h2 hx
      obtain ⟨rfl, hF, e1, e2, -, -, o2, e3, X⟩ := hx
      refine ok_gd e2 (ok_bd (ok_mono (ok_C_soonestFeast X) ?_))
      intro y h3 hx
      obtain ⟨rfl, rfl⟩ := hx
      exact qB_gr hF e1
    · obtain ⟨q, X, hq⟩ := M.dx W hW
      refine ok_gd M.1.1 (ok_f (by rw [X.2.1]; simp) (ok_lt (ok_lt (ok_lt ?_))))
      generalize hQ : (fun f => fd (onW (wf D) D V f) 1 5000) = Q
      have hb : ∀ i, (sN Q i).2 ≤ 5001 := by
        intro i
        induction i with
        | zero => exact Nat.le_refl 5001
        | succ i ih =>
          unfold sN
          cases e : Q i with
          | none => exact ih
          | some n =>
            show (if n < (sN Q i).2 then (some i, n) else sN Q i).2 ≤ 5001
            by_cases q : n < (sN Q i).2
            · rw [if_pos q]
              show n ≤ 5001
              omega
            · rw [if_neg q]
              exact ih
      refine ok_up (dF D) (fun a st h' => st = (m, oI (sN Q a).1, nI (sN Q a).2, nI a) ∧ Fk (sX m) h0 h') ?_ FU 0 _ _ (Nat.zero_le _) ⟨rfl, Fk.rf⟩ (by show _ < 10000; omega)
      intro k a st h' ha hI' kk
      obtain ⟨rfl, hF3⟩ := hI'
      have X3 := X.fk hF3
      have rQ := X3.2.2.2.1
      show Ok (b_m_soonest_27 k m (oI (sN Q a).1) (nI (sN Q a).2) (nI a) h') _
      unfold b_m_soonest_27 b_m_soonest_67
      refine ok_gd X3.1.1 (ok_bR X3.2.1 (ok_gd rQ.1.1 (ok_lt ?_)))
      rw [rQ.2.1.2.2.2.2.1]
      refine ok_it ha (by omega) (fun e => ?_) (fun hl => ?_)
      · rw [e]
        exact qM_gr (F.trans (hF3.r.mono (fun a k e => ScM_X e))) X3.1.1
      · refine ok_gd X3.1.1 (ok_bd (ok_mono (ok_m_next1 X3 hl) ?_))
        intro y h4 hx4
        obtain ⟨rfl, hF4⟩ := hx4
        have hQi : fd (onW (wf D) D V a) 1 5000 = Q a := by rw [← hQ]
        rw [hQi]
        have hs : sN Q (a + 1) = match Q a with
          | some n => if n < (sN Q a).2 then (some a, n) else sN Q a
          | none => sN Q a := rfl
        have hba := hb a
        cases e : Q a with
        | none =>
          rw [e] at hs
          refine ok_t rfl (kk _ _ hl ⟨?_, hF3.trans hF4⟩)
          rw [hs, nI_1]
        | some n =>
          rw [e] at hs
          have hs : sN Q (a + 1) = if n < (sN Q a).2 then (some a, n) else sN Q a := hs
          have hn : n < 5001 := by
            rcases fd_cases (onW (wf D) D V a) 5000 1 with ⟨g1, g2⟩ | ⟨n2, g1, g2, g3, g4, g5⟩
            · rw [hQi, e] at g1
              cases g1
            · rw [hQi, e] at g1
              cases g1
              omega
          refine ok_f (oI_ne (by omega)) ?_
          show Ok (if nI n < nI (sN Q a).2 then _ else _) _
          refine ok_ilt (by omega) (by omega) (fun c1 => kk _ _ hl ⟨?_, hF3.trans hF4⟩) (fun c1 => kk _ _ hl ⟨?_, hF3.trans hF4⟩)
          · rw [hs, if_pos c1, nI_1]
            rfl
          · rw [hs, if_neg (by omega), nI_1]
theorem q_longestGap (W : Wst D V K c Im j tl nc) (R : RB h x D V K c Im j T tl fa) (f : Int32) : Pair x h m (fun h1 => RM h1 m D V K c Im j T tl fa) (f_B_longestGap x f h) (f_m_longestGap m f) := by
  obtain ⟨o, o', ho, LB, r3, r4, rO, rD, rV, rP, t1, t2, f1, sUs⟩ := id R; obtain ⟨⟨x1, x2, x3, x4, x5, x6, x7, x8, x9, x10, x11, x12, x13⟩, LR, LC, LK, LS, LG, LH⟩ := id LB
  have w2 := W.1.1.2.1
  have hz := fun e => (W.2.2.2.2.2.2 e).1
  cases hb : isN (dF D) f with
  | false =>
    refine ⟨-1, 1, by decide, ?_, fun h1 M => qM_st M (fun h0 M F _ => ?_)⟩
    · unfold f_B_longestGap
      refine ok_gd x1 (ok_bde (e_B_hasFeast x1 r3 rO f) ?_)
      rw [hb]
      exact ok_t rfl (qB_ref Fr.rf x1)
    · refine ok_gd M.1.1 (ok_bde (e_m_isFeast M hz f) ?_)
      rw [hb]
      exact ok_t rfl (qM_ref F M.1.1)
  | true =>
    obtain ⟨i, hi, rfl⟩ := isN_ex (by omega) hb
    have hW := W.fw hi
    refine ⟨mI (gq (onW (wf D) D V i) 5000).2, 0, by decide, ?_, fun h1 M => qM_st M (fun h0 M F _ => ?_)⟩
    · unfold f_B_longestGap
      refine ok_gd x1 (ok_bde (e_B_hasFeast x1 r3 rO _) ?_)
      rw [hb]
      refine ok_f (by decide) (ok_gd x1 (ok_bd (ok_mono (ok_B_daysToCome R W hW) ?_)))
      intro u h2 hx
      obtain ⟨rfl, hF, e1, e2, -, -, o2, e3, X⟩ := hx
      refine ok_gd e2 (ok_bd (ok_mono (ok_C_widestGap X hi) ?_))
      intro y h3 hx
      obtain ⟨rfl, rfl⟩ := hx
      exact qB_gr hF e1
    · refine ok_gd M.1.1 (ok_bde (e_m_isFeast M hz _) ?_)
      rw [hb]
      obtain ⟨q, X, hq⟩ := M.dx W hW
      refine ok_f (by decide) (ok_gd M.1.1 (ok_bd (ok_mono (ok_m_works' X) ?_)))
      intro _ h2 hx
      obtain ⟨hF2, v2⟩ := hx
      generalize hP : onW (wf D) D V i = P
      refine ok_lt (ok_lt (ok_lt (ok_up 5000 (fun a st h' => st = (m, nI i, xI' (gq P a).1, mI (gq P a).2, nI (a + 1)) ∧ Fk (sX m) h0 h' ∧ RepX h' (m + 3) (tnI D a V)) ?_ FU 0 _ _ (Nat.zero_le _) ⟨rfl, hF2, v2⟩ (by show _ < 10000; omega))))
      intro k a st h' ha hI' kk
      obtain ⟨rfl, hF3, v3⟩ := hI'
      have X3 := X.fk hF3
      show Ok (b_m_longestGap_31 k m (nI i) (xI' (gq P a).1) (mI (gq P a).2) (nI (a + 1)) h') _
      unfold b_m_longestGap_31 b_m_longestGap_73 b_m_longestGap_76
      have hgl := gq_le P a
      refine ok_ilt (a := 5000) (by decide) (by omega) (fun e => ?_) (fun hl => ?_)
      · rw [show a = 5000 by omega]
        exact qM_gr (F.trans (hF3.r.mono (fun a k e => ScM_X e))) X3.1.1
      · refine ok_gd X3.1.1 (ok_bd (ok_mono (ok_m_step X3 (by omega) v3) ?_))
        intro _ h4 hx4
        obtain ⟨hF4, v4⟩ := hx4
        have X4 := X3.fk hF4
        refine ok_gd X4.1.1 (ok_bde (e_m_onD X4 (n := a + 1) (by omega) v4 hi) ?_)
        rw [hP]
        refine ok_ib (fun c1 => kk _ _ (by omega) ⟨?_, hF3.trans hF4, v4⟩) (fun c1 => ?_)
        · have e1 : gq P (a + 1) = gq P a := if_neg (by rw [c1]; simp)
          rw [e1, nI_1]
        · have e1 := gq_on c1
          have eX : xI' (a + 1) = nI (a + 1) := if_neg (by omega)
          by_cases z : (gq P a).1 = 0
          · refine ok_t (by rw [z]; rfl) (kk _ _ (by omega) ⟨?_, hF3.trans hF4, v4⟩)
            rw [e1, if_pos z, nI_1]
            show _ = (m, nI i, xI' (a + 1), mI (gq P a).2, _)
            rw [eX]
          · have eZ : xI' (gq P a).1 = nI (gq P a).1 := if_neg z
            rw [eZ]
            refine ok_f (nI_nm1 (by omega)) ?_
            rw [pk_sub (by omega)]
            have hle : nI (a + 1 - (gq P a).1) ≤ mI (gq P a).2 ↔ a + 1 - (gq P a).1 ≤ (gq P a).2 := by
              unfold mI
              by_cases z2 : (gq P a).2 = 0
              · rw [if_pos z2, z2]
                refine ⟨fun g => ?_, fun g => by omega⟩
                exact absurd (Int32.lt_of_lt_of_le (show (-2 : Int32) < 0 by decide) (nI_pos' (n := a + 1 - (gq P a).1) (by omega))) (Int32.not_lt.mpr g)
              · rw [if_neg z2]
                exact nI_leI (by omega) (by omega)
            refine ok_ite (fun c2 => kk _ _ (by omega) ⟨?_, hF3.trans hF4, v4⟩) (fun c2 => ok_lt (kk _ _ (by omega) ⟨?_, hF3.trans hF4, v4⟩))
            · have := hle.mp c2
              rw [e1, if_neg z, nI_1, Nat.max_eq_left this]
              show _ = (m, nI i, xI' (a + 1), _, _)
              rw [eX]
            · have : ¬ a + 1 - (gq P a).1 ≤ (gq P a).2 := fun g => c2 (hle.mpr g)
              rw [e1, if_neg z, nI_1, Nat.max_eq_right (by omega)]
              show _ = (m, nI i, xI' (a + 1), mI (a + 1 - (gq P a).1), _)
              rw [eX]
              unfold mI
              rw [if_neg (by omega)]
theorem e_O_hasSky {o : Nat} (rO : RepO h o D) (W : Wf D) {f : Nat} (hf : f < dF D) : f_O_hasSky o (nI f) h = some (bI (decide (0 < dEv D f)), h) := by
  obtain ⟨⟨o1, ⟨o2, o3, o4, o5, o6, o7, o8, o9, o10⟩, o11, o12, o13, o14, o15, o16⟩, ⟨p1, p2, p3, p4, p5, p6, p7⟩, oW, oX, oK, oE, oS⟩ := id rO
  have w2 := W.2.1
  have hE := W.2.2.2.2.2.2.2.2.2.2.2.1 f hf
  have q6 := o13 6 (by decide) (by decide)
  have h4 : f < 4 := by omega
  refine ok_eq ?_
  unfold f_O_hasSky
  (try unfold QB); (try unfold QM); repeat (first | (with_reducible refine ok_lt ?_) | ((with_reducible refine ok_gd ?_ ?_); first | assumption | exact zb0 | exact zb1 | ((with_reducible apply ai_of) <;> first | assumption | omega | decide) | exact ai_lit (by assumption) (by decide) (by decide) (by decide)) | (refine ok_bR (by assumption) ?_))
  (try simp (disch := omega) only [nI_clamp, cl0, cl1, cl2, cl3, cl4, cl5, cl6, cl7, cl8])
  rw [(oE f hf).1]
  refine ok_ile (b := 0) (by omega) (by decide) (fun c => ok_gd zb0 (ok_ret ⟨?_, rfl⟩)) (fun c => ok_gd zb1 (ok_ret ⟨?_, rfl⟩))
  · rw [decide_eq_false (by omega)]
    rfl
  · rw [decide_eq_true c]
    rfl
theorem e_m_refusesSky (M : RM h m D V K c Im j T tl fa) (W : Wst D V K c Im j tl nc) (f : Int32) : (isN (dF D) f = false → f_m_refusesSky m f h = some (1, h)) ∧ ∀ i, i < dF D → f = nI i → f_m_refusesSky m f h = some (if dEv D i = 0 then 6 else 0, h) := by
  have hz := fun e => (W.2.2.2.2.2.2 e).1
  refine ⟨fun hb => ok_eq ?_, fun i hi hf => ok_eq ?_⟩
  · unfold f_m_refusesSky
    refine ok_gd M.1.1 (ok_bde (e_m_isFeast M hz f) ?_)
    rw [hb]
    exact ok_t rfl (ok_ret ⟨rfl, rfl⟩)
  · subst hf
    have w2 := W.1.1.2.1
    have hE := W.1.1.2.2.2.2.2.2.2.2.2.2.2.1 i hi
    unfold f_m_refusesSky
    refine ok_gd M.1.1 (ok_bde (e_m_isFeast M hz _) ?_)
    rw [isN_of hi (by omega)]
    refine ok_f (by decide) ?_
    obtain ⟨LM, z0, z3, rX, rR, u1, u2, g1⟩ := id M; obtain ⟨a0, ⟨a1, a2, a3, a4, a5, a6, a7, a8, a9, a10, a11, a12, a13⟩, s1, s2, s3, s4, s5, s6, s7, s8, s9, s10, s11, s12, s13⟩ := id LM
    obtain ⟨q, q1, q2, q2', rQ⟩ := z3 (W.fw hi)
    obtain ⟨⟨b1, b2, b3, b4, b5, b6, b7, b8, b9, b10, b11⟩, ⟨c0, c1, c2, c3, c4, c5, c6, c7, c8⟩, qW, qX, qE, qK, qS⟩ := id rQ; have d0 := b2 0 (by decide); have d1 := b2 1 (by decide); have d2 := b2 2 (by decide); have d3 := b2 3 (by decide); have d4 := b2 4 (by decide); have d5 := b2 5 (by decide); have d6 := b2 6 (by decide); have d7 := b2 7 (by decide); have d8 := b2 8 (by decide); have d9 := b2 9 (by decide); have d10 := b2 10 (by decide); have d11 := b2 11 (by decide); have d12 := b2 12 (by decide); have d13 := b2 13 (by decide); have d14 := b2 14 (by decide); have d15 := b2 15 (by decide); have d16 := b2 16 (by decide); have e0 := b3 0 (by decide); have e1 := b3 1 (by decide); have e2 := b3 2 (by decide); have e3 := b3 3 (by decide); have f0 := b6 0 (by decide); have f1 := b6 1 (by decide); have f2 := b6 2 (by decide); have f3 := b6 3 (by decide); have f4 := b6 4 (by decide); have f5 := b6 5 (by decide)
    have h4 : i < 4 := by omega
    (try unfold QB); (try unfold QM); repeat (first | (with_reducible refine ok_lt ?_) | ((with_reducible refine ok_gd ?_ ?_); first | assumption | exact zb0 | exact zb1 | ((with_reducible apply ai_of) <;> first | assumption | omega | decide) | exact ai_lit (by assumption) (by decide) (by decide) (by decide)) | (refine ok_bR (by assumption) ?_))
    (try simp (disch := omega) only [nI_clamp, cl0, cl1, cl2, cl3, cl4, cl5, cl6, cl7, cl8])
    have g : hI h (q + 1 + 7) i = nI (dEv D i) := (qE i hi).1
    rw [g]
    refine ok_ieq (b := 0) (by omega) (by decide) (fun c => ok_ret ⟨?_, rfl⟩) (fun c => ok_ret ⟨?_, rfl⟩)
    · rw [if_pos c]
    · rw [if_neg c]
end P3
