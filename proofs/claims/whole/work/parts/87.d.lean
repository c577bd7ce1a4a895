/-! fits, fitAt, look, lookLeaves, judge: both sides -/
section P10
variable {h h1 : Hp} {x m c j tl nc : Nat} {D : DD} {V : Nat → Nat} {K Im : Nat → Nat → Nat} {T : Nat → Int32} {fa : Int32}
theorem RB.sus {h' : Hp} (R : RB h x D V K c Im j T tl fa) (W : Wf D) (F : Fk (sSw (x + 71)) h h') (P : Sus h' (x + 71) D) : RB h' x D V K c Im j T tl fa := by
  obtain ⟨o, o', ho, L, r3, r4, rO, rD, rV, rP, t1, t2, f1, -⟩ := R
  have no : ∀ {a k}, a < x + 71 → ¬ sSw (x + 71) a k := fun ha e => by unfold sSw at e; omega
  have L' : LayB h' x := by
    obtain ⟨l1, l2, l3, l4, l5, l6, l7⟩ := L
    refine ⟨?_, ?_, l3.fr F.r (fun a k e => by unfold sSw at e; omega), ?_, ?_, ?_, ?_⟩
    · unfold LayX
      rw [F.2.1, F.2.2.2.1]
      exact l1
    · unfold LayRd
      rw [F.2.1, F.2.2.2.1]
      exact l2
    · unfold LayK
      rw [F.2.1, F.2.2.2.1]
      exact l4
    · unfold LayS
      rw [F.2.1, F.2.2.2.1]
      exact l5
    · unfold LayG
      rw [F.2.1, F.2.2.2.1]
      exact l6
    · unfold LayH
      rw [F.2.1, F.2.2.2.1]
      exact l7
  refine ⟨o, o', ho, L', by rw [F.2.2.2.1]; exact r3, by rw [F.2.2.2.1]; exact r4, rO.fk F (fun i k hi => no (by omega)) W.1, rD.fr F.r (fun i k hi => no (by omega)), rV.fk F (fun k => no (by omega)), rP.fr F.r (fun i k hi => no (by omega)), ?_, fun p hp => ?_, ?_, P⟩
  · rw [(F.2.2.2.2 _ _ (no (by omega))).1]
    exact t1
  · rw [(F.2.2.2.2 _ _ (no (by omega))).1]
    exact t2 p hp
  · rw [(F.2.2.2.2 _ _ (no (by omega))).1]
    exact f1
theorem wB (W : Wst D V K c Im j tl nc) (R : RB h x D V K c Im j T tl fa) (hsu : 0 < dSu D) {o : Nat} (r3 : hR h x 3 = some o) : Ok (f_S_weigh (x + 71) o h) (fun _ h2 => Fr (fun a _ => inB x a) h h2 ∧ RB h2 x D V K c Im j T tl fa ∧ SusK h2 (x + 71) D) := by
  obtain ⟨o2, o', ho, LB, r32, r4, rO, rD, rV, rP, t1, t2, f1, sUs⟩ := id R
  have e0 : o2 = o := by rw [r3] at r32; exact (Option.some.inj r32).symm
  subst e0
  refine ok_mono (ok_S_weigh LB.2.2.2.2.1 rO W.1 (by omega) hsu sUs) (fun _ h2 hh => ?_)
  exact ⟨hh.1.r.mono (fun a k e => by unfold sSw at e; unfold inB; omega), R.sus W.1.1 hh.1 (Or.inr hh.2), hh.2⟩
/-- the class's end: an answer behind a state that is still the same -/
theorem rB_fin {t : Int32} (W : Wst D V K c Im j tl nc) (F : Fr (fun a _ => inB x a) h h1) (R : RB h1 x D V K c Im j T tl fa) : Fr (fun a _ => inB x a) h (uI h1 x 15 t) ∧ RB (uI h1 x 15 t) x D V K c Im j T tl fa ∧ hI (uI h1 x 15 t) x 15 = t :=
  ⟨F.trans (fr_uI (by unfold inB; omega)), R.fr W.1.1 (fr_uI (S := ScB x) ScB_15) (fun a k e => Or.inl e), hI_uIs⟩
theorem rM_fin {t : Int32} (F : Fr (ScM m) h h1) (M : RM h m D V K c Im j T tl fa) : Fr (fun a _ => inM m a) h (uI (uI h1 m 1 t) m 2 (-1)) ∧ RM (uI (uI h1 m 1 t) m 2 (-1)) m D V K c Im j T tl fa ∧ hI (uI (uI h1 m 1 t) m 2 (-1)) m 1 = t ∧ hI (uI (uI h1 m 1 t) m 2 (-1)) m 2 = -1 := by
  have g := qM_fin (t := t) F
  exact ⟨g.1.mono (fun a k e => ScM_in e), M.fr g.1 (fun a k e => Or.inl e), g.2⟩
theorem e_B_suspectTrouble (W : Wst D V K c Im j tl nc) {o : Nat} (x1 : hS h x = some (.inl 0)) (r3 : hR h x 3 = some o) (rO : RepO h o D) : f_B_suspectTrouble x h = some (if dW D = 0 then 1 else if dSu D = 0 then 6 else 0, h) := by
  have w1 := W.1.1.1
  have w7 := W.1.1.2.2.2.2.2.2.1
  refine ok_eq ?_
  unfold f_B_suspectTrouble
  refine ok_gd x1 (ok_bde (e_B_hasOrrery x1 r3 rO w1) (ok_ib (fun c1 => ok_ret ⟨?_, rfl⟩) (fun c1 => ?_)))
  · have := of_decide_eq_false c1
    rw [if_pos (by omega)]
  · have := of_decide_eq_true c1
    rw [if_neg (by omega)]
    refine ok_gd x1 (ok_bR r3 (ok_gd rO.1.1 (ok_lt ?_)))
    rw [rO.2.1.2.2.2.2.2.1]
    exact ok_ix (by omega) (fun ez => ok_ret ⟨by rw [if_pos ez], rfl⟩) (fun ez => ok_ret ⟨by rw [if_neg ez], rfl⟩)
theorem e_m_refusesSuspect (W : Wst D V K c Im j tl nc) (M : RM h m D V K c Im j T tl fa) : f_m_refusesSuspect m h = some (if dW D = 0 then 1 else if dSu D = 0 then 6 else 0, h) := by
  have w1 := W.1.1.1
  have w7 := W.1.1.2.2.2.2.2.2.1
  refine ok_eq ?_
  unfold f_m_refusesSuspect
  rcases Nat.eq_zero_or_pos (dW D) with hW | hW
  · rw [if_pos hW]
    exact ok_gd M.1.1 (ok_t (M.2.1 hW) (ok_ret ⟨rfl, rfl⟩))
  · rw [if_neg (show ¬ dW D = 0 by omega)]
    obtain ⟨q, q1, q2, q2', rQ⟩ := M.2.2.1 hW
    refine ok_gd M.1.1 (ok_f (M.nn hW) (ok_gd M.1.1 (ok_bR q1 (ok_gd rQ.1.1 (ok_lt ?_)))))
    rw [rQ.2.1.2.2.2.2.2.2.2.1]
    exact ok_ix (by omega) (fun ez => ok_ret ⟨by rw [if_pos ez], rfl⟩) (fun ez => ok_ret ⟨by rw [if_neg ez], rfl⟩)
theorem RM.ox (M : RM h m D V K c Im j T tl fa) (W : Wst D V K c Im j tl nc) (hW : 0 < dW D) : ∃ q, OX h m q D := by
  obtain ⟨q, q1, q2, q3, q4⟩ := M.2.2.1 hW
  exact ⟨q, M.1, q1, by omega, q4, W.1.1⟩
theorem ScM_S {a k : Nat} (e : sSm m a k) : ScM m a k := by unfold sSm at e; unfold ScM; omega
/-- who has a suspect -/
theorem sus_cases (W : Wst D V K c Im j tl nc) : ((if dW D = 0 then 1 else if dSu D = 0 then 6 else 0 : Int32) = 0 ∧ 0 < dW D ∧ 0 < dSu D) ∨ ∃ t : Int32, (if dW D = 0 then 1 else if dSu D = 0 then 6 else 0 : Int32) = t ∧ t ≠ 0 ∧ t ≠ 4 ∧ ¬ t ≤ 0 := by
  by_cases q : dW D = 0
  · exact Or.inr ⟨1, if_pos q, by decide, by decide, by decide⟩
  · by_cases q2 : dSu D = 0
    · exact Or.inr ⟨6, by rw [if_neg q, if_pos q2], by decide, by decide, by decide⟩
    · exact Or.inl ⟨by rw [if_neg q, if_neg q2], by omega, by omega⟩
theorem a_fits (W : Wst D V K c Im j tl nc) (hn : nc < 512) (R : RB h x D V K c Im j T tl fa) : PairA x h m (fun h1 => RM h1 m D V K c Im j T tl fa) T tl fa nc (f_B_fits x h) (f_m_fits m) := by
  rcases sus_cases W with ⟨e0, hW, hsu⟩ | ⟨t, e0, t0, t4, tl0⟩
  · refine ⟨nI (suN D), 0, D, V, K, c, Im, j, by decide, W.up hn, ?_, fun h1 M => ?_⟩
    · obtain ⟨o, o', ho, LB, r3, r4, rO, rD, rV, rP, t1, t2, f1, sUs⟩ := id R; obtain ⟨⟨x1, x2, x3, x4, x5, x6, x7, x8, x9, x10, x11, x12, x13⟩, LR, LC, LK, LS, LG, LH⟩ := id LB
      unfold f_B_fits
      refine ok_gd x1 (ok_bde (e_B_suspectTrouble W x1 r3 rO) ?_)
      rw [e0]
      refine ok_t rfl (ok_gd x1 (ok_bR x9 (ok_gd x1 (ok_bR r3 (ok_gd LS.1 (ok_bd (ok_mono (wB W R hsu r3) ?_)))))))
      intro _ h2 hx
      obtain ⟨hF2, R2, S2⟩ := hx
      obtain ⟨-, -, -, LB2, -⟩ := id R2
      refine ok_gd LB2.1.1 (ok_bR LB2.1.2.2.2.2.2.2.2.2.1 (ok_gd LB2.2.2.2.2.1.1 (ok_lt ?_)))
      rw [S2.2.2.2.1]
      exact ok_gd LB2.1.1 (ok_bde (e_B_grant LB2.1.1) (ok_ret ⟨rfl, rB_fin W hF2 R2⟩))
    · have F0 : Fr (ScM m) h1 (uI h1 m 0 0) := fr_uI (ScM_l (by decide))
      have M0 := M.fr F0 (fun a k e => Or.inl e)
      refine ok_gd M.1.1 (ok_lt (ok_gd M0.1.1 (ok_bde (e_m_refusesSuspect W M0) ?_)))
      rw [e0]
      obtain ⟨q, X⟩ := M0.ox W hW
      refine ok_t (by decide) (ok_gd M0.1.1 (ok_bd (ok_mono (ok_m_fitting X hsu (-1)) ?_)))
      intro _ h2 hx
      obtain ⟨-, hF2, e30, -⟩ := hx
      have a0 : hS h2 m = some (.inl 11) := by rw [hF2.2.1]; exact M.1.1
      refine ok_gd a0 (ok_lt ?_)
      rw [e30]
      exact ok_gd a0 (ok_bde (e_m_good a0) (ok_ret ⟨rfl, rM_fin (F0.trans (hF2.r.mono (fun a k e => ScM_S e))) M⟩))
  · refine Pair.a W hn R ⟨-1, t, t4, ?_, fun h1 M => qM_st M (fun h0 M F _ => ?_)⟩
    · obtain ⟨o, o', ho, LB, r3, r4, rO, rD, rV, rP, t1, t2, f1, sUs⟩ := id R; obtain ⟨⟨x1, x2, x3, x4, x5, x6, x7, x8, x9, x10, x11, x12, x13⟩, LR, LC, LK, LS, LG, LH⟩ := id LB
      unfold f_B_fits
      refine ok_gd x1 (ok_bde (e_B_suspectTrouble W x1 r3 rO) ?_)
      rw [e0]
      exact ok_f t0 (qB_ref Fr.rf x1)
    · refine ok_gd M.1.1 (ok_bde (e_m_refusesSuspect W M) ?_)
      rw [e0]
      exact ok_f tl0 (qM_ref F M.1.1)
theorem a_look (W : Wst D V K c Im j tl nc) (hn : nc < 512) (R : RB h x D V K c Im j T tl fa) : PairA x h m (fun h1 => RM h1 m D V K c Im j T tl fa) T tl fa nc (f_B_look x h) (f_m_look m) := by
  rcases sus_cases W with ⟨e0, hW, hsu⟩ | ⟨t, e0, t0, t4, tl0⟩
  · refine ⟨suA (suL D 99) (suL D 99).1, 0, D, V, K, c, Im, j, by decide, W.up hn, ?_, fun h1 M => ?_⟩
    · obtain ⟨o, o', ho, LB, r3, r4, rO, rD, rV, rP, t1, t2, f1, sUs⟩ := id R; obtain ⟨⟨x1, x2, x3, x4, x5, x6, x7, x8, x9, x10, x11, x12, x13⟩, LR, LC, LK, LS, LG, LH⟩ := id LB
      unfold f_B_look
      refine ok_gd x1 (ok_bde (e_B_suspectTrouble W x1 r3 rO) ?_)
      rw [e0]
      refine ok_t rfl (ok_gd x1 (ok_bR x9 (ok_gd x1 (ok_bR r3 (ok_gd LS.1 (ok_bd (ok_mono (wB W R hsu r3) ?_)))))))
      intro _ h2 hx
      obtain ⟨hF2, R2, S2⟩ := hx
      obtain ⟨-, -, -, LB2, -⟩ := id R2
      refine ok_gd LB2.1.1 (ok_bR LB2.1.2.2.2.2.2.2.2.2.1 (ok_gd LB2.2.2.2.2.1.1 (ok_lt ?_)))
      rw [S2.2.2.2.2.2.1]
      exact ok_gd LB2.1.1 (ok_bde (e_B_grant LB2.1.1) (ok_ret ⟨rfl, rB_fin W hF2 R2⟩))
    · have F0 : Fr (ScM m) h1 (uI h1 m 0 0) := fr_uI (ScM_l (by decide))
      have M0 := M.fr F0 (fun a k e => Or.inl e)
      refine ok_gd M.1.1 (ok_lt (ok_gd M0.1.1 (ok_bde (e_m_refusesSuspect W M0) ?_)))
      rw [e0]
      obtain ⟨q, X⟩ := M0.ox W hW
      refine ok_t (by decide) (ok_gd M0.1.1 (ok_bd (ok_mono (ok_m_looks X hsu) ?_)))
      intro y h2 hx
      obtain ⟨rfl, hF2, -⟩ := hx
      have a0 : hS h2 m = some (.inl 11) := by rw [hF2.2.1]; exact M.1.1
      exact ok_gd a0 (ok_bde (e_m_good a0) (ok_ret ⟨rfl, rM_fin (F0.trans (hF2.r.mono (fun a k e => ScM_S e))) M⟩))
  · refine Pair.a W hn R ⟨-1, t, t4, ?_, fun h1 M => qM_st M (fun h0 M F _ => ?_)⟩
    · obtain ⟨o, o', ho, LB, r3, r4, rO, rD, rV, rP, t1, t2, f1, sUs⟩ := id R; obtain ⟨⟨x1, x2, x3, x4, x5, x6, x7, x8, x9, x10, x11, x12, x13⟩, LR, LC, LK, LS, LG, LH⟩ := id LB
      unfold f_B_look
      refine ok_gd x1 (ok_bde (e_B_suspectTrouble W x1 r3 rO) ?_)
      rw [e0]
      exact ok_f t0 (qB_ref Fr.rf x1)
    · refine ok_gd M.1.1 (ok_bde (e_m_refusesSuspect W M) ?_)
      rw [e0]
      exact ok_f tl0 (qM_ref F M.1.1)
theorem a_lookLeaves (W : Wst D V K c Im j tl nc) (hn : nc < 512) (R : RB h x D V K c Im j T tl fa) : PairA x h m (fun h1 => RM h1 m D V K c Im j T tl fa) T tl fa nc (f_B_lookLeaves x h) (f_m_lookLeaves m) := by
  rcases sus_cases W with ⟨e0, hW, hsu⟩ | ⟨t, e0, t0, t4, tl0⟩
  · refine ⟨suA (suL D 99) (suL D 99).2, 0, D, V, K, c, Im, j, by decide, W.up hn, ?_, fun h1 M => ?_⟩
    · obtain ⟨o, o', ho, LB, r3, r4, rO, rD, rV, rP, t1, t2, f1, sUs⟩ := id R; obtain ⟨⟨x1, x2, x3, x4, x5, x6, x7, x8, x9, x10, x11, x12, x13⟩, LR, LC, LK, LS, LG, LH⟩ := id LB
      unfold f_B_lookLeaves
      refine ok_gd x1 (ok_bde (e_B_suspectTrouble W x1 r3 rO) ?_)
      rw [e0]
      refine ok_t rfl (ok_gd x1 (ok_bR x9 (ok_gd x1 (ok_bR r3 (ok_gd LS.1 (ok_bd (ok_mono (wB W R hsu r3) ?_)))))))
      intro _ h2 hx
      obtain ⟨hF2, R2, S2⟩ := hx
      obtain ⟨-, -, -, LB2, -⟩ := id R2
      refine ok_gd LB2.1.1 (ok_bR LB2.1.2.2.2.2.2.2.2.2.1 (ok_gd LB2.2.2.2.2.1.1 (ok_lt ?_)))
      rw [S2.2.2.2.2.2.2]
      exact ok_gd LB2.1.1 (ok_bde (e_B_grant LB2.1.1) (ok_ret ⟨rfl, rB_fin W hF2 R2⟩))
    · have F0 : Fr (ScM m) h1 (uI h1 m 0 0) := fr_uI (ScM_l (by decide))
      have M0 := M.fr F0 (fun a k e => Or.inl e)
      refine ok_gd M.1.1 (ok_lt (ok_gd M0.1.1 (ok_bde (e_m_refusesSuspect W M0) ?_)))
      rw [e0]
      obtain ⟨q, X⟩ := M0.ox W hW
      refine ok_t (by decide) (ok_gd M0.1.1 (ok_bd (ok_mono (ok_m_looks X hsu) ?_)))
      intro y h2 hx
      obtain ⟨-, hF2, e31⟩ := hx
      have a0 : hS h2 m = some (.inl 11) := by rw [hF2.2.1]; exact M.1.1
      refine ok_gd a0 (ok_lt ?_)
      rw [e31]
      exact ok_gd a0 (ok_bde (e_m_good a0) (ok_ret ⟨rfl, rM_fin (F0.trans (hF2.r.mono (fun a k e => ScM_S e))) M⟩))
  · refine Pair.a W hn R ⟨-1, t, t4, ?_, fun h1 M => qM_st M (fun h0 M F _ => ?_)⟩
    · obtain ⟨o, o', ho, LB, r3, r4, rO, rD, rV, rP, t1, t2, f1, sUs⟩ := id R; obtain ⟨⟨x1, x2, x3, x4, x5, x6, x7, x8, x9, x10, x11, x12, x13⟩, LR, LC, LK, LS, LG, LH⟩ := id LB
      unfold f_B_lookLeaves
      refine ok_gd x1 (ok_bde (e_B_suspectTrouble W x1 r3 rO) ?_)
      rw [e0]
      exact ok_f t0 (qB_ref Fr.rf x1)
    · refine ok_gd M.1.1 (ok_bde (e_m_refusesSuspect W M) ?_)
      rw [e0]
      exact ok_f tl0 (qM_ref F M.1.1)
theorem suFd_some (n : Nat) : ∀ j, j < suC D n → n < 2 ^ 31 → ∃ t, t < n ∧ suF D t = true ∧ suC D t = j ∧ suFd D (nI j) n = nI t := by
  induction n with
  | zero => intro j hj; exact absurd hj (Nat.not_lt_zero _)
  | succ n ih =>
    intro j hj hn
    have hcl := cnt_le (suF D) n
    have hs : suFd D (nI j) (n + 1) = if suF D n = true ∧ nI (suC D n) = nI j then nI n else suFd D (nI j) n := rfl
    rw [suC_s] at hj
    by_cases q : suF D n = true ∧ suC D n = j
    · refine ⟨n, by omega, q.1, q.2, ?_⟩
      rw [hs, if_pos ⟨q.1, by rw [q.2]⟩]
    · have hjn : j < suC D n := by
        cases e : suF D n with
        | true =>
          rw [e, if_pos rfl] at hj
          have : suC D n ≠ j := fun g => q ⟨e, g⟩
          omega
        | false =>
          rw [e] at hj
          have hj : j < suC D n + 0 := hj
          omega
      obtain ⟨t, h1, h2, h3, h4⟩ := ih j hjn (by omega)
      refine ⟨t, by omega, h2, h3, ?_⟩
      have hcl2 : suC D n ≤ n := hcl
      rw [hs, if_neg (fun g => by
        have := (nI_eq (show suC D n < 2 ^ 31 by omega) (by omega)).mp g.2
        omega)]
      exact h4
theorem suFd_none {v : Int32} (n : Nat) (h : ∀ t, t < n → suF D t = true → ¬ nI (suC D t) = v) : suFd D v n = -1 := by
  induction n with
  | zero => rfl
  | succ n ih =>
    show (if suF D n = true ∧ nI (suC D n) = v then nI n else suFd D v n) = -1
    rw [if_neg (fun g => h n (by omega) g.1 g.2)]
    exact ih (fun t ht => h t (by omega))
theorem a_fitAt (W : Wst D V K c Im j tl nc) (hn : nc < 512) (R : RB h x D V K c Im j T tl fa) (v : Int32) : PairA x h m (fun h1 => RM h1 m D V K c Im j T tl fa) T tl fa nc (f_B_fitAt x v h) (f_m_fitAt m v) := by
  rcases sus_cases W with ⟨e0, hW, hsu⟩ | ⟨t, e0, t0, t4, tl0⟩
  · have w1 := W.1.1.1
    have w7 := W.1.1.2.2.2.2.2.2.1
    have hsw : suW D < dW D := by unfold suW; omega
    have hT := W.1.1.2.2.2.2.2.2.2.1 (suW D) hsw
    have h5 : suW D < 5 := by omega
    have hn61 : suN D ≤ 61 := by
      have := cnt_le (suF D) (dT D (suW D) + 1)
      unfold suN suC
      omega
    have refC : ¬ (∃ i, i < suN D ∧ v = nI i) → PairA x h m (fun h1 => RM h1 m D V K c Im j T tl fa) T tl fa nc (f_B_fitAt x v h) (f_m_fitAt m v) := by
      intro hno
      refine ⟨-1, 1, D, V, K, c, Im, j, by decide, W.up hn, ?_, fun h1 M => ?_⟩
      · obtain ⟨o, o', ho, LB, r3, r4, rO, rD, rV, rP, t1, t2, f1, sUs⟩ := id R; obtain ⟨⟨x1, x2, x3, x4, x5, x6, x7, x8, x9, x10, x11, x12, x13⟩, LR, LC, LK, LS, LG, LH⟩ := id LB
        unfold f_B_fitAt b_B_fitAt_41
        refine ok_gd x1 (ok_bde (e_B_suspectTrouble W x1 r3 rO) ?_)
        rw [e0]
        refine ok_t rfl (ok_gd x1 (ok_bR x9 (ok_gd x1 (ok_bR r3 (ok_gd LS.1 (ok_bd (ok_mono (wB W R hsu r3) ?_)))))))
        intro _ h2 hx
        obtain ⟨hF2, R2, S2⟩ := hx
        obtain ⟨-, -, -, LB2, -⟩ := id R2
        have fin : Ok (gd (hS h2 x = some (.inl 0)) (bd (f_B_refuse x 1 h2) fun r2 h1 => some (r2, h1))) (fun r' h' => r' = -1 ∧ Fr (fun a _ => inB x a) h h' ∧ RB h' x D V K c Im j T tl fa ∧ hI h' x 15 = 1) := ok_gd LB2.1.1 (ok_bde (e_B_refuse LB2.1.1) (ok_ret ⟨rfl, rB_fin W hF2 R2⟩))
        refine ok_ite (fun _ => fin) (fun c1 => ok_gd LB2.1.1 (ok_bR LB2.1.2.2.2.2.2.2.2.2.1 (ok_gd LB2.2.2.2.2.1.1 (ok_lt ?_))))
        rw [S2.2.2.2.1]
        refine ok_f (fun g => ?_) fin
        rcases pk_ix v (n := suN D) (by omega) with q | q | q
        · exact c1 q
        · exact absurd g (Int32.not_lt.mpr q)
        · exact hno q
      · have F0 : Fr (ScM m) h1 (uI h1 m 0 0) := fr_uI (ScM_l (by decide))
        have M0 := M.fr F0 (fun a k e => Or.inl e)
        refine ok_gd M.1.1 (ok_lt (ok_gd M0.1.1 (ok_bde (e_m_refusesSuspect W M0) ?_)))
        rw [e0]
        obtain ⟨q, X⟩ := M0.ox W hW
        unfold b_m_fitAt_33
        refine ok_t (by decide) (ok_ite (fun c1 => ok_gd M0.1.1 (ok_bd (ok_mono (ok_m_fitting X hsu v) ?_))) (fun c1 => ok_t rfl (ok_gd M0.1.1 (ok_bde (e_m_refused M0.1.1) (ok_ret ⟨rfl, rM_fin F0 M⟩)))))
        intro y h2 hx
        obtain ⟨rfl, hF2, -⟩ := hx
        have a0 : hS h2 m = some (.inl 11) := by rw [hF2.2.1]; exact M.1.1
        rw [suFd_none (D := D) (v := v) (dT D (suW D) + 1) (fun t ht hf g => hno ⟨suC D t, ?_, g.symm⟩)]
        · exact ok_t rfl (ok_gd a0 (ok_bde (e_m_refused a0) (ok_ret ⟨rfl, rM_fin (F0.trans (hF2.r.mono (fun a k e => ScM_S e))) M⟩)))
        · have h3 := suC_s (D := D) t
          rw [hf, if_pos rfl] at h3
          have h4 : suC D (t + 1) ≤ suN D := suC_le (D := D) ht
          omega
    by_cases hex : ∃ i, i < suN D ∧ v = nI i
    · obtain ⟨i, hi, rfl⟩ := hex
      obtain ⟨t, ht1, ht2, ht3, ht4⟩ := suFd_some (D := D) (dT D (suW D) + 1) i hi (by omega)
      refine ⟨if t = dT D (suW D) then -2 else nI t, 0, D, V, K, c, Im, j, by decide, W.up hn, ?_, fun h1 M => ?_⟩
      · obtain ⟨o, o', ho, LB, r3, r4, rO, rD, rV, rP, t1, t2, f1, sUs⟩ := id R; obtain ⟨⟨x1, x2, x3, x4, x5, x6, x7, x8, x9, x10, x11, x12, x13⟩, LR, LC, LK, LS, LG, LH⟩ := id LB
        unfold f_B_fitAt b_B_fitAt_86
        refine ok_gd x1 (ok_bde (e_B_suspectTrouble W x1 r3 rO) ?_)
        rw [e0]
        refine ok_t rfl (ok_gd x1 (ok_bR x9 (ok_gd x1 (ok_bR r3 (ok_gd LS.1 (ok_bd (ok_mono (wB W R hsu r3) ?_)))))))
        intro _ h2 hx
        obtain ⟨hF2, R2, S2⟩ := hx
        obtain ⟨o2, o2', ho2, LB2, r32, -, rO2, -⟩ := id R2
        obtain ⟨⟨y1, y2, y3, y4, y5, y6, y7, y8, y9, y10, y11, y12, y13⟩, -, -, -, ⟨n1, n2, n3, n4, n5, n6, n7, n8, n9⟩, -, -⟩ := id LB2
        obtain ⟨v1, ⟨v2, -⟩, v11, v12, v13, v14, v15, v16⟩ := id rO2.1
        obtain ⟨v17, v18⟩ := v16 (suW D) h5
        have ow := rO2.2.2.1 (suW D) hsw
        have p6 : hI h2 o2 12 = nI (suW D) := by
          rw [rO2.2.1.2.2.2.2.2.1]
          exact if_neg (by omega)
        refine ok_f (nI_pos (by omega)) ?_
        have hi61 : i < 61 := by omega
        (try unfold QB); (try unfold QM); repeat (first | (with_reducible refine ok_lt ?_) | ((with_reducible refine ok_gd ?_ ?_); first | assumption | exact zb0 | exact zb1 | ((with_reducible apply ai_of) <;> first | assumption | omega | decide) | exact ai_lit (by assumption) (by decide) (by decide) (by decide)) | (refine ok_bR (by assumption) ?_))
        rw [S2.2.2.2.1]
        refine ok_t (nI_lt hi (by omega)) ?_
        (try unfold QB); (try unfold QM); repeat (first | (with_reducible refine ok_lt ?_) | ((with_reducible refine ok_gd ?_ ?_); first | assumption | exact zb0 | exact zb1 | ((with_reducible apply ai_of) <;> first | assumption | omega | decide) | exact ai_lit (by assumption) (by decide) (by decide) (by decide)) | (refine ok_bR (by assumption) ?_))
        rw [p6]
        (try unfold QB); (try unfold QM); repeat (first | (with_reducible refine ok_lt ?_) | ((with_reducible refine ok_gd ?_ ?_); first | assumption | exact zb0 | exact zb1 | ((with_reducible apply ai_of) <;> first | assumption | omega | decide) | exact ai_lit (by assumption) (by decide) (by decide) (by decide)) | (refine ok_bR (by assumption) ?_))
        (try simp (disch := omega) only [nI_clamp, cl0, cl1, cl2, cl3, cl4, cl5, cl6, cl7, cl8])
        (try unfold QB); (try unfold QM); repeat (first | (with_reducible refine ok_lt ?_) | ((with_reducible refine ok_gd ?_ ?_); first | assumption | exact zb0 | exact zb1 | ((with_reducible apply ai_of) <;> first | assumption | omega | decide) | exact ai_lit (by assumption) (by decide) (by decide) (by decide)) | (refine ok_bR (by assumption) ?_))
        have g9 : hI h2 (x + 71 + 4) i = nI t := by
          rw [← ht3]
          exact S2.2.2.2.2.1 t (by omega) ht2
        rw [g9, ow.2.1]
        refine ok_ieq (by omega) (by omega) (fun c1 => ?_) (fun c1 => ?_)
        · rw [if_pos c1]
          exact ok_gd y1 (ok_bde (e_B_grant y1) (ok_ret ⟨rfl, rB_fin W hF2 R2⟩))
        · rw [if_neg c1]
          exact ok_gd y1 (ok_bde (e_B_grant y1) (ok_ret ⟨rfl, rB_fin W hF2 R2⟩))
      · have F0 : Fr (ScM m) h1 (uI h1 m 0 0) := fr_uI (ScM_l (by decide))
        have M0 := M.fr F0 (fun a k e => Or.inl e)
        refine ok_gd M.1.1 (ok_lt (ok_gd M0.1.1 (ok_bde (e_m_refusesSuspect W M0) ?_)))
        rw [e0]
        obtain ⟨q, X⟩ := M0.ox W hW
        unfold b_m_fitAt_33 b_m_fitAt_71
        refine ok_t (by decide) (ok_t (nI_pos' (by omega)) (ok_gd M0.1.1 (ok_bd (ok_mono (ok_m_fitting X hsu (nI i)) ?_))))
        intro y h2 hx
        obtain ⟨rfl, hF2, -⟩ := hx
        have X2 := X.fk hF2 (fun a k e => sSm_lt e)
        obtain ⟨g1, g2, g3, rQ, -⟩ := id X2
        have a0 := g1.1
        obtain ⟨⟨b1, b2, b3, b4, b5, b6, b7, b8, b9, b10, b11⟩, ⟨c0, c1, c2, c3, c4, c5, c6, c7, c8⟩, qW, qX, qE, qK, qS⟩ := id rQ; have d0 := b2 0 (by decide); have d1 := b2 1 (by decide); have d2 := b2 2 (by decide); have d3 := b2 3 (by decide); have d4 := b2 4 (by decide); have d5 := b2 5 (by decide); have d6 := b2 6 (by decide); have d7 := b2 7 (by decide); have d8 := b2 8 (by decide); have d9 := b2 9 (by decide); have d10 := b2 10 (by decide); have d11 := b2 11 (by decide); have d12 := b2 12 (by decide); have d13 := b2 13 (by decide); have d14 := b2 14 (by decide); have d15 := b2 15 (by decide); have d16 := b2 16 (by decide); have e0 := b3 0 (by decide); have e1 := b3 1 (by decide); have e2 := b3 2 (by decide); have e3 := b3 3 (by decide); have f0 := b6 0 (by decide); have f1 := b6 1 (by decide); have f2 := b6 2 (by decide); have f3 := b6 3 (by decide); have f4 := b6 4 (by decide); have f5 := b6 5 (by decide)
        have e7 : hI h2 q 7 = nI (suW D) := by
          rw [c7]
          exact if_neg (by omega)
        have F2 := F0.trans (hF2.r.mono (fun a k e => ScM_S e))
        rw [ht4]
        refine ok_f (nI_nm1 (by omega)) ?_
        (try unfold QB); (try unfold QM); repeat (first | (with_reducible refine ok_lt ?_) | ((with_reducible refine ok_gd ?_ ?_); first | assumption | exact zb0 | exact zb1 | ((with_reducible apply ai_of) <;> first | assumption | omega | decide) | exact ai_lit (by assumption) (by decide) (by decide) (by decide)) | (refine ok_bR (by assumption) ?_))
        rw [e7]
        (try unfold QB); (try unfold QM); repeat (first | (with_reducible refine ok_lt ?_) | ((with_reducible refine ok_gd ?_ ?_); first | assumption | exact zb0 | exact zb1 | ((with_reducible apply ai_of) <;> first | assumption | omega | decide) | exact ai_lit (by assumption) (by decide) (by decide) (by decide)) | (refine ok_bR (by assumption) ?_))
        (try simp (disch := omega) only [nI_clamp, cl0, cl1, cl2, cl3, cl4, cl5, cl6, cl7, cl8])
        have gT : hI h2 (q + 1 + 1) (suW D) = nI (dT D (suW D)) := (qW (suW D) hsw).2.1
        rw [gT]
        refine ok_ieq (by omega) (by omega) (fun c1 => ?_) (fun c1 => ?_)
        · rw [if_pos c1]
          exact ok_gd a0 (ok_bde (e_m_good a0) (ok_ret ⟨rfl, rM_fin F2 M⟩))
        · rw [if_neg c1]
          exact ok_gd a0 (ok_bde (e_m_good a0) (ok_ret ⟨rfl, rM_fin F2 M⟩))
    · exact refC hex
  · refine Pair.a W hn R ⟨-1, t, t4, ?_, fun h1 M => qM_st M (fun h0 M F _ => ?_)⟩
    · obtain ⟨o, o', ho, LB, r3, r4, rO, rD, rV, rP, t1, t2, f1, sUs⟩ := id R; obtain ⟨⟨x1, x2, x3, x4, x5, x6, x7, x8, x9, x10, x11, x12, x13⟩, LR, LC, LK, LS, LG, LH⟩ := id LB
      unfold f_B_fitAt
      refine ok_gd x1 (ok_bde (e_B_suspectTrouble W x1 r3 rO) ?_)
      rw [e0]
      exact ok_f t0 (qB_ref Fr.rf x1)
    · refine ok_gd M.1.1 (ok_bde (e_m_refusesSuspect W M) ?_)
      rw [e0]
      exact ok_f tl0 (qM_ref F M.1.1)
theorem a_judge (W : Wst D V K c Im j tl nc) (hn : nc < 512) (R : RB h x D V K c Im j T tl fa) (v : Int32) : PairA x h m (fun h1 => RM h1 m D V K c Im j T tl fa) T tl fa nc (f_B_judge x v h) (f_m_judge m v) := by
  rcases sus_cases W with ⟨e0, hW, hsu⟩ | ⟨t, e0, t0, t4, tl0⟩
  · have w1 := W.1.1.1
    have w7 := W.1.1.2.2.2.2.2.2.1
    have hsw : suW D < dW D := by unfold suW; omega
    have hT := W.1.1.2.2.2.2.2.2.2.1 (suW D) hsw
    have h5 : suW D < 5 := by omega
    rcases dy_cases v (lo := 0) (hi := dT D (suW D)) (by decide) (by omega) with hr | ⟨i, hi1, hi2, rfl⟩
    · refine Pair.a W hn R ⟨-1, 2, by decide, ?_, fun h1 M => qM_st M (fun h0 M F _ => ?_)⟩
      · obtain ⟨o, o', ho, LB, r3, r4, rO, rD, rV, rP, t1, t2, f1, sUs⟩ := id R; obtain ⟨⟨x1, x2, x3, x4, x5, x6, x7, x8, x9, x10, x11, x12, x13⟩, LR, LC, LK, LS, LG, LH⟩ := id LB
        obtain ⟨⟨o1, ⟨o2, o3, o4, o5, o6, o7, o8, o9, o10⟩, o11, o12, o13, o14, o15, o16⟩, ⟨p1, p2, p3, p4, p5, p6, p7⟩, oW, oX, oK, oE, oS⟩ := id rO
        obtain ⟨v17, v18⟩ := o16 (suW D) h5
        have p6' : hI h o 12 = nI (suW D) := by
          rw [p6]
          exact if_neg (by omega)
        unfold f_B_judge b_B_judge_41
        refine ok_gd x1 (ok_bde (e_B_suspectTrouble W x1 r3 rO) ?_)
        rw [e0]
        refine ok_t rfl (ok_ite (fun _ => qB_ref Fr.rf x1) (fun c1 => ?_))
        (try unfold QB); (try unfold QM); repeat (first | (with_reducible refine ok_lt ?_) | ((with_reducible refine ok_gd ?_ ?_); first | assumption | exact zb0 | exact zb1 | ((with_reducible apply ai_of) <;> first | assumption | omega | decide) | exact ai_lit (by assumption) (by decide) (by decide) (by decide)) | (refine ok_bR (by assumption) ?_))
        rw [p6']
        (try unfold QB); (try unfold QM); repeat (first | (with_reducible refine ok_lt ?_) | ((with_reducible refine ok_gd ?_ ?_); first | assumption | exact zb0 | exact zb1 | ((with_reducible apply ai_of) <;> first | assumption | omega | decide) | exact ai_lit (by assumption) (by decide) (by decide) (by decide)) | (refine ok_bR (by assumption) ?_))
        (try simp (disch := omega) only [nI_clamp, cl0, cl1, cl2, cl3, cl4, cl5, cl6, cl7, cl8])
        (try unfold QB); (try unfold QM); repeat (first | (with_reducible refine ok_lt ?_) | ((with_reducible refine ok_gd ?_ ?_); first | assumption | exact zb0 | exact zb1 | ((with_reducible apply ai_of) <;> first | assumption | omega | decide) | exact ai_lit (by assumption) (by decide) (by decide) (by decide)) | (refine ok_bR (by assumption) ?_))
        rw [(oW (suW D) hsw).2.1]
        refine ok_f (fun g => ?_) (qB_ref Fr.rf x1)
        rcases hr with q | q
        · exact c1 q
        · exact absurd g (Int32.not_le.mpr q)
      · refine ok_gd M.1.1 (ok_bde (e_m_refusesSuspect W M) ?_)
        rw [e0]
        obtain ⟨LM, z0, z3, rX, rR, u1, u2, g1⟩ := id M; obtain ⟨a0, ⟨a1, a2, a3, a4, a5, a6, a7, a8, a9, a10, a11, a12, a13⟩, s1, s2, s3, s4, s5, s6, s7, s8, s9, s10, s11, s12, s13⟩ := id LM
        obtain ⟨q, q1, q2, q2', rQ⟩ := z3 hW
        obtain ⟨⟨b1, b2, b3, b4, b5, b6, b7, b8, b9, b10, b11⟩, ⟨c0, c1, c2, c3, c4, c5, c6, c7, c8⟩, qW, qX, qE, qK, qS⟩ := id rQ; have d0 := b2 0 (by decide); have d1 := b2 1 (by decide); have d2 := b2 2 (by decide); have d3 := b2 3 (by decide); have d4 := b2 4 (by decide); have d5 := b2 5 (by decide); have d6 := b2 6 (by decide); have d7 := b2 7 (by decide); have d8 := b2 8 (by decide); have d9 := b2 9 (by decide); have d10 := b2 10 (by decide); have d11 := b2 11 (by decide); have d12 := b2 12 (by decide); have d13 := b2 13 (by decide); have d14 := b2 14 (by decide); have d15 := b2 15 (by decide); have d16 := b2 16 (by decide); have e0 := b3 0 (by decide); have e1 := b3 1 (by decide); have e2 := b3 2 (by decide); have e3 := b3 3 (by decide); have f0 := b6 0 (by decide); have f1 := b6 1 (by decide); have f2 := b6 2 (by decide); have f3 := b6 3 (by decide); have f4 := b6 4 (by decide); have f5 := b6 5 (by decide)
        have e7 : hI h0 q 7 = nI (suW D) := by
          rw [c7]
          exact if_neg (by omega)
        refine ok_t rfl ?_
        (try unfold QB); (try unfold QM); repeat (first | (with_reducible refine ok_lt ?_) | ((with_reducible refine ok_gd ?_ ?_); first | assumption | exact zb0 | exact zb1 | ((with_reducible apply ai_of) <;> first | assumption | omega | decide) | exact ai_lit (by assumption) (by decide) (by decide) (by decide)) | (refine ok_bR (by assumption) ?_))
        rw [e7]
        (try unfold QB); (try unfold QM); repeat (first | (with_reducible refine ok_lt ?_) | ((with_reducible refine ok_gd ?_ ?_); first | assumption | exact zb0 | exact zb1 | ((with_reducible apply ai_of) <;> first | assumption | omega | decide) | exact ai_lit (by assumption) (by decide) (by decide) (by decide)) | (refine ok_bR (by assumption) ?_))
        (try simp (disch := omega) only [nI_clamp, cl0, cl1, cl2, cl3, cl4, cl5, cl6, cl7, cl8])
        have gT : hI h0 (q + 1 + 1) (suW D) = nI (dT D (suW D)) := (qW (suW D) hsw).2.1
        rw [gT]
        refine ok_bde e_m_in ?_
        rw [show decide ((0 : Int32) ≤ v ∧ v ≤ nI (dT D (suW D))) = false from not_in hr]
        unfold b_m_judge_39
        exact ok_t rfl (ok_lt (ok_f (by decide) (qM_ref F a0)))
    · refine ⟨oI (suAg D i), 0, D, V, K, c, Im, j, by decide, W.up hn, ?_, fun h1 M => ?_⟩
      · obtain ⟨o, o', ho, LB, r3, r4, rO, rD, rV, rP, t1, t2, f1, sUs⟩ := id R; obtain ⟨⟨x1, x2, x3, x4, x5, x6, x7, x8, x9, x10, x11, x12, x13⟩, LR, LC, LK, LS, LG, LH⟩ := id LB
        obtain ⟨⟨o1, ⟨o2, o3, o4, o5, o6, o7, o8, o9, o10⟩, o11, o12, o13, o14, o15, o16⟩, ⟨p1, p2, p3, p4, p5, p6, p7⟩, oW, oX, oK, oE, oS⟩ := id rO
        obtain ⟨v17, v18⟩ := o16 (suW D) h5
        have p6' : hI h o 12 = nI (suW D) := by
          rw [p6]
          exact if_neg (by omega)
        unfold f_B_judge
        refine ok_gd x1 (ok_bde (e_B_suspectTrouble W x1 r3 rO) ?_)
        rw [e0]
        refine ok_t rfl (ok_f (nI_pos (by omega)) ?_)
        (try unfold QB); (try unfold QM); repeat (first | (with_reducible refine ok_lt ?_) | ((with_reducible refine ok_gd ?_ ?_); first | assumption | exact zb0 | exact zb1 | ((with_reducible apply ai_of) <;> first | assumption | omega | decide) | exact ai_lit (by assumption) (by decide) (by decide) (by decide)) | (refine ok_bR (by assumption) ?_))
        rw [p6']
        (try unfold QB); (try unfold QM); repeat (first | (with_reducible refine ok_lt ?_) | ((with_reducible refine ok_gd ?_ ?_); first | assumption | exact zb0 | exact zb1 | ((with_reducible apply ai_of) <;> first | assumption | omega | decide) | exact ai_lit (by assumption) (by decide) (by decide) (by decide)) | (refine ok_bR (by assumption) ?_))
        (try simp (disch := omega) only [nI_clamp, cl0, cl1, cl2, cl3, cl4, cl5, cl6, cl7, cl8])
        (try unfold QB); (try unfold QM); repeat (first | (with_reducible refine ok_lt ?_) | ((with_reducible refine ok_gd ?_ ?_); first | assumption | exact zb0 | exact zb1 | ((with_reducible apply ai_of) <;> first | assumption | omega | decide) | exact ai_lit (by assumption) (by decide) (by decide) (by decide)) | (refine ok_bR (by assumption) ?_))
        rw [(oW (suW D) hsw).2.1]
        refine ok_t (nI_le hi2 (by omega)) (ok_gd x1 (ok_bR x9 (ok_gd x1 (ok_bR r3 (ok_gd LS.1 (ok_bd (ok_mono (wB W R hsu r3) ?_)))))))
        intro _ h2 hx
        obtain ⟨hF2, R2, S2⟩ := hx
        obtain ⟨o2, o2', ho2, LB2, r32, -, rO2, -⟩ := id R2
        refine ok_gd LB2.1.1 (ok_bR LB2.1.2.2.2.2.2.2.2.2.1 (ok_gd LB2.1.1 (ok_bR r32 (ok_gd LB2.2.2.2.2.1.1 (ok_bde (e_S_firstAgainst LB2.2.2.2.2.1 rO2 W.1.1 (t := i) (by omega) (fun d h1 h2 => S2.2.2.1 i d hi2 h1 h2)) ?_)))))
        exact ok_gd LB2.1.1 (ok_bde (e_B_grant LB2.1.1) (ok_ret ⟨rfl, rB_fin W hF2 R2⟩))
      · have F0 : Fr (ScM m) h1 (uI h1 m 0 0) := fr_uI (ScM_l (by decide))
        have M0 := M.fr F0 (fun a k e => Or.inl e)
        refine ok_gd M.1.1 (ok_lt (ok_gd M0.1.1 (ok_bde (e_m_refusesSuspect W M0) ?_)))
        rw [e0]
        obtain ⟨q, X⟩ := M0.ox W hW
        obtain ⟨g1, g2, g3, rQ, -⟩ := id X
        generalize uI h1 m 0 0 = h0 at F0 M0 X g1 g2 rQ
        have a0 := g1.1
        obtain ⟨⟨b1, b2, b3, b4, b5, b6, b7, b8, b9, b10, b11⟩, ⟨c0, c1, c2, c3, c4, c5, c6, c7, c8⟩, qW, qX, qE, qK, qS⟩ := id rQ; have d0 := b2 0 (by decide); have d1 := b2 1 (by decide); have d2 := b2 2 (by decide); have d3 := b2 3 (by decide); have d4 := b2 4 (by decide); have d5 := b2 5 (by decide); have d6 := b2 6 (by decide); have d7 := b2 7 (by decide); have d8 := b2 8 (by decide); have d9 := b2 9 (by decide); have d10 := b2 10 (by decide); have d11 := b2 11 (by decide); have d12 := b2 12 (by decide); have d13 := b2 13 (by decide); have d14 := b2 14 (by decide); have d15 := b2 15 (by decide); have d16 := b2 16 (by decide); have e0 := b3 0 (by decide); have e1 := b3 1 (by decide); have e2 := b3 2 (by decide); have e3 := b3 3 (by decide); have f0 := b6 0 (by decide); have f1 := b6 1 (by decide); have f2 := b6 2 (by decide); have f3 := b6 3 (by decide); have f4 := b6 4 (by decide); have f5 := b6 5 (by decide)
        have e7 : hI h0 q 7 = nI (suW D) := by
          rw [c7]
          exact if_neg (by omega)
        refine ok_t rfl ?_
        (try unfold QB); (try unfold QM); repeat (first | (with_reducible refine ok_lt ?_) | ((with_reducible refine ok_gd ?_ ?_); first | assumption | exact zb0 | exact zb1 | ((with_reducible apply ai_of) <;> first | assumption | omega | decide) | exact ai_lit (by assumption) (by decide) (by decide) (by decide)) | (refine ok_bR (by assumption) ?_))
        rw [e7]
        (try unfold QB); (try unfold QM); repeat (first | (with_reducible refine ok_lt ?_) | ((with_reducible refine ok_gd ?_ ?_); first | assumption | exact zb0 | exact zb1 | ((with_reducible apply ai_of) <;> first | assumption | omega | decide) | exact ai_lit (by assumption) (by decide) (by decide) (by decide)) | (refine ok_bR (by assumption) ?_))
        (try simp (disch := omega) only [nI_clamp, cl0, cl1, cl2, cl3, cl4, cl5, cl6, cl7, cl8])
        have gT : hI h0 (q + 1 + 1) (suW D) = nI (dT D (suW D)) := (qW (suW D) hsw).2.1
        rw [gT]
        refine ok_bde e_m_in ?_
        rw [show decide ((0 : Int32) ≤ nI i ∧ nI i ≤ nI (dT D (suW D))) = true from yes_in hi2 (by omega)]
        unfold b_m_judge_39
        refine ok_f (by decide) (ok_t (by decide) (ok_gd a0 (ok_bd (ok_mono (ok_m_wrong X hsu hi2) ?_))))
        intro y h2 hx
        obtain ⟨rfl, hF2, -⟩ := hx
        have a02 : hS h2 m = some (.inl 11) := by rw [hF2.2.1]; exact a0
        exact ok_gd a02 (ok_bde (e_m_good a02) (ok_ret ⟨rfl, rM_fin (F0.trans (hF2.r.mono (fun a k e => by unfold ScM; omega))) M⟩))
  · refine Pair.a W hn R ⟨-1, t, t4, ?_, fun h1 M => qM_st M (fun h0 M F _ => ?_)⟩
    · obtain ⟨o, o', ho, LB, r3, r4, rO, rD, rV, rP, t1, t2, f1, sUs⟩ := id R; obtain ⟨⟨x1, x2, x3, x4, x5, x6, x7, x8, x9, x10, x11, x12, x13⟩, LR, LC, LK, LS, LG, LH⟩ := id LB
      unfold f_B_judge
      refine ok_gd x1 (ok_bde (e_B_suspectTrouble W x1 r3 rO) ?_)
      rw [e0]
      exact ok_f t0 (qB_ref Fr.rf x1)
    · unfold b_m_judge_39
      refine ok_gd M.1.1 (ok_bde (e_m_refusesSuspect W M) ?_)
      rw [e0]
      exact ok_f t0 (ok_f tl0 (qM_ref F M.1.1))
end P10
