/-! toothIn, jerks, comesRound, idle: both sides -/
section P1
variable {h h1 : Hp} {x m c j tl nc : Nat} {D : DD} {V : Nat → Nat} {K Im : Nat → Nat → Nat} {T : Nat → Int32} {fa : Int32}
theorem dy_cases (v : Int32) {lo hi : Nat} (hl : lo < 2 ^ 31) (hn : hi + 1 < 2 ^ 31) : (v < nI lo ∨ nI hi < v) ∨ ∃ j, lo ≤ j ∧ j ≤ hi ∧ v = nI j := by
  rcases ix_le v hn with q | q | ⟨j, hj, q⟩
  · exact Or.inl (Or.inl (Int32.lt_of_lt_of_le q (nI_pos' hl)))
  · exact Or.inl (Or.inr q)
  · rcases Nat.lt_or_ge j lo with g | g
    · exact Or.inl (Or.inl (by rw [q]; exact nI_lt g hl))
    · exact Or.inr ⟨j, g, hj, q⟩
theorem dyB_out {α : Type} {A B : Option (α × Hp)} {Q : α → Hp → Prop} {v a b : Int32} (hv : v < a ∨ b < v) (k : Ok A Q) : Ok (if v < a then A else if v ≤ b then B else A) Q := by
  by_cases q : v < a
  · rw [if_pos q]
    exact k
  · rw [if_neg q, if_neg (fun g => ?_)]
    · exact k
    · rcases hv with e | e
      · exact q e
      · exact absurd e (Int32.not_lt.mpr g)
theorem dyB_in {α : Type} {A B C : Option (α × Hp)} {Q : α → Hp → Prop} {lo hi j : Nat} (h1 : lo ≤ j) (h2 : j ≤ hi) (h3 : hi < 2 ^ 31) (k : Ok B Q) : Ok (if nI j < nI lo then A else if nI j ≤ nI hi then B else C) Q := by
  rw [if_neg (nI_nlt h1 (by omega)), if_pos (nI_le h2 h3)]
  exact k
section DM
variable {B : Hp → Option (Int32 × Hp)} {n lo hi r t : Int32}
theorem qM_dn (F : Fr (ScM m) h1 h) (hs : hS h m = some (.inl 11)) : QM m h1 (gd (hS h m = some (.inl 11)) (bd (f_m_refusesDays m (bI false) n lo hi h) fun r5 h4 => if r5 ≤ 0 then B h4 else gd (hS h4 m = some (.inl 11)) (bd (f_m_refused m r5 h4) fun r h2 => some (r, h2)))) (-1) 1 := by
  refine ok_gd hs (ok_bde (r := 1) (h := h) ?_ (ok_f (by decide) (qM_ref F hs)))
  unfold f_m_refusesDays
  rw [if_pos bI_0]
theorem qM_do (F : Fr (ScM m) h1 h) (hs : hS h m = some (.inl 11)) (ho : n < lo ∨ hi < n) : QM m h1 (gd (hS h m = some (.inl 11)) (bd (f_m_refusesDays m (bI true) n lo hi h) fun r5 h4 => if r5 ≤ 0 then B h4 else gd (hS h4 m = some (.inl 11)) (bd (f_m_refused m r5 h4) fun r h2 => some (r, h2)))) (-1) 2 := by
  refine ok_gd hs (ok_bde (r := 2) (h := h) ?_ (ok_f (by decide) (qM_ref F hs)))
  unfold f_m_refusesDays
  rw [if_neg (by decide), e_m_in]
  show (if bI (decide (lo ≤ n ∧ n ≤ hi)) = 0 then _ else _) = _
  rw [decide_eq_false (fun g => by
    rcases ho with q | q
    · exact absurd g.1 (Int32.not_le.mpr q)
    · exact absurd g.2 (Int32.not_le.mpr q)), if_pos bI_0]
theorem qM_di {a b i : Nat} (hs : hS h m = some (.inl 11)) (ha : a ≤ i) (hb : i ≤ b) (hb2 : b < 2 ^ 31) (k : QM m h1 (B h) r t) : QM m h1 (gd (hS h m = some (.inl 11)) (bd (f_m_refusesDays m (bI true) (nI i) (nI a) (nI b) h) fun r5 h4 => if r5 ≤ 0 then B h4 else gd (hS h4 m = some (.inl 11)) (bd (f_m_refused m r5 h4) fun r h2 => some (r, h2)))) r t := by
  refine ok_gd hs (ok_bde (r := 0) (h := h) ?_ (ok_t (by decide) k))
  unfold f_m_refusesDays
  rw [if_neg (by decide), e_m_in]
  show (if bI (decide (nI a ≤ nI i ∧ nI i ≤ nI b)) = 0 then _ else _) = _
  rw [decide_eq_true ⟨nI_le ha (by omega), nI_le hb hb2⟩, if_neg (by decide)]
end DM
theorem ScB_C {a k : Nat} (e : sC (x + 41) a k) : ScB x a k := Or.inr (Or.inr (Or.inl e))
theorem ok_B_courseOf (R : RB h x D V K c Im j T tl fa) (W : Wst D V K c Im j tl nc) {w : Nat} (hw : w < dW D) : Ok (f_B_courseOf x (nI w) h) (fun u h' => u = x + 41 + 6 + 4 * w ∧ Fr (ScB x) h h' ∧ LayU h' (x + 41 + 6 + 4 * w) ∧ ∃ L r, RepU h' (x + 41 + 6 + 4 * w) (wf D w) (wj D w) (V (3 + w)) (dK D w) (V 0) (V 1) L r) := by
  obtain ⟨o, o', ho, LB, r3, r4, rO, rD, rV, rP, t1, t2, f1, sUs⟩ := id R; obtain ⟨⟨x1, x2, x3, x4, x5, x6, x7, x8, x9, x10, x11, x12, x13⟩, LR, LC, LK, LS, LG, LH⟩ := id LB
  have lc1 := LC.1
  have w1 := W.1.1.1
  unfold f_B_courseOf
  (try unfold QB); (try unfold QM); repeat (first | (with_reducible refine ok_lt ?_) | ((with_reducible refine ok_gd ?_ ?_); first | assumption | exact zb0 | exact zb1 | ((with_reducible apply ai_of) <;> first | assumption | omega | decide) | exact ai_lit (by assumption) (by decide) (by decide) (by decide)) | (refine ok_bR (by assumption) ?_))
  refine ok_bd (ok_mono (ok_C_courseFrom LC rO rV W.1.1 (W.2.1.v W.2.2.2.2.2.1) hw (by omega) (by omega)) ?_)
  intro u h1 hx
  obtain ⟨rfl, hF, -, -, hex⟩ := hx
  have hF2 : Fr (sC (x + 41)) h h1 := hF.mono (fun a k e => by unfold sU at e; unfold sC; omega)
  exact ok_ret ⟨rfl, hF2.mono (fun a k e => ScB_C e), ((LC.fr hF2 (fun a k e => Or.inl e)).2.2.2.2.2.2.2.2.2.2.2 w (by omega)).2, hex⟩
theorem q_toothIn (W : Wst D V K c Im j tl nc) (R : RB h x D V K c Im j T tl fa) (w n : Int32) : Pair x h m (fun h1 => RM h1 m D V K c Im j T tl fa) (f_B_toothIn x w n h) (f_m_toothIn m w n) := by
  obtain ⟨o, o', ho, LB, r3, r4, rO, rD, rV, rP, t1, t2, f1, sUs⟩ := id R; obtain ⟨⟨x1, x2, x3, x4, x5, x6, x7, x8, x9, x10, x11, x12, x13⟩, LR, LC, LK, LS, LG, LH⟩ := id LB
  have w1 := W.1.1.1
  cases hb : isN (dW D) w with
  | false =>
    refine ⟨-1, 1, by decide, ?_, fun h1 M => qM_st M (fun h0 M F _ => ?_)⟩
    · unfold f_B_toothIn
      refine ok_gd x1 (ok_bde (e_B_hasWheel x1 r3 rO w1 w) ?_)
      rw [hb]
      exact ok_t rfl (qB_ref Fr.rf x1)
    · refine ok_gd M.1.1 (ok_bde (e_m_isWheel M w1 w) ?_)
      rw [hb]
      exact qM_dn F M.1.1
  | true =>
    obtain ⟨i, hi, rfl⟩ := isN_ex (by omega) hb
    rcases dy_cases n (lo := 0) (hi := 1000000) (by decide) (by decide) with hn | ⟨n, hn1, hn2, rfl⟩
    · refine ⟨-1, 2, by decide, ?_, fun h1 M => qM_st M (fun h0 M F _ => ?_)⟩
      · unfold f_B_toothIn b_B_toothIn_24
        refine ok_gd x1 (ok_bde (e_B_hasWheel x1 r3 rO w1 _) ?_)
        rw [hb]
        exact ok_f (by decide) (dyB_out hn (qB_ref Fr.rf x1))
      · refine ok_gd M.1.1 (ok_bde (e_m_isWheel M w1 _) ?_)
        rw [hb]
        exact qM_do F M.1.1 hn
    · have hv := W.2.1.v W.2.2.2.2.2.1
      have hT := W.1.1.2.2.2.2.2.2.2.1 i hi
      have hV1 := hv.2.1
      refine ⟨nI (it (wf D i) (wg D V i n) (V (3 + i))), 0, by decide, ?_, fun h1 M => qM_st M (fun h0 M F _ => ?_)⟩
      · unfold f_B_toothIn
        refine ok_gd x1 (ok_bde (e_B_hasWheel x1 r3 rO w1 _) ?_)
        rw [hb]
        refine ok_f (by decide) (dyB_in (lo := 0) (hi := 1000000) hn1 hn2 (by decide) ?_)
        refine ok_gd x1 (ok_bd (ok_mono (ok_B_courseOf R W hi) ?_))
        intro u h2 hx
        obtain ⟨rfl, hF, LU, L, r, hU⟩ := hx
        have x1' : hS h2 x = some (.inl 0) := by rw [hF.2.1]; exact x1
        refine ok_gd LU.1 (ok_bde (e_U_toothOn LU hU hT.1 (by omega) (by omega)) ?_)
        exact qB_gr hF x1'
      · refine ok_gd M.1.1 (ok_bde (e_m_isWheel M w1 _) ?_)
        rw [hb]
        refine qM_di (a := 0) (b := 1000000) M.1.1 hn1 hn2 (by decide) ?_
        obtain ⟨LM, z0, z3, rX, rR, u1, u2, g1⟩ := id M; obtain ⟨a0, ⟨a1, a2, a3, a4, a5, a6, a7, a8, a9, a10, a11, a12, a13⟩, s1, s2, s3, s4, s5, s6, s7, s8, s9, s10, s11, s12, s13⟩ := id LM
        obtain ⟨q, q1, q2, q2', rQ⟩ := z3 (by omega)
        have h8 : i < 8 := by omega
        (try unfold QB); (try unfold QM); repeat (first | (with_reducible refine ok_lt ?_) | ((with_reducible refine ok_gd ?_ ?_); first | assumption | exact zb0 | exact zb1 | ((with_reducible apply ai_of) <;> first | assumption | omega | decide) | exact ai_lit (by assumption) (by decide) (by decide) (by decide)) | (refine ok_bR (by assumption) ?_))
        (try simp (disch := omega) only [nI_clamp, cl0, cl1, cl2, cl3, cl4, cl5, cl6, cl7, cl8])
        have hVb := hv.2.2.2 i hi
        have hTb := (W.1.1.2.2.2.2.2.2.2.1 i hi).2.2.1
        rw [rX.t (by omega) (by omega)]
        refine ok_bde (e_m_goings LM q1 rQ W.1.1 rX hv hi (by omega)) ?_
        have hgl := gs_le (k := dK D i) (d := V 0) (o := V 1) (n := n)
        (try unfold QB); (try unfold QM); repeat (first | (with_reducible refine ok_lt ?_) | ((with_reducible refine ok_gd ?_ ?_); first | assumption | exact zb0 | exact zb1 | ((with_reducible apply ai_of) <;> first | assumption | omega | decide) | exact ai_lit (by assumption) (by decide) (by decide) (by decide)) | (refine ok_bR (by assumption) ?_))
        refine ok_bd (ok_mono (ok_m_toothBehind LM q1 (by omega) rQ W.1.1 hi (hv.2.2.2 i hi) (G := wg D V i n) (Nat.le_trans hgl hn2)) ?_)
        intro y h2 hx
        obtain ⟨rfl, hF⟩ := hx
        have a0' : hS h2 m = some (.inl 11) := by rw [hF.2.1]; exact a0
        exact qM_gr (F.trans (hF.r.mono (fun a k e => by unfold sTb at e; unfold ScM; omega))) a0'
theorem q_jerks (W : Wst D V K c Im j tl nc) (R : RB h x D V K c Im j T tl fa) (w n : Int32) : Pair x h m (fun h1 => RM h1 m D V K c Im j T tl fa) (f_B_jerks x w n h) (f_m_jerks m w n) := by
  obtain ⟨o, o', ho, LB, r3, r4, rO, rD, rV, rP, t1, t2, f1, sUs⟩ := id R; obtain ⟨⟨x1, x2, x3, x4, x5, x6, x7, x8, x9, x10, x11, x12, x13⟩, LR, LC, LK, LS, LG, LH⟩ := id LB
  have w1 := W.1.1.1
  cases hb : isN (dW D) w with
  | false =>
    refine ⟨-1, 1, by decide, ?_, fun h1 M => qM_st M (fun h0 M F _ => ?_)⟩
    · unfold f_B_jerks
      refine ok_gd x1 (ok_bde (e_B_hasWheel x1 r3 rO w1 w) ?_)
      rw [hb]
      exact ok_t rfl (qB_ref Fr.rf x1)
    · refine ok_gd M.1.1 (ok_bde (e_m_isWheel M w1 w) ?_)
      rw [hb]
      exact qM_dn F M.1.1
  | true =>
    obtain ⟨i, hi, rfl⟩ := isN_ex (by omega) hb
    rcases dy_cases n (lo := 0) (hi := 5000) (by decide) (by decide) with hn | ⟨n, hn1, hn2, rfl⟩
    · refine ⟨-1, 2, by decide, ?_, fun h1 M => qM_st M (fun h0 M F _ => ?_)⟩
      · unfold f_B_jerks b_B_jerks_25
        refine ok_gd x1 (ok_bde (e_B_hasWheel x1 r3 rO w1 _) ?_)
        rw [hb]
        exact ok_f (by decide) (dyB_out hn (qB_ref Fr.rf x1))
      · refine ok_gd M.1.1 (ok_bde (e_m_isWheel M w1 _) ?_)
        rw [hb]
        exact qM_do F M.1.1 hn
    · have hv := W.2.1.v W.2.2.2.2.2.1
      have hT := W.1.1.2.2.2.2.2.2.2.1 i hi
      have hV1 := hv.2.1
      refine ⟨nI (cntN (fun a => wj D i (it (wf D i) a (V (3 + i)))) (wg D V i n)), 0, by decide, ?_, fun h1 M => qM_st M (fun h0 M F _ => ?_)⟩
      · unfold f_B_jerks
        refine ok_gd x1 (ok_bde (e_B_hasWheel x1 r3 rO w1 _) ?_)
        rw [hb]
        refine ok_f (by decide) (dyB_in (lo := 0) (hi := 5000) hn1 hn2 (by decide) ?_)
        refine ok_gd x1 (ok_bd (ok_mono (ok_B_courseOf R W hi) ?_))
        intro u h2 hx
        obtain ⟨rfl, hF, LU, L, r, hU⟩ := hx
        have x1' : hS h2 x = some (.inl 0) := by rw [hF.2.1]; exact x1
        refine ok_gd LU.1 (ok_bde (e_U_jerksUntil LU hU hT.1 hn2 (by omega)) ?_)
        exact qB_gr hF x1'
      · refine ok_gd M.1.1 (ok_bde (e_m_isWheel M w1 _) ?_)
        rw [hb]
        refine qM_di (a := 0) (b := 5000) M.1.1 hn1 hn2 (by decide) ?_
        obtain ⟨LM, z0, z3, rX, rR, u1, u2, g1⟩ := id M; obtain ⟨a0, ⟨a1, a2, a3, a4, a5, a6, a7, a8, a9, a10, a11, a12, a13⟩, s1, s2, s3, s4, s5, s6, s7, s8, s9, s10, s11, s12, s13⟩ := id LM
        obtain ⟨q, q1, q2, q2', rQ⟩ := z3 (by omega)
        have h8 : i < 8 := by omega
        (try unfold QB); (try unfold QM); repeat (first | (with_reducible refine ok_lt ?_) | ((with_reducible refine ok_gd ?_ ?_); first | assumption | exact zb0 | exact zb1 | ((with_reducible apply ai_of) <;> first | assumption | omega | decide) | exact ai_lit (by assumption) (by decide) (by decide) (by decide)) | (refine ok_bR (by assumption) ?_))
        (try simp (disch := omega) only [nI_clamp, cl0, cl1, cl2, cl3, cl4, cl5, cl6, cl7, cl8])
        have hVb := hv.2.2.2 i hi
        have hTb := (W.1.1.2.2.2.2.2.2.2.1 i hi).2.2.1
        rw [rX.t (by omega) (by omega)]
        refine ok_bde (e_m_goings LM q1 rQ W.1.1 rX hv hi (by omega)) ?_
        have hgl : wg D V i n ≤ n := gs_le
        generalize wg D V i n = G at hgl
        have hit : ∀ a, it (wf D i) a (V (3 + i)) < dT D i := fun a => it_lt (fun u hu => wf_lt W.1.1 hi hu) (hv.2.2.2 i hi) a
        refine ok_dn (fun μ s h' => μ ≤ G ∧ s = (m, nI i, nI (it (wf D i) (G - μ) (V (3 + i))), nI (cntN (fun a => wj D i (it (wf D i) a (V (3 + i)))) (G - μ)), nI μ) ∧ Fk (fun a k => a = m ∧ k = 21) h0 h') ?_ FU G _ _ ⟨Nat.le_refl _, by rw [Nat.sub_self]; rfl, Fk.rf⟩ (by show _ < 10000; omega)
        intro k μ s h2 hI2 kc
        obtain ⟨hμ, rfl, hF2⟩ := hI2
        have a0' : hS h2 m = some (.inl 11) := by rw [hF2.2.1]; exact a0
        have q1' : hR h2 m 3 = some q := by rw [hF2.2.2.2.1]; exact q1
        have rQ' : RepQ h2 q D := rQ.fk hF2 (fun i k hi e => by omega)
        show Ok (b_m_jerks_49 k m (nI i) (nI (it (wf D i) (G - μ) (V (3 + i)))) (nI (cntN (fun a => wj D i (it (wf D i) a (V (3 + i)))) (G - μ))) (nI μ) h2) _
        unfold b_m_jerks_49 b_m_jerks_77
        refine ok_ile (b := 0) (by omega) (by decide) (fun e => ?_) (fun e => ?_)
        · have e0 : μ = 0 := by omega
          rw [e0, Nat.sub_zero]
          exact qM_gr (F.trans (hF2.r.mono (fun a k e => by unfold ScM; omega))) a0'
        · refine ok_gd a0' (ok_bde (e_m_goesOnce a0' q1' rQ' W.1.1 hi (hit _)) ?_)
          refine ok_gd a0' (ok_lt ?_)
          rw [hI_uIs]
          have hF3 := hF2.trans (fk_uI (S := fun a k => a = m ∧ k = 21) (h := h2) (a := m) (k := 21) (v := bI (jk D i (dfw D i) (dB D i) (it (wf D i) (G - μ) (V (3 + i))))) ⟨rfl, rfl⟩)
          have eμ : G - (μ - 1) = G - μ + 1 := by omega
          have e1 : nI μ + -1 = nI (μ - 1) := by
            have e2 := pk_m1 (μ - 1)
            rw [show μ - 1 + 1 = μ by omega] at e2
            exact e2
          have hst : tp D i (dfw D i) (dB D i) (it (wf D i) (G - μ) (V (3 + i))) = it (wf D i) (G - (μ - 1)) (V (3 + i)) := by
            rw [eμ]
            rfl
          rw [e1, hst]
          have hcn : cntN (fun a => wj D i (it (wf D i) a (V (3 + i)))) (G - (μ - 1)) = cntN (fun a => wj D i (it (wf D i) a (V (3 + i)))) (G - μ) + (if jk D i (dfw D i) (dB D i) (it (wf D i) (G - μ) (V (3 + i))) = true then 1 else 0) := by
            rw [eμ]
            rfl
          refine ok_ib (fun eb => ok_lt (kc (μ - 1) _ _ (by omega) ⟨by omega, ?_, hF3⟩)) (fun eb => ok_lt (kc (μ - 1) _ _ (by omega) ⟨by omega, ?_, hF3⟩))
          · rw [hcn, eb, Int32.add_zero]
            rfl
          · rw [hcn, eb, nI_1]
            rfl
end P1
