/-! lineWorth, lineAt, inTime: the class, and both -/
section P9
variable {h h1 : Hp} {x m c j tl nc : Nat} {D : DD} {V : Nat → Nat} {K Im : Nat → Nat → Nat} {T : Nat → Int32} {fa : Int32}
def sPl (k a i : Nat) : Prop := (a = k ∧ 3 ≤ i) ∨ (k + 1 ≤ a ∧ a ≤ k + 3)
theorem ok_K_plan {k cc o r : Nat} (LKk : LayK h k) (X : CX h cc o r D V (wf D)) (hoc : o + 15 ≤ cc) (hrc : r < cc) (hck : cc + 26 ≤ k) : Ok (f_K_plan k o cc h) (fun _ h' => Fr (sPl k) h h' ∧ BRk h' k (dN D) (bF D V)) := by
  obtain ⟨C, h5, h6, rO, rV, cal, W, hv, hV0⟩ := id X
  obtain ⟨l1, l2, l3, l4, l5, l6, l7⟩ := id LKk
  have w3 := W.2.2.1
  unfold f_K_plan
  refine ok_gd l1 (ok_lt (ok_gd l1 (ok_lt (ok_gd l1 (ok_lt (ok_lt ?_))))))
  generalize hH : uI (uI (uR h k 5 (some o)) k 3 (-1)) k 4 0 = H
  have hFH : Fr (sPl k) h H := by
    rw [← hH]
    exact ((fr_uR (Or.inl ⟨rfl, by decide⟩)).trans (fr_uI (Or.inl ⟨rfl, by decide⟩))).trans (fr_uI (Or.inl ⟨rfl, by decide⟩))
  have H5 : hR H k 5 = some o := by rw [← hH]; exact hR_uRs
  have H3 : hI H k 3 = -1 := by rw [← hH, hI_uIk (by decide), hI_uIs]
  have H4 : hI H k 4 = 0 := by rw [← hH, hI_uIs]
  have Lk : ∀ {h' : Hp}, Fr (sPl k) h h' → LayK h' k := fun F => by
    unfold LayK
    rw [F.2.1, (F.2.2.2 k 0 (fun e => by unfold sPl at e; omega)).2.2, (F.2.2.2 k 1 (fun e => by unfold sPl at e; omega)).2.2, (F.2.2.2 k 2 (fun e => by unfold sPl at e; omega)).2.2]
    exact LKk
  have Xk : ∀ {h' : Hp}, Fr (sPl k) h h' → CX h' cc o r D V (wf D) := fun F => by
    refine ⟨C.fr F (fun a i e => by unfold sPl at e; omega), ?_, ?_, rO.fr F (fun i k hi e => by unfold sPl at e; omega) W.1, rV.fr F (fun k e => by unfold sPl at e; omega), fun u hu => ?_, W, hv, hV0⟩
    · rw [(F.2.2.2 cc 5 (fun e => by unfold sPl at e; omega)).2.2]
      exact h5
    · rw [(F.2.2.2 cc 6 (fun e => by unfold sPl at e; omega)).2.2]
      exact h6
    · obtain ⟨J, L, rr, hU⟩ := cal u hu
      have w1 := W.1
      exact ⟨J, L, rr, hU.fr F (fun i k hi e => by unfold sPl at e; omega)⟩
  refine ok_up (dN D) (fun i st h' => st = (k, cc, nI i) ∧ Fk (fun a _ => a = k + 1) H h' ∧ ∀ j, j < i → hI h' (k + 1) j = oI (duN D V j)) ?_ FU 0 _ _ (Nat.zero_le _) ⟨rfl, Fk.rf, fun j hj => absurd hj (Nat.not_lt_zero _)⟩ (by show _ < 10000; omega)
  intro kk i st h' hi hI' kc
  obtain ⟨rfl, hF, hp⟩ := hI'
  have hF' : Fr (sPl k) h h' := hFH.trans (hF.r.mono (fun a i e => by unfold sPl; omega))
  have X' := Xk hF'
  have rO' := X'.2.2.2.1
  have g5 : hR h' k 5 = some o := by rw [hF.2.2.2.1]; exact H5
  obtain ⟨m1, m2, m3, m4, m5, m6, m7⟩ := Lk hF'
  obtain ⟨o1, ⟨o2, o3, o4, o5, o6, -⟩, o11, o12, o13, -⟩ := rO'.1
  have q5 := o13 5 (by decide) (by decide)
  have cc1 := X'.1.1
  show Ok (b_K_plan_17 kk k cc (nI i) h') _
  unfold b_K_plan_17
  (try unfold QB); (try unfold QM); repeat (first | (with_reducible refine ok_lt ?_) | ((with_reducible refine ok_gd ?_ ?_); first | assumption | exact zb0 | exact zb1 | ((with_reducible apply ai_of) <;> first | assumption | omega | decide) | exact ai_lit (by assumption) (by decide) (by decide) (by decide)) | (refine ok_bR (by assumption) ?_))
  rw [rO'.2.1.2.2.2.2.1]
  refine ok_it hi (by omega) (fun e => ?_) (fun hl => ?_)
  · subst e
    have KX' : KX h' k o D V := ⟨⟨m1, m2, m3, m4, m5, m6, m7⟩, g5, rO', W, by omega, hp⟩
    have hB : BRk h' k (dN D) (0, 0, []) := by
      refine ⟨by decide, ?_, ?_, fun i hi h0 => absurd h0 (Nat.lt_irrefl _)⟩
      · rw [(hF.2.2.2.2 k 3 (by omega)).1, H3]
        rfl
      · rw [(hF.2.2.2.2 k 4 (by omega)).1, H4]
    refine ok_gd m1 (ok_bd (ok_mono (ok_K_extend (dN D) 8 [] 0 (0, 0, []) h' KX' (by simp) (by omega) (fun j hj => by cases hj) (fun j hj => by rw [bt_0 hj]; rfl) (fun i hi => absurd hi (Nat.not_lt_zero _)) hB) ?_))
    intro _ h2 hx2
    obtain ⟨hF2, -, hB2⟩ := hx2
    exact ok_ret ⟨hF'.trans (hF2.r.mono (fun a i e => by unfold sKk at e; unfold sPl; omega)), hB2⟩
  · have hi4 : i < 4 := by omega
    (try unfold QB); (try unfold QM); repeat (first | (with_reducible refine ok_lt ?_) | ((with_reducible refine ok_gd ?_ ?_); first | assumption | exact zb0 | exact zb1 | ((with_reducible apply ai_of) <;> first | assumption | omega | decide) | exact ai_lit (by assumption) (by decide) (by decide) (by decide)) | (refine ok_bR (by assumption) ?_))
    (try simp (disch := omega) only [nI_clamp, cl0, cl1, cl2, cl3, cl4, cl5, cl6, cl7, cl8])
    rw [(rO'.2.2.2.2.1 i hl).2.2]
    have hTi := (W.2.2.2.2.2.2.2.2.2.2.1 i hl).2.2.2
    refine ok_bd (ok_mono (ok_C_feastFrom X' hTi (a := 1) (b := 5000) (by decide) (by decide)) ?_)
    intro y h2 hx2
    obtain ⟨rfl, rfl⟩ := hx2
    (try unfold QB); (try unfold QM); repeat (first | (with_reducible refine ok_lt ?_) | ((with_reducible refine ok_gd ?_ ?_); first | assumption | exact zb0 | exact zb1 | ((with_reducible apply ai_of) <;> first | assumption | omega | decide) | exact ai_lit (by assumption) (by decide) (by decide) (by decide)) | (refine ok_bR (by assumption) ?_))
    (try simp (disch := omega) only [nI_clamp, cl0, cl1, cl2, cl3, cl4, cl5, cl6, cl7, cl8])
    refine kc _ _ hl ⟨by rw [nI_1], hF.trans (fk_uI rfl), fun j hj => ?_⟩
    by_cases e : j = i
    · rw [e, hI_uIs]
      rfl
    · rw [hI_uIk e]
      exact hp j (by omega)
theorem ScB_Pl {a k : Nat} (e : sPl (x + 67) a k) : ScB x a k := by unfold sPl at e; unfold ScB sC; omega
theorem ScM_Ln {a k : Nat} (e : sLn m a k) : ScM m a k := by unfold sLn sX at e; unfold ScM; omega
/-- the class's plan, from its calls -/
theorem pB (W : Wst D V K c Im j tl nc) (R : RB h x D V K c Im j T tl fa) (hW : 0 < dW D) {o : Nat} (r3 : hR h x 3 = some o) {α : Type} {G : Unit → Hp → Option (α × Hp)} {Q : α → Hp → Prop} (k : ∀ h2, Fr (ScB x) h h2 → hS h2 x = some (.inl 0) → hR h2 x 10 = some (x + 67) → LayK h2 (x + 67) → BRk h2 (x + 67) (dN D) (bF D V) → Ok (G () h2) Q) : Ok (gd (hS h x = some (.inl 0)) (bd (f_B_daysToCome x h) fun r6 h5 => gd (hS h5 (x + 67) = some (.inl 7)) (bd (f_K_plan (x + 67) o r6 h5) G))) Q := by
  obtain ⟨o2, o', ho, LB, r32, r4, rO, rD, rV, rP, t1, t2, f1, sUs⟩ := id R
  have e0 : o2 = o := by rw [r3] at r32; exact (Option.some.inj r32).symm
  subst e0
  refine ok_gd LB.1.1 (ok_bd (ok_mono (ok_B_daysToCome R W hW) ?_))
  intro u h2 hx
  obtain ⟨rfl, hF, e1, e2, e33, -, o3, e3, X⟩ := hx
  have eo : o3 = o2 := by rw [e33, r3] at e3; exact (Option.some.inj e3).symm
  subst eo
  have LB2 : LayB h2 x := LB.fr hF (fun a k e => Or.inl e)
  refine ok_gd LB2.2.2.2.1.1 (ok_bd (ok_mono (ok_K_plan LB2.2.2.2.1 X (by omega) (by omega) (by omega)) ?_))
  intro _ h3 hx
  obtain ⟨hF3, hB⟩ := hx
  have hF4 : Fr (ScB x) h h3 := hF.trans (hF3.mono (fun a k e => ScB_Pl e))
  have LB3 : LayB h3 x := LB.fr hF4 (fun a k e => Or.inl e)
  exact k h3 hF4 LB3.1.1 LB3.1.2.2.2.2.2.2.2.1 LB3.2.2.2.1 hB
theorem q_lineWorth (W : Wst D V K c Im j tl nc) (R : RB h x D V K c Im j T tl fa) : Pair x h m (fun h1 => RM h1 m D V K c Im j T tl fa) (f_B_lineWorth x h) (f_m_lineWorth m) := by
  obtain ⟨o, o', ho, LB, r3, r4, rO, rD, rV, rP, t1, t2, f1, sUs⟩ := id R; obtain ⟨⟨x1, x2, x3, x4, x5, x6, x7, x8, x9, x10, x11, x12, x13⟩, LR, LC, LK, LS, LG, LH⟩ := id LB
  have w1 := W.1.1.1
  rcases Nat.eq_zero_or_pos (dW D) with hW | hW
  · refine ⟨-1, 1, by decide, ?_, fun h1 M => qM_st M (fun h0 M F _ => ?_)⟩
    · unfold f_B_lineWorth
      refine ok_gd x1 (ok_bde (e_B_hasOrrery x1 r3 rO w1) ?_)
      rw [decide_eq_false (by omega)]
      exact ok_t rfl (qB_ref Fr.rf x1)
    · exact ok_gd M.1.1 (ok_t (M.2.1 hW) (qM_ref F M.1.1))
  · refine ⟨xI (bF D V).1, 0, by decide, ?_, fun h1 M => qM_st M (fun h0 M F _ => ?_)⟩
    · unfold f_B_lineWorth
      refine ok_gd x1 (ok_bde (e_B_hasOrrery x1 r3 rO w1) ?_)
      rw [decide_eq_true hW]
      refine ok_f (by decide) (ok_gd x1 (ok_bR x8 (ok_gd x1 (ok_bR r3 (pB W R hW r3 ?_)))))
      intro h2 hF2 e1 e10 lk hB
      refine ok_gd e1 (ok_bR e10 (ok_gd lk.1 (ok_lt ?_)))
      rw [hB.2.1]
      exact qB_gr hF2 e1
    · obtain ⟨q, X, hq⟩ := M.dx W hW
      refine ok_gd M.1.1 (ok_f (M.nn hW) (ok_gd M.1.1 (ok_bd (ok_mono (ok_m_lines X) ?_))))
      intro y h2 hx
      obtain ⟨rfl, hF2, -⟩ := hx
      exact qM_gr (F.trans (hF2.r.mono (fun a k e => ScM_Ln e))) (by rw [hF2.2.1]; exact M.1.1)
theorem bF_pos (W : Wf D) : 0 < (bF D V).1 := bs_pos _ _ (Or.inr (PL_0 (dN D) (by have := W.2.2.1; omega)).1)
theorem q_inTime (W : Wst D V K c Im j tl nc) (R : RB h x D V K c Im j T tl fa) : Pair x h m (fun h1 => RM h1 m D V K c Im j T tl fa) (f_B_inTime x h) (f_m_inTime m) := by
  obtain ⟨o, o', ho, LB, r3, r4, rO, rD, rV, rP, t1, t2, f1, sUs⟩ := id R; obtain ⟨⟨x1, x2, x3, x4, x5, x6, x7, x8, x9, x10, x11, x12, x13⟩, LR, LC, LK, LS, LG, LH⟩ := id LB
  have w1 := W.1.1.1
  rcases Nat.eq_zero_or_pos (dW D) with hW | hW
  · refine ⟨-1, 1, by decide, ?_, fun h1 M => qM_st M (fun h0 M F _ => ?_)⟩
    · unfold f_B_inTime
      refine ok_gd x1 (ok_bde (e_B_hasOrrery x1 r3 rO w1) ?_)
      rw [decide_eq_false (by omega)]
      exact ok_t rfl (qB_ref Fr.rf x1)
    · exact ok_gd M.1.1 (ok_t (M.2.1 hW) (qM_ref F M.1.1))
  · refine ⟨(bF D V).2.1, 0, by decide, ?_, fun h1 M => qM_st M (fun h0 M F _ => ?_)⟩
    · unfold f_B_inTime
      refine ok_gd x1 (ok_bde (e_B_hasOrrery x1 r3 rO w1) ?_)
      rw [decide_eq_true hW]
      refine ok_f (by decide) (ok_gd x1 (ok_bR x8 (ok_gd x1 (ok_bR r3 (pB W R hW r3 ?_)))))
      intro h2 hF2 e1 e10 lk hB
      refine ok_gd e1 (ok_bR e10 (ok_gd lk.1 (ok_lt ?_)))
      rw [hB.2.2.1]
      exact qB_gr hF2 e1
    · obtain ⟨q, X, hq⟩ := M.dx W hW
      refine ok_gd M.1.1 (ok_f (M.nn hW) (ok_gd M.1.1 (ok_bd (ok_mono (ok_m_lines X) ?_))))
      intro y h2 hx
      obtain ⟨-, hF2, hB⟩ := hx
      have e1 : hS h2 m = some (.inl 11) := by rw [hF2.2.1]; exact M.1.1
      refine ok_gd e1 (ok_lt ?_)
      rw [(hB.2 (bF_pos W.1.1)).1]
      exact qM_gr (F.trans (hF2.r.mono (fun a k e => ScM_Ln e))) e1
theorem q_lineAt (W : Wst D V K c Im j tl nc) (R : RB h x D V K c Im j T tl fa) (v : Int32) : Pair x h m (fun h1 => RM h1 m D V K c Im j T tl fa) (f_B_lineAt x v h) (f_m_lineAt m v) := by
  obtain ⟨o, o', ho, LB, r3, r4, rO, rD, rV, rP, t1, t2, f1, sUs⟩ := id R; obtain ⟨⟨x1, x2, x3, x4, x5, x6, x7, x8, x9, x10, x11, x12, x13⟩, LR, LC, LK, LS, LG, LH⟩ := id LB
  have o1 := rO.1.1
  have w3 := W.1.1.2.2.1
  have hNc : hI h o 6 = nI (dN D) := rO.2.1.2.2.2.2.1
  rcases pk_ix v (n := dN D) (by omega) with hr | hr | ⟨i, hi, rfl⟩
  · refine ⟨-1, 1, by decide, ?_, fun h1 M => qM_st M (fun h0 M F _ => ?_)⟩
    · unfold f_B_lineAt b_B_lineAt_15
      exact ok_t hr (qB_ref Fr.rf x1)
    · unfold b_m_lineAt_27
      exact ok_gd M.1.1 (ok_ite (fun _ => qM_ref F M.1.1) (fun _ => ok_t hr (qM_ref F M.1.1)))
  · refine ⟨-1, 1, by decide, ?_, fun h1 M => qM_st M (fun h0 M F _ => ?_)⟩
    · unfold f_B_lineAt b_B_lineAt_15
      refine ok_ite (fun _ => qB_ref Fr.rf x1) (fun _ => ?_)
      (try unfold QB); (try unfold QM); repeat (first | (with_reducible refine ok_lt ?_) | ((with_reducible refine ok_gd ?_ ?_); first | assumption | exact zb0 | exact zb1 | ((with_reducible apply ai_of) <;> first | assumption | omega | decide) | exact ai_lit (by assumption) (by decide) (by decide) (by decide)) | (refine ok_bR (by assumption) ?_))
      rw [hNc]
      exact ok_f (Int32.not_lt.mpr hr) (qB_ref Fr.rf x1)
    · unfold b_m_lineAt_27
      obtain ⟨LM, z0, z3, rX, rR, u1, u2, g1⟩ := id M; obtain ⟨a0, ⟨a1, a2, a3, a4, a5, a6, a7, a8, a9, a10, a11, a12, a13⟩, s1, s2, s3, s4, s5, s6, s7, s8, s9, s10, s11, s12, s13⟩ := id LM
      refine ok_gd a0 (ok_ite (fun _ => qM_ref F a0) (fun hnn => ok_ite (fun _ => qM_ref F a0) (fun _ => ?_)))
      have hW : 0 < dW D := by
        rcases Nat.eq_zero_or_pos (dW D) with e | e
        · exact absurd (z0 e) hnn
        · exact e
      obtain ⟨q, q1, q2, q2', rQ⟩ := z3 hW
      refine ok_gd a0 (ok_bR q1 (ok_gd rQ.1.1 (ok_lt ?_)))
      rw [rQ.2.1.2.2.2.2.2.1]
      exact ok_f (Int32.not_lt.mpr hr) (qM_ref F a0)
  · have hW : 0 < dW D := by
      rcases Nat.eq_zero_or_pos (dW D) with e | e
      · have := (W.2.2.2.2.2.2 e).2.1
        omega
      · exact e
    have hi4 : i < 4 := by omega
    refine ⟨nI ((bF D V).2.2.getD i 0), 0, by decide, ?_, fun h1 M => qM_st M (fun h0 M F _ => ?_)⟩
    · unfold f_B_lineAt
      refine ok_f (nI_pos (by omega)) ?_
      (try unfold QB); (try unfold QM); repeat (first | (with_reducible refine ok_lt ?_) | ((with_reducible refine ok_gd ?_ ?_); first | assumption | exact zb0 | exact zb1 | ((with_reducible apply ai_of) <;> first | assumption | omega | decide) | exact ai_lit (by assumption) (by decide) (by decide) (by decide)) | (refine ok_bR (by assumption) ?_))
      rw [hNc]
      refine ok_t (nI_lt hi (by omega)) (ok_gd x1 (ok_bR x8 (ok_gd x1 (ok_bR r3 (pB W R hW r3 ?_)))))
      intro h2 hF2 e1 e10 lk hB
      obtain ⟨k1, k2, k3, k4, k5, k6, k7⟩ := lk
      (try unfold QB); (try unfold QM); repeat (first | (with_reducible refine ok_lt ?_) | ((with_reducible refine ok_gd ?_ ?_); first | assumption | exact zb0 | exact zb1 | ((with_reducible apply ai_of) <;> first | assumption | omega | decide) | exact ai_lit (by assumption) (by decide) (by decide) (by decide)) | (refine ok_bR (by assumption) ?_))
      (try simp (disch := omega) only [nI_clamp, cl0, cl1, cl2, cl3, cl4, cl5, cl6, cl7, cl8])
      have g : hI h2 (x + 67 + 3) i = nI ((bF D V).2.2.getD i 0) := hB.2.2.2 i hi (bF_pos W.1.1)
      rw [g]
      exact qB_g0 hF2 e1
    · obtain ⟨q, X, hq⟩ := M.dx W hW
      refine ok_gd M.1.1 (ok_f (M.nn hW) (ok_f (nI_pos (by omega)) (ok_gd M.1.1 (ok_bR X.2.1 (ok_gd X.2.2.2.1.1.1 (ok_lt ?_))))))
      rw [X.2.2.2.1.2.1.2.2.2.2.2.1]
      refine ok_t (nI_lt hi (by omega)) (ok_gd M.1.1 (ok_bd (ok_mono (ok_m_lines X) ?_)))
      intro y h2 hx
      obtain ⟨-, hF2, hB⟩ := hx
      obtain ⟨a0, ⟨a1, a2, a3, a4, a5, a6, a7, a8, a9, -⟩, s1, s2, s3, s4, s5, s6, s7, s8, s9, -⟩ := M.1.fk hF2
      (try unfold QB); (try unfold QM); repeat (first | (with_reducible refine ok_lt ?_) | ((with_reducible refine ok_gd ?_ ?_); first | assumption | exact zb0 | exact zb1 | ((with_reducible apply ai_of) <;> first | assumption | omega | decide) | exact ai_lit (by assumption) (by decide) (by decide) (by decide)) | (refine ok_bR (by assumption) ?_))
      (try simp (disch := omega) only [nI_clamp, cl0, cl1, cl2, cl3, cl4, cl5, cl6, cl7, cl8])
      rw [(hB.2 (bF_pos W.1.1)).2 i hi]
      exact qM_g0 (F.trans (hF2.r.mono (fun a k e => ScM_Ln e))) a0
end P9
