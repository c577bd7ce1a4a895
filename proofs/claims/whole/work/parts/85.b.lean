/-! acts: turn, turnBack, oil, set, undo, image, back: both sides -/
def inB (x a : Nat) : Prop := x ≤ a ∧ a < x + 88
def inM (m a : Nat) : Prop := m ≤ a ∧ a ≤ m + 13
def PairA {α : Type} (x : Nat) (h : Hp) (m : Nat) (P : Hp → Prop) (T : Nat → Int32) (tl : Nat) (fa : Int32) (nc : Nat) (F : Option (α × Hp)) (G : Hp → Option (α × Hp)) : Prop := ∃ r t D V K c Im j, t ≠ 4 ∧ Wst D V K c Im j tl (nc + 1) ∧ Ok F (fun r' h' => r' = r ∧ Fr (fun a _ => inB x a) h h' ∧ RB h' x D V K c Im j T tl fa ∧ hI h' x 15 = t) ∧ ∀ h1, P h1 → Ok (G h1) (fun r' h2 => r' = r ∧ Fr (fun a _ => inM m a) h1 h2 ∧ RM h2 m D V K c Im j T tl fa ∧ hI h2 m 1 = t ∧ hI h2 m 2 = -1)
section AC
variable {S : Nat → Nat → Prop} {h h' h1 : Hp} {x m c j tl nc : Nat} {D : DD} {V : Nat → Nat} {K Im : Nat → Nat → Nat} {T : Nat → Int32} {fa : Int32}
theorem ScB_in {a k : Nat} (e : ScB x a k) : inB x a := by unfold ScB sC at e; unfold inB; omega
theorem ScM_in {a k : Nat} (e : ScM m a k) : inM m a := by unfold ScM at e; unfold inM; omega
theorem Wst.up (W : Wst D V K c Im j tl nc) (hn : nc < 512) : Wst D V K c Im j tl (nc + 1) := ⟨W.1, W.2.1.up (by omega), fun i hi => (W.2.2.1 i hi).up (by omega), fun i hi => (W.2.2.2.1 i hi).up (by omega), W.2.2.2.2.1, by omega, W.2.2.2.2.2.2⟩
theorem Pair.a {α : Type} {F : Option (α × Hp)} {G : Hp → Option (α × Hp)} (W : Wst D V K c Im j tl nc) (hn : nc < 512) (R : RB h x D V K c Im j T tl fa) (p : Pair x h m (fun h1 => RM h1 m D V K c Im j T tl fa) F G) : PairA x h m (fun h1 => RM h1 m D V K c Im j T tl fa) T tl fa nc F G := by
  obtain ⟨r, t, ht, hB, hM⟩ := p
  refine ⟨r, t, D, V, K, c, Im, j, ht, W.up hn, ok_mono hB (fun r' h' hh => ⟨hh.1, hh.2.1.mono (fun a k e => ScB_in e), R.fr W.1.1 hh.2.1 (fun a k e => Or.inl e), hh.2.2⟩), fun h1 M => ok_mono (hM h1 M) (fun r' h' hh => ⟨hh.1, hh.2.1.mono (fun a k e => ScM_in e), M.fr hh.2.1 (fun a k e => Or.inl e), hh.2.2⟩)⟩
theorem RB.mk' {V2 : Nat → Nat} {K2 Im2 : Nat → Nat → Nat} {c2 j2 : Nat} (R : RB h x D V K c Im j T tl fa) (W : Wf D) (F : Fr S h h') (hS' : ∀ a k, S a k → ScB x a k ∨ a = x + 36 ∨ (a = x + 38 ∧ 2 ≤ k) ∨ a = x + 39 ∨ a = x + 40) (rV2 : RepV h' (x + 36) V2) (rP2 : RepP h' (x + 38) K2 c2 Im2 j2) : RB h' x D V2 K2 c2 Im2 j2 T tl fa := by
  obtain ⟨o, o', ho, L, r3, r4, rO, rD, rV, rP, t1, t2, f1, sUs⟩ := R
  have no : ∀ a k, ¬ (ScB x a k ∨ a = x + 36 ∨ (a = x + 38 ∧ 2 ≤ k) ∨ a = x + 39 ∨ a = x + 40) → ¬ S a k := fun a k hn e => hn (hS' a k e)
  have L' : LayB h' x := by
    -- only numbers of the state and the past changed besides
    obtain ⟨⟨x1, x2, x3, x4, x5, x6, x7, x8, x9, x10, x11, x12, x13⟩, ⟨r1, r2, r3, r4, r5⟩, lC, ⟨k1, k2, k3, k4, k5⟩, ⟨s1, s2, s3, s4, s5, s6⟩, ⟨g1, g2, g3, g4⟩, c1, c2, c3, c4⟩ := L
    have fS := F.2.1
    have nr : ∀ a k, ¬ (ScB x a k ∨ a = x + 36 ∨ (a = x + 38 ∧ 2 ≤ k) ∨ a = x + 39 ∨ a = x + 40) → hR h' a k = hR h a k := fun a k hn => (F.2.2.2 a k (no a k hn)).2.2
    have nx : ∀ k, k ≠ 7 → k ≠ 15 → hR h' x k = hR h x k := fun k h1 h2 => nr x k (by unfold ScB sC; omega)
    refine ⟨?_, ?_, lC.fr F (fun a k e => ?_), ?_, ?_, ?_, ?_⟩
    · unfold LayX
      rw [fS, nx 0 (by decide) (by decide), nx 2 (by decide) (by decide), nx 5 (by decide) (by decide), nx 6 (by decide) (by decide), nx 8 (by decide) (by decide), nx 9 (by decide) (by decide), nx 10 (by decide) (by decide), nx 11 (by decide) (by decide), nx 12 (by decide) (by decide), nx 13 (by decide) (by decide)]
      exact ⟨x1, x2, x3, x4, x5, x6, x7, x8, x9, x10, x11, x12, x13⟩
    · unfold LayRd
      rw [fS, nr (x + 2) 13 (by unfold ScB sC; omega), nr (x + 2) 14 (by unfold ScB sC; omega), nr (x + 2) 15 (by unfold ScB sC; omega)]
      exact ⟨r1, r2, r3, r4, r5⟩
    · have g := hS' _ _ e
      unfold ScB sC at g
      unfold sC
      omega
    · unfold LayK
      rw [fS, nr (x + 67) 0 (by unfold ScB sC; omega), nr (x + 67) 1 (by unfold ScB sC; omega), nr (x + 67) 2 (by unfold ScB sC; omega)]
      exact ⟨k1, k2, k3, k4, k5⟩
    · unfold LayS
      rw [fS, nr (x + 71) 0 (by unfold ScB sC; omega), nr (x + 71) 1 (by unfold ScB sC; omega), nr (x + 71) 2 (by unfold ScB sC; omega), nr (x + 71) 3 (by unfold ScB sC; omega)]
      exact ⟨s1, s2, s3, s4, s5, s6⟩
    · unfold LayG
      rw [fS, nr (x + 76) 0 (by unfold ScB sC; omega)]
      exact ⟨g1, g2, g3, fun i hi => ⟨by rw [nr (x + 76 + 1) i (by unfold ScB sC; omega)]; exact (g4 i hi).1, (g4 i hi).2⟩⟩
    · unfold LayH
      rw [fS, nr (x + 85) 0 (by unfold ScB sC; omega), nr (x + 85) 1 (by unfold ScB sC; omega)]
      exact ⟨c1, c2, c3, c4⟩
  refine ⟨o, o', ho, L', ?_, ?_, rO.fr F (fun i k hi => no _ _ ?_) W.1, rD.fr F (fun i k hi => no _ _ ?_), rV2, rP2, ?_, fun p hp => ?_, ?_, sUs.fr F (fun i k hi => no _ _ ?_)⟩
  · rw [(F.2.2.2 x 3 (no _ _ (by unfold ScB sC; omega))).2.2]
    exact r3
  · rw [(F.2.2.2 x 4 (no _ _ (by unfold ScB sC; omega))).2.2]
    exact r4
  · unfold ScB sC
    omega
  · unfold ScB sC
    omega
  · rw [(F.2.2.2 x 1 (no _ _ (by unfold ScB sC; omega))).1]
    exact t1
  · rw [(F.2.2.2 (x + 1) p (no _ _ (by unfold ScB sC; omega))).1]
    exact t2 p hp
  · rw [(F.2.2.2 x 14 (no _ _ (by unfold ScB sC; omega))).1]
    exact f1
  · unfold ScB sC
    omega
theorem RM.mk' {V2 : Nat → Nat} {K2 Im2 : Nat → Nat → Nat} {c2 j2 : Nat} (R : RM h m D V K c Im j T tl fa) (F : Fr S h h') (hS' : ∀ a k, S a k → ScM m a k ∨ a = m + 2 ∨ (a = m ∧ (k = 19 ∨ k = 20)) ∨ a = m + 4 ∨ a = m + 5) (rX2 : RepX h' (m + 2) V2) (rR2 : RepR h' m K2 c2 Im2 j2) : RM h' m D V2 K2 c2 Im2 j2 T tl fa := by
  obtain ⟨L, r0, r3, rX, rR, t1, t2, f1⟩ := R
  have no : ∀ a k, ¬ (ScM m a k ∨ a = m + 2 ∨ (a = m ∧ (k = 19 ∨ k = 20)) ∨ a = m + 4 ∨ a = m + 5) → ¬ S a k := fun a k hn e => hn (hS' a k e)
  refine ⟨L.fr F (fun k hk => no _ _ ?_), fun hz => ?_, fun hz => ?_, rX2, rR2, ?_, fun p hp => ?_, ?_⟩
  · unfold mRf at hk
    unfold ScM
    omega
  · rw [(F.2.2.2 m 3 (no _ _ (by unfold ScM; omega))).2.2]
    exact r0 hz
  · obtain ⟨q, q1, q2, q3, q4⟩ := r3 hz
    refine ⟨q, ?_, q2, by rw [F.1]; exact q3, q4.fr F (fun i k hi => no _ _ ?_)⟩
    · rw [(F.2.2.2 m 3 (no _ _ (by unfold ScM; omega))).2.2]
      exact q1
    · unfold ScM
      omega
  · rw [(F.2.2.2 m 6 (no _ _ (by unfold ScM; omega))).1]
    exact t1
  · rw [(F.2.2.2 (m + 1) p (no _ _ (by unfold ScM; omega))).1]
    exact t2 p hp
  · rw [(F.2.2.2 m 12 (no _ _ (by unfold ScM; omega))).1]
    exact f1
/-- what acts write -/
def aB (x a k : Nat) : Prop := (a = x ∧ k = 15) ∨ a = x + 36 ∨ (a = x + 38 ∧ 2 ≤ k) ∨ a = x + 39 ∨ a = x + 40
def aM (m a k : Nat) : Prop := (a = m ∧ (k ≤ 2 ∨ k = 19 ∨ k = 20 ∨ k = 21)) ∨ a = m + 2 ∨ a = m + 3 ∨ a = m + 4 ∨ a = m + 5
theorem aB_P {a k : Nat} (e : sP (x + 38) a k) : aB x a k := by unfold sP at e; unfold aB; omega
theorem aM_R {a k : Nat} (e : sR m a k) : aM m a k := by unfold sR at e; unfold aM; omega
theorem aM_X {a k : Nat} (e : sX m a k) : aM m a k := by unfold sX at e; unfold aM; omega
theorem aB_fin {V2 : Nat → Nat} {K2 Im2 : Nat → Nat → Nat} {c2 j2 : Nat} {t : Int32} (R : RB h x D V K c Im j T tl fa) (W : Wf D) (F : Fk (aB x) h h') (rV2 : RepV h' (x + 36) V2) (rP2 : RepP h' (x + 38) K2 c2 Im2 j2) : Fr (fun a _ => inB x a) h (uI h' x 15 t) ∧ RB (uI h' x 15 t) x D V2 K2 c2 Im2 j2 T tl fa ∧ hI (uI h' x 15 t) x 15 = t := by
  have F2 : Fr (aB x) h (uI h' x 15 t) := F.r.trans (fr_uI (Or.inl ⟨rfl, rfl⟩))
  have F3 : Fr (fun a k => a = x ∧ k = 15) h' (uI h' x 15 t) := fr_uI ⟨rfl, rfl⟩
  exact ⟨F2.mono (fun a k e => by unfold aB at e; unfold inB; omega), R.mk' W F2 (fun a k e => by unfold aB at e; unfold ScB; omega) (rV2.fr F3 (fun k e => by omega)) (rP2.fr F3 (fun i k hi e => by omega)), hI_uIs⟩
theorem aM_fin {V2 : Nat → Nat} {K2 Im2 : Nat → Nat → Nat} {c2 j2 : Nat} {t : Int32} (R : RM h m D V K c Im j T tl fa) (F : Fk (aM m) h h') (rX2 : RepX h' (m + 2) V2) (rR2 : RepR h' m K2 c2 Im2 j2) : Fr (fun a _ => inM m a) h (uI (uI h' m 1 t) m 2 (-1)) ∧ RM (uI (uI h' m 1 t) m 2 (-1)) m D V2 K2 c2 Im2 j2 T tl fa ∧ hI (uI (uI h' m 1 t) m 2 (-1)) m 1 = t ∧ hI (uI (uI h' m 1 t) m 2 (-1)) m 2 = -1 := by
  have F3 : Fr (fun a k => a = m ∧ k ≤ 2) h' (uI (uI h' m 1 t) m 2 (-1)) := (fr_uI ⟨rfl, by decide⟩).trans (fr_uI ⟨rfl, by decide⟩)
  have F2 : Fr (aM m) h (uI (uI h' m 1 t) m 2 (-1)) := F.r.trans (F3.mono (fun a k e => by unfold aM; omega))
  exact ⟨F2.mono (fun a k e => by unfold aM at e; unfold inM; omega), R.mk' F2 (fun a k e => by unfold aM at e; unfold ScM; omega) (rX2.fr F3 (fun k e => by omega)) (rR2.fr F3 (by omega) (by omega) (fun k e => by omega) (fun k e => by omega)), by rw [hI_uIk (by decide), hI_uIs], hI_uIs⟩
theorem ok_m_becomes {U : Nat → Nat} {J : Nat} (LM : LayM h m) (v : RepX h (m + 3) U) : Ok (f_m_becomes m (nI J) h) (fun y h' => y = nI J ∧ ∃ h2, h' = uI (uI h2 m 1 0) m 2 (-1) ∧ Fk (fun a _ => a = m + 2) h h2 ∧ RepX h2 (m + 2) (upV U 2 (U 2 + J))) := by
  unfold f_m_becomes
  refine ok_lt (ok_up 8 (fun i st h' => st = (m, nI J, nI i) ∧ Fk (fun a _ => a = m + 2) h h' ∧ ∀ k, k < i → hI h' (m + 2) k = xv U k (hI h' (m + 2) k)) ?_ FU 0 _ _ (Nat.zero_le _) ⟨rfl, Fk.rf, fun k hk => absurd hk (Nat.not_lt_zero _)⟩ (by show _ < 10000; omega))
  intro k i st h' hi hI' kk
  obtain ⟨rfl, hF, hp⟩ := hI'
  obtain ⟨a0, ⟨a1, a2, a3, a4, a5, -⟩, s1, s2, s3, s4, s5, -⟩ := LM.fk hF
  have v' : RepX h' (m + 3) U := v.fk hF (fun k e => by omega)
  show Ok (b_m_becomes_2 k m (nI J) (nI i) h') _
  unfold b_m_becomes_2
  refine ok_it (a := 8) hi (by decide) (fun e => ?_) (fun hl => ?_)
  · subst e
    (try unfold QB); (try unfold QM); repeat (first | (with_reducible refine ok_lt ?_) | ((with_reducible refine ok_gd ?_ ?_); first | assumption | exact zb0 | exact zb1 | ((with_reducible apply ai_of) <;> first | assumption | omega | decide) | exact ai_lit (by assumption) (by decide) (by decide) (by decide)) | (refine ok_bR (by assumption) ?_))
    (try simp (disch := omega) only [nI_clamp, cl0, cl1, cl2, cl3, cl4, cl5, cl6, cl7, cl8])
    have g7 : hI h' (m + 2) 7 = nI (U 2) := hp 7 (by decide)
    rw [g7, nI_add]
    refine ok_bde (e_m_good a0) (ok_ret ⟨rfl, uI h' (m + 2) 7 (nI (U 2 + J)), rfl, hF.trans (fk_uI rfl), ?_⟩)
    have v2 : RepX h' (m + 2) U := ⟨s2, hp⟩
    exact v2.up (k := 7) (by decide) (U 2 + J)
  · (try unfold QB); (try unfold QM); repeat (first | (with_reducible refine ok_lt ?_) | ((with_reducible refine ok_gd ?_ ?_); first | assumption | exact zb0 | exact zb1 | ((with_reducible apply ai_of) <;> first | assumption | omega | decide) | exact ai_lit (by assumption) (by decide) (by decide) (by decide)) | (refine ok_bR (by assumption) ?_))
    (try simp (disch := omega) only [nI_clamp, cl0, cl1, cl2, cl3, cl4, cl5, cl6, cl7, cl8])
    refine kk _ _ hl ⟨by rw [nI_1], hF.trans (fk_uI rfl), fun j hj => ?_⟩
    by_cases e : j = i
    · rw [e, hI_uIs]
      exact v'.2 i hl
    · rw [hI_uIk e]
      exact hp j (by omega)
theorem Wst.shk (W : Wst D V K c Im j tl nc) (hn : nc < 512) {V2 : Nat → Nat} (g : WfG D V2 (nc + 1)) (hW : 0 < dW D) : Wst D V2 (shK K V) (min 16 (c + 1)) Im j tl (nc + 1) := by
  refine ⟨W.1, g, fun i hi => ?_, fun i hi => (W.2.2.2.1 i hi).up (by omega), W.2.2.2.2.1, by omega, fun e => by omega⟩
  cases i with
  | zero => exact W.2.1.up (by omega)
  | succ i => exact (W.2.2.1 i (by omega)).up (by omega)
theorem a_turn (W : Wst D V K c Im j tl nc) (hn : nc < 512) (R : RB h x D V K c Im j T tl fa) : PairA x h m (fun h1 => RM h1 m D V K c Im j T tl fa) T tl fa nc (f_B_turn x h) (f_m_turn m) := by
  have hV0 := W.2.1.1
  have hv := W.2.1.v W.2.2.2.2.2.1
  have w1 := W.1.1.1
  rcases Nat.eq_zero_or_pos (dW D) with hW | hW
  · refine Pair.a W hn R ⟨-1, 1, by decide, ?_, fun h1 M => qM_st M (fun h0 M F _ => ?_)⟩
    · obtain ⟨o, o', ho, LB, r3, r4, rO, rD, rV, rP, t1, t2, f1, sUs⟩ := id R; obtain ⟨⟨x1, x2, x3, x4, x5, x6, x7, x8, x9, x10, x11, x12, x13⟩, LR, LC, LK, LS, LG, LH⟩ := id LB
      unfold f_B_turn
      refine ok_gd x1 (ok_bde (e_B_hasOrrery x1 r3 rO w1) ?_)
      rw [decide_eq_false (by omega)]
      exact ok_t rfl (qB_ref Fr.rf x1)
    · exact ok_gd M.1.1 (ok_t (M.2.1 hW) (qM_ref F M.1.1))
  by_cases hd : V 0 = 999999
  · refine Pair.a W hn R ⟨-1, 3, by decide, ?_, fun h1 M => qM_st M (fun h0 M F _ => ?_)⟩
    · obtain ⟨o, o', ho, LB, r3, r4, rO, rD, rV, rP, t1, t2, f1, sUs⟩ := id R; obtain ⟨⟨x1, x2, x3, x4, x5, x6, x7, x8, x9, x10, x11, x12, x13⟩, LR, LC, LK, LS, LG, LH⟩ := id LB
      have v1 := rV.1
      unfold f_B_turn
      refine ok_gd x1 (ok_bde (e_B_hasOrrery x1 r3 rO w1) ?_)
      rw [decide_eq_true hW]
      refine ok_f (by decide) ?_
      (try unfold QB); (try unfold QM); repeat (first | (with_reducible refine ok_lt ?_) | ((with_reducible refine ok_gd ?_ ?_); first | assumption | exact zb0 | exact zb1 | ((with_reducible apply ai_of) <;> first | assumption | omega | decide) | exact ai_lit (by assumption) (by decide) (by decide) (by decide)) | (refine ok_bR (by assumption) ?_))
      (try simp (disch := omega) only [nI_clamp, cl0, cl1, cl2, cl3, cl4, cl5, cl6, cl7, cl8])
      rw [rV.2 0 (by decide), hd]
      exact ok_f (by decide) (qB_ref Fr.rf x1)
    · have hnn := M.nn hW
      obtain ⟨LM, z0, z3, rX, rR, u1, u2, g1⟩ := id M; obtain ⟨a0, ⟨a1, a2, a3, a4, a5, a6, a7, a8, a9, a10, a11, a12, a13⟩, s1, s2, s3, s4, s5, s6, s7, s8, s9, s10, s11, s12, s13⟩ := id LM
      refine ok_gd a0 (ok_f hnn ?_)
      (try unfold QB); (try unfold QM); repeat (first | (with_reducible refine ok_lt ?_) | ((with_reducible refine ok_gd ?_ ?_); first | assumption | exact zb0 | exact zb1 | ((with_reducible apply ai_of) <;> first | assumption | omega | decide) | exact ai_lit (by assumption) (by decide) (by decide) (by decide)) | (refine ok_bR (by assumption) ?_))
      (try simp (disch := omega) only [nI_clamp, cl0, cl1, cl2, cl3, cl4, cl5, cl6, cl7, cl8])
      have g : hI h0 (m + 2) 5 = nI (V 0) := rX.2 5 (by decide)
      rw [g, hd]
      exact ok_t rfl (qM_ref F a0)
  · have hJ := mvJ_le (D := D) (s := true) (V := V) (i := dW D)
    have gN := WfN.tnV_ (n := 0) W.1.1 (W.2.1.n W.2.2.2.2.2.1 (n := 1) (by decide))
    have g2 : WfG D (tnV D V) (nc + 1) := by
      have b2 := W.2.1.2.2.1
      refine ⟨by show V 0 + 1 ≤ _; omega, gN.2.1, ?_, gN.2.2.2⟩
      show V 2 + mvJ D true V (dW D) ≤ _
      omega
    refine ⟨nI (tnJ D V), 0, D, tnV D V, shK K V, min 16 (c + 1), Im, j, by decide, W.shk hn g2 hW, ?_, fun h1 M => ?_⟩
    · obtain ⟨o, o', ho, LB, r3, r4, rO, rD, rV, rP, t1, t2, f1, sUs⟩ := id R; obtain ⟨⟨x1, x2, x3, x4, x5, x6, x7, x8, x9, x10, x11, x12, x13⟩, LR, LC, LK, LS, LG, LH⟩ := id LB
      have v1 := rV.1
      have P1 := rP.1
      unfold f_B_turn
      refine ok_gd x1 (ok_bde (e_B_hasOrrery x1 r3 rO w1) ?_)
      rw [decide_eq_true hW]
      refine ok_f (by decide) ?_
      (try unfold QB); (try unfold QM); repeat (first | (with_reducible refine ok_lt ?_) | ((with_reducible refine ok_gd ?_ ?_); first | assumption | exact zb0 | exact zb1 | ((with_reducible apply ai_of) <;> first | assumption | omega | decide) | exact ai_lit (by assumption) (by decide) (by decide) (by decide)) | (refine ok_bR (by assumption) ?_))
      (try simp (disch := omega) only [nI_clamp, cl0, cl1, cl2, cl3, cl4, cl5, cl6, cl7, cl8])
      rw [rV.2 0 (by decide)]
      refine ok_t (nI_lt (b := 999999) (by omega) (by decide)) ?_
      (try unfold QB); (try unfold QM); repeat (first | (with_reducible refine ok_lt ?_) | ((with_reducible refine ok_gd ?_ ?_); first | assumption | exact zb0 | exact zb1 | ((with_reducible apply ai_of) <;> first | assumption | omega | decide) | exact ai_lit (by assumption) (by decide) (by decide) (by decide)) | (refine ok_bR (by assumption) ?_))
      refine ok_bd (ok_mono (ok_P_keep rP rV) ?_)
      intro _ h2 hx
      obtain ⟨hF2, rP2⟩ := hx
      have hF2' : Fk (aB x) h h2 := hF2.mono (fun a k e => aB_P e)
      have e1 : hS h2 x = some (.inl 0) := by rw [hF2.2.1]; exact x1
      have e3 : hR h2 x 3 = some o := by rw [hF2.2.2.2.1]; exact r3
      have e5 : hR h2 x 5 = some (x + 36) := by rw [hF2.2.2.2.1]; exact x4
      have rO2 : RepO h2 o D := rO.fk hF2 (fun i k hi e => by unfold sP at e; omega) w1
      have rV2 : RepV h2 (x + 36) V := rV.fk hF2 (fun k e => by unfold sP at e; omega)
      have o1 := rO2.1.1
      (try unfold QB); (try unfold QM); repeat (first | (with_reducible refine ok_lt ?_) | ((with_reducible refine ok_gd ?_ ?_); first | assumption | exact zb0 | exact zb1 | ((with_reducible apply ai_of) <;> first | assumption | omega | decide) | exact ai_lit (by assumption) (by decide) (by decide) (by decide)) | (refine ok_bR (by assumption) ?_))
      refine ok_bd (ok_mono (ok_O_goTurn W.1.1 rO2 rV2 hv (fun i hi => by omega)) ?_)
      intro y h3 hx
      obtain ⟨rfl, hF3, rV3⟩ := hx
      have e13 : hS h3 x = some (.inl 0) := by rw [hF3.2.1]; exact e1
      have hF4 : Fk (aB x) h h3 := hF2'.trans (hF3.k.mono (fun a k e => Or.inr (Or.inl e)))
      exact ok_gd e13 (ok_bde (e_B_grant e13) (ok_ret ⟨rfl, aB_fin R W.1.1 hF4 rV3 (rP2.fr hF3.k.r (fun i k hi e => by omega))⟩))
    · have hF0 : Fk (aM m) h1 (uI h1 m 0 0) := fk_uI (Or.inl ⟨rfl, Or.inl (by decide)⟩)
      have M0 : RM (uI h1 m 0 0) m D V K c Im j T tl fa := M.fr (fr_uI (S := ScM m) (ScM_l (by decide))) (fun a k e => Or.inl e)
      refine ok_gd M.1.1 (ok_lt ?_)
      generalize uI h1 m 0 0 = h0 at hF0 M0
      have M1 := M
      clear M
      have M := M0
      have hnn := M.nn hW
      obtain ⟨LM, z0, z3, rX, rR, u1, u2, g1⟩ := id M; obtain ⟨a0, ⟨a1, a2, a3, a4, a5, a6, a7, a8, a9, a10, a11, a12, a13⟩, s1, s2, s3, s4, s5, s6, s7, s8, s9, s10, s11, s12, s13⟩ := id LM
      obtain ⟨q, q1, q2, q2', rQ⟩ := z3 hW
      refine ok_gd a0 (ok_f hnn ?_)
      (try unfold QB); (try unfold QM); repeat (first | (with_reducible refine ok_lt ?_) | ((with_reducible refine ok_gd ?_ ?_); first | assumption | exact zb0 | exact zb1 | ((with_reducible apply ai_of) <;> first | assumption | omega | decide) | exact ai_lit (by assumption) (by decide) (by decide) (by decide)) | (refine ok_bR (by assumption) ?_))
      (try simp (disch := omega) only [nI_clamp, cl0, cl1, cl2, cl3, cl4, cl5, cl6, cl7, cl8])
      have g : hI h0 (m + 2) 5 = nI (V 0) := rX.2 5 (by decide)
      rw [g]
      refine ok_f (fun e => hd ((nI_eq (b := 999999) (by omega) (by decide)).mp e)) ?_
      refine ok_gd a0 (ok_bd (ok_mono (ok_m_remembers LM rX rR) ?_))
      intro _ h2 hx
      obtain ⟨hF2, rR2⟩ := hx
      have LM2 := LM.fk hF2
      have rX2 : RepX h2 (m + 2) V := rX.fk hF2 (fun k e => by unfold sR at e; omega)
      have rQ2 : RepQ h2 q D := rQ.fk hF2 (fun i k hi e => by unfold sR at e; omega)
      refine ok_gd LM2.1 (ok_bd (ok_mono (ok_m_works LM2 rX2) ?_))
      intro _ h3 hx
      obtain ⟨hF3, rX3⟩ := hx
      have LM3 := LM2.fk hF3
      have rQ3 : RepQ h3 q D := rQ2.fk hF3 (fun i k hi e => by unfold sX at e; omega)
      have q13 : hR h3 m 3 = some q := by rw [hF3.2.2.2.1, hF2.2.2.2.1]; exact q1
      refine ok_gd LM3.1 (ok_bd (ok_mono (ok_m_aTurn LM3 q13 (by omega) rQ3 W.1.1 rX3 hv) ?_))
      intro y h4 hx
      obtain ⟨rfl, hF4, rX4⟩ := hx
      have LM4 := LM3.fk hF4
      refine ok_gd LM4.1 (ok_bd (ok_mono (ok_m_becomes LM4 rX4) ?_))
      intro y h5 hx
      obtain ⟨rfl, h6, rfl, hF6, rX6⟩ := hx
      have hF7 : Fk (aM m) h1 h6 := (((hF0.trans (hF2.mono (fun a k e => aM_R e))).trans (hF3.mono (fun a k e => aM_X e))).trans (hF4.mono (fun a k e => aM_X e))).trans (hF6.mono (fun a k e => Or.inr (Or.inl e)))
      have rR6 : RepR h6 m (shK K V) (min 16 (c + 1)) Im j := ((rR2.fr hF3.r (by unfold sX; omega) (by unfold sX; omega) (fun k => by unfold sX; omega) (fun k => by unfold sX; omega)).fr hF4.r (by unfold sX; omega) (by unfold sX; omega) (fun k => by unfold sX; omega) (fun k => by unfold sX; omega)).fr hF6.r (by omega) (by omega) (fun k => by omega) (fun k => by omega)
      refine ok_ret ⟨rfl, aM_fin M1 hF7 (rX6.ext (fun k hk => ?_)) rR6⟩
      have e := EqV.tn (D := D) (EqV.rf (V := V))
      by_cases q5 : k = 2
      · rw [q5]
        show tnX D V 2 + tnJ D V = V 2 + mvJ D true V (dW D)
        have e2 : tnX D V 2 = V 2 := mvV_lo (D := D) (s := true) (V := V) (i := dW D) (k := 2) (by decide)
        rw [e2]
        rfl
      · show (if k = 2 then _ else tnX D V k) = _
        rw [if_neg q5, e k q5]
end AC
