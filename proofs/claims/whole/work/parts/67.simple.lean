/-! questions that only read -/
def Pair {α : Type} (x : Nat) (h : Hp) (m : Nat) (P : Hp → Prop) (F : Option (α × Hp)) (G : Hp → Option (α × Hp)) : Prop := ∃ r t, t ≠ 4 ∧ QB x h F r t ∧ ∀ h1, P h1 → QM m h1 (G h1) r t
section SM
variable {h h1 : Hp} {x m o q c j tl nc : Nat} {D : DD} {V : Nat → Nat} {K Im : Nat → Nat → Nat} {T : Nat → Int32} {fa : Int32}
theorem qM_st {α : Type} {G : Hp → Option (α × Hp)} {r : α} {t : Int32} (M : RM h m D V K c Im j T tl fa) (k : ∀ h0, RM h0 m D V K c Im j T tl fa → Fr (ScM m) h h0 → hI h0 m 0 = 0 → QM m h (G h0) r t) : QM m h (gd (hS h m = some (.inl 11)) (lt (uI h m 0 0) G)) r t :=
  ok_gd M.1.1 (ok_lt (k _ (M.fr (fr_uI (S := ScM m) (ScM_l (by decide))) (fun a k e => Or.inl e)) (fr_uI (ScM_l (by decide))) hI_uIs))
theorem e_B_hasWheel (hx : hS h x = some (.inl 0)) (h3 : hR h x 3 = some o) (R : RepO h o D) (hW : dW D ≤ 5) (v : Int32) : f_B_hasWheel x v h = some (bI (isN (dW D) v), h) := by
  refine ok_eq ?_
  unfold f_B_hasWheel
  have ho := R.1.1
  refine ok_ite (fun c => ok_gd zb0 (ok_ret ⟨by rw [isN_neg c]; rfl, rfl⟩)) (fun c => ?_)
  (try unfold QB); (try unfold QM); repeat (first | (with_reducible refine ok_lt ?_) | ((with_reducible refine ok_gd ?_ ?_); first | assumption | exact zb0 | exact zb1 | ((with_reducible apply ai_of) <;> first | assumption | omega | decide) | exact ai_lit (by assumption) (by decide) (by decide) (by decide)) | (refine ok_bR (by assumption) ?_))
  rw [R.2.1.2.2.1]
  refine ok_ite (fun c2 => ok_gd zb0 (ok_ret ⟨by rw [isN_big c2]; rfl, rfl⟩)) (fun c2 => ok_gd zb1 (ok_ret ⟨?_, rfl⟩))
  rw [show isN (dW D) v = true from decide_eq_true ⟨Int32.not_lt.mp c, Int32.not_le.mp c2⟩]
  rfl
theorem e_B_hasFeast (hx : hS h x = some (.inl 0)) (h3 : hR h x 3 = some o) (R : RepO h o D) (v : Int32) : f_B_hasFeast x v h = some (bI (isN (dF D) v), h) := by
  refine ok_eq ?_
  unfold f_B_hasFeast
  have ho := R.1.1
  refine ok_ite (fun c => ok_gd zb0 (ok_ret ⟨by rw [isN_neg c]; rfl, rfl⟩)) (fun c => ?_)
  (try unfold QB); (try unfold QM); repeat (first | (with_reducible refine ok_lt ?_) | ((with_reducible refine ok_gd ?_ ?_); first | assumption | exact zb0 | exact zb1 | ((with_reducible apply ai_of) <;> first | assumption | omega | decide) | exact ai_lit (by assumption) (by decide) (by decide) (by decide)) | (refine ok_bR (by assumption) ?_))
  rw [R.2.1.2.2.2.1]
  refine ok_ite (fun c2 => ok_gd zb0 (ok_ret ⟨by rw [isN_big c2]; rfl, rfl⟩)) (fun c2 => ok_gd zb1 (ok_ret ⟨?_, rfl⟩))
  rw [show isN (dF D) v = true from decide_eq_true ⟨Int32.not_lt.mp c, Int32.not_le.mp c2⟩]
  rfl
theorem e_B_hasOrrery (hx : hS h x = some (.inl 0)) (h3 : hR h x 3 = some o) (R : RepO h o D) (hW : dW D ≤ 5) : f_B_hasOrrery x h = some (bI (decide (0 < dW D)), h) := by
  refine ok_eq ?_
  unfold f_B_hasOrrery
  have ho := R.1.1
  (try unfold QB); (try unfold QM); repeat (first | (with_reducible refine ok_lt ?_) | ((with_reducible refine ok_gd ?_ ?_); first | assumption | exact zb0 | exact zb1 | ((with_reducible apply ai_of) <;> first | assumption | omega | decide) | exact ai_lit (by assumption) (by decide) (by decide) (by decide)) | (refine ok_bR (by assumption) ?_))
  rw [R.2.1.2.2.1]
  refine ok_ile (b := 0) (by omega) (by decide) (fun c => ok_gd zb0 (ok_ret ⟨?_, rfl⟩)) (fun c => ok_gd zb1 (ok_ret ⟨?_, rfl⟩))
  · rw [decide_eq_false (by omega)]
    rfl
  · rw [decide_eq_true c]
    rfl
theorem e_m_isWheel (M : RM h m D V K c Im j T tl fa) (hW : dW D ≤ 5) (v : Int32) : f_m_isWheel m v h = some (bI (isN (dW D) v), h) := by
  obtain ⟨LM, z0, z3, rX, rR, u1, u2, g1⟩ := id M; obtain ⟨a0, ⟨a1, a2, a3, a4, a5, a6, a7, a8, a9, a10, a11, a12, a13⟩, s1, s2, s3, s4, s5, s6, s7, s8, s9, s10, s11, s12, s13⟩ := id LM
  refine ok_eq ?_
  unfold f_m_isWheel
  refine ok_gd a0 ?_
  rcases Nat.eq_zero_or_pos (dW D) with hz | hz
  · refine ok_t (z0 hz) (ok_gd zb0 (ok_ret ⟨?_, rfl⟩))
    rw [hz, show isN 0 v = false from decide_eq_false (fun g => absurd g.2 (Int32.not_lt.mpr g.1))]
    rfl
  · obtain ⟨q, q1, q2, q2', rQ⟩ := z3 hz
    have b1 := rQ.1.1
    refine ok_f (by rw [q1]; simp) ?_
    refine ok_ite (fun c => ok_gd zb0 (ok_ret ⟨by rw [isN_neg c]; rfl, rfl⟩)) (fun c => ?_)
    (try unfold QB); (try unfold QM); repeat (first | (with_reducible refine ok_lt ?_) | ((with_reducible refine ok_gd ?_ ?_); first | assumption | exact zb0 | exact zb1 | ((with_reducible apply ai_of) <;> first | assumption | omega | decide) | exact ai_lit (by assumption) (by decide) (by decide) (by decide)) | (refine ok_bR (by assumption) ?_))
    rw [rQ.2.1.2.2.1]
    refine ok_ite (fun c2 => ok_gd zb0 (ok_ret ⟨by rw [isN_big c2]; rfl, rfl⟩)) (fun c2 => ok_gd zb1 (ok_ret ⟨?_, rfl⟩))
    rw [show isN (dW D) v = true from decide_eq_true ⟨Int32.not_lt.mp c, Int32.not_le.mp c2⟩]
    rfl
theorem e_m_isFeast (M : RM h m D V K c Im j T tl fa) (hF : dW D = 0 → dF D = 0) (v : Int32) : f_m_isFeast m v h = some (bI (isN (dF D) v), h) := by
  obtain ⟨LM, z0, z3, rX, rR, u1, u2, g1⟩ := id M; obtain ⟨a0, ⟨a1, a2, a3, a4, a5, a6, a7, a8, a9, a10, a11, a12, a13⟩, s1, s2, s3, s4, s5, s6, s7, s8, s9, s10, s11, s12, s13⟩ := id LM
  refine ok_eq ?_
  unfold f_m_isFeast
  refine ok_gd a0 ?_
  rcases Nat.eq_zero_or_pos (dW D) with hz | hz
  · refine ok_t (z0 hz) (ok_gd zb0 (ok_ret ⟨?_, rfl⟩))
    rw [hF hz, show isN 0 v = false from decide_eq_false (fun g => absurd g.2 (Int32.not_lt.mpr g.1))]
    rfl
  · obtain ⟨q, q1, q2, q2', rQ⟩ := z3 hz
    have b1 := rQ.1.1
    refine ok_f (by rw [q1]; simp) ?_
    refine ok_ite (fun c => ok_gd zb0 (ok_ret ⟨by rw [isN_neg c]; rfl, rfl⟩)) (fun c => ?_)
    (try unfold QB); (try unfold QM); repeat (first | (with_reducible refine ok_lt ?_) | ((with_reducible refine ok_gd ?_ ?_); first | assumption | exact zb0 | exact zb1 | ((with_reducible apply ai_of) <;> first | assumption | omega | decide) | exact ai_lit (by assumption) (by decide) (by decide) (by decide)) | (refine ok_bR (by assumption) ?_))
    rw [rQ.2.1.2.2.2.2.1]
    refine ok_ite (fun c2 => ok_gd zb0 (ok_ret ⟨by rw [isN_big c2]; rfl, rfl⟩)) (fun c2 => ok_gd zb1 (ok_ret ⟨?_, rfl⟩))
    rw [show isN (dF D) v = true from decide_eq_true ⟨Int32.not_lt.mp c, Int32.not_le.mp c2⟩]
    rfl
theorem e_n_isGone (R : RepQ h q D) {w : Nat} (hw : w < dW D) (h5 : w < 5) (t : Nat) : f_n_isGone q (nI w) (nI t) h = some (bI (gb (dG D w) t), h) := by
  refine ok_eq ?_
  unfold f_n_isGone
  have b1 := R.1.1
  have d4 := R.1.2.1 4 (by decide)
  have b4 : hS h (q + 1 + 4) = some (.inr (1, 5)) := R.1.2.2.2.1
  (try unfold QB); (try unfold QM); repeat (first | (with_reducible refine ok_lt ?_) | ((with_reducible refine ok_gd ?_ ?_); first | assumption | exact zb0 | exact zb1 | ((with_reducible apply ai_of) <;> first | assumption | omega | decide) | exact ai_lit (by assumption) (by decide) (by decide) (by decide)) | (refine ok_bR (by assumption) ?_))
  (try simp (disch := omega) only [nI_clamp, cl0, cl1, cl2, cl3, cl4, cl5, cl6, cl7, cl8])
  have g3 : hL h (q + 1 + 4) w = dG D w := (R.2.2.1 w hw).2.2.2.2
  rw [g3]
  unfold gb
  refine ok_ite (fun c => ok_gd zb1 (ok_ret ⟨?_, rfl⟩)) (fun c => ok_gd zb0 (ok_ret ⟨?_, rfl⟩))
  · rw [decide_eq_true c]
    rfl
  · rw [decide_eq_false c]
    rfl
theorem hasT {n : Nat} (hn : n < 2 ^ 31) (v : Int32) : (if 0 ≤ v ∧ v < nI n then (1 : Int32) else 0) = bI (isN n v) := by
  unfold isN bI
  by_cases q : 0 ≤ v ∧ v < nI n
  · rw [if_pos q, decide_eq_true q]
    rfl
  · rw [if_neg q, decide_eq_false q]
    rfl
theorem in_isN {n : Nat} (h0 : 0 < n) (hn : n < 2 ^ 31) (v : Int32) : decide (0 ≤ v ∧ v ≤ nI (n - 1)) = isN n v := by
  unfold isN
  rcases pk_ix v hn with q | q | ⟨j, hj, q⟩
  · rw [decide_eq_false (fun g => absurd g.1 (Int32.not_le.mpr q)), decide_eq_false (fun g => absurd g.1 (Int32.not_le.mpr q))]
  · rw [decide_eq_false (fun g => absurd (Int32.lt_of_lt_of_le (nI_lt (a := n - 1) (by omega) hn) q) (Int32.not_lt.mpr g.2)), decide_eq_false (fun g => absurd g.2 (Int32.not_lt.mpr q))]
  · rw [q, decide_eq_true ⟨nI_pos' (by omega), nI_le (by omega) (by omega)⟩, decide_eq_true ⟨nI_pos' (by omega), nI_lt hj hn⟩]
theorem q_isGone (W : Wst D V K c Im j tl nc) (R : RB h x D V K c Im j T tl fa) (w t : Int32) : Pair x h m (fun h1 => RM h1 m D V K c Im j T tl fa) (f_B_isGone x w t h) (f_m_isGone m w t) := by
  obtain ⟨o, o', ho, LB, r3, r4, rO, rD, rV, rP, t1, t2, f1, sUs⟩ := id R; obtain ⟨⟨x1, x2, x3, x4, x5, x6, x7, x8, x9, x10, x11, x12, x13⟩, LR, LC, LK, LS, LG, LH⟩ := id LB
  obtain ⟨⟨o1, ⟨o2, o3, o4, o5, o6, o7, o8, o9, o10⟩, o11, o12, o13, o14, o15, o16⟩, ⟨p1, p2, p3, p4, p5, p6, p7⟩, oW, oX, oK, oE, oS⟩ := id rO
  have w1 := W.1.1.1
  cases hb : isN (dW D) w with
  | false =>
    refine ⟨-1, 1, by decide, ?_, fun h1 M => qM_st M (fun h0 M F _ => ?_)⟩
    · unfold f_B_isGone
      refine ok_gd x1 (ok_bde (e_B_hasWheel x1 r3 rO w1 w) ?_)
      rw [hb]
      exact ok_t rfl (qB_ref Fr.rf x1)
    · refine ok_gd M.1.1 (ok_bde (e_m_isWheel M w1 w) ?_)
      rw [hb]
      exact ok_t rfl (qM_ref F M.1.1)
  | true =>
    obtain ⟨i, hi, rfl⟩ := isN_ex (by omega) hb
    have hT := W.1.1.2.2.2.2.2.2.2.1 i hi
    have h5 : i < 5 := by omega
    have l8 := o16 i h5
    obtain ⟨l81, l82⟩ := l8
    have ow := oW i hi
    cases hc : isN (dT D i) t with
    | false =>
      refine ⟨-1, 2, by decide, ?_, fun h1 M => qM_st M (fun h0 M F _ => ?_)⟩
      · unfold f_B_isGone
        refine ok_gd x1 (ok_bde (e_B_hasWheel x1 r3 rO w1 _) ?_)
        rw [hb]
        refine ok_f (by decide) ?_
        (try unfold QB); (try unfold QM); repeat (first | (with_reducible refine ok_lt ?_) | ((with_reducible refine ok_gd ?_ ?_); first | assumption | exact zb0 | exact zb1 | ((with_reducible apply ai_of) <;> first | assumption | omega | decide) | exact ai_lit (by assumption) (by decide) (by decide) (by decide)) | (refine ok_bR (by assumption) ?_))
        (try simp (disch := omega) only [nI_clamp, cl0, cl1, cl2, cl3, cl4, cl5, cl6, cl7, cl8])
        (try unfold QB); (try unfold QM); repeat (first | (with_reducible refine ok_lt ?_) | ((with_reducible refine ok_gd ?_ ?_); first | assumption | exact zb0 | exact zb1 | ((with_reducible apply ai_of) <;> first | assumption | omega | decide) | exact ai_lit (by assumption) (by decide) (by decide) (by decide)) | (refine ok_bR (by assumption) ?_))
        refine ok_bde (e_W_hasTooth l82 ow.2.1 t) ?_
        rw [hasT (by omega), hc]
        exact ok_t rfl (qB_ref Fr.rf x1)
      · refine ok_gd M.1.1 (ok_bde (e_m_isWheel M w1 _) ?_)
        rw [hb]
        obtain ⟨LM, z0, z3, rX, rR, u1, u2, g1⟩ := id M; obtain ⟨a0, ⟨a1, a2, a3, a4, a5, a6, a7, a8, a9, a10, a11, a12, a13⟩, s1, s2, s3, s4, s5, s6, s7, s8, s9, s10, s11, s12, s13⟩ := id LM
        obtain ⟨q, q1, q2, q2', rQ⟩ := z3 (by omega)
        obtain ⟨⟨b1, b2, b3, b4, b5, b6, b7, b8, b9, b10, b11⟩, ⟨c0, c1, c2, c3, c4, c5, c6, c7, c8⟩, qW, qX, qE, qK, qS⟩ := id rQ; have d0 := b2 0 (by decide); have d1 := b2 1 (by decide); have d2 := b2 2 (by decide); have d3 := b2 3 (by decide); have d4 := b2 4 (by decide); have d5 := b2 5 (by decide); have d6 := b2 6 (by decide); have d7 := b2 7 (by decide); have d8 := b2 8 (by decide); have d9 := b2 9 (by decide); have d10 := b2 10 (by decide); have d11 := b2 11 (by decide); have d12 := b2 12 (by decide); have d13 := b2 13 (by decide); have d14 := b2 14 (by decide); have d15 := b2 15 (by decide); have d16 := b2 16 (by decide); have e0 := b3 0 (by decide); have e1 := b3 1 (by decide); have e2 := b3 2 (by decide); have e3 := b3 3 (by decide); have f0 := b6 0 (by decide); have f1 := b6 1 (by decide); have f2 := b6 2 (by decide); have f3 := b6 3 (by decide); have f4 := b6 4 (by decide); have f5 := b6 5 (by decide)
        refine ok_f (by decide) ?_
        (try unfold QB); (try unfold QM); repeat (first | (with_reducible refine ok_lt ?_) | ((with_reducible refine ok_gd ?_ ?_); first | assumption | exact zb0 | exact zb1 | ((with_reducible apply ai_of) <;> first | assumption | omega | decide) | exact ai_lit (by assumption) (by decide) (by decide) (by decide)) | (refine ok_bR (by assumption) ?_))
        (try simp (disch := omega) only [nI_clamp, cl0, cl1, cl2, cl3, cl4, cl5, cl6, cl7, cl8])
        have g : hI h0 (q + 1 + 1) i = nI (dT D i) := (qW i hi).2.1
        rw [g, nI_s (by omega)]
        refine ok_bde e_m_in ?_
        rw [in_isN (by omega) (by omega), hc]
        exact ok_t rfl (qM_ref F a0)
    | true =>
      obtain ⟨u, hu, rfl⟩ := isN_ex (by omega) hc
      refine ⟨bI (gb (dG D i) u), 0, by decide, ?_, fun h1 M => qM_st M (fun h0 M F _ => ?_)⟩
      · unfold f_B_isGone b_B_isGone_58
        refine ok_gd x1 (ok_bde (e_B_hasWheel x1 r3 rO w1 _) ?_)
        rw [hb]
        refine ok_f (by decide) ?_
        (try unfold QB); (try unfold QM); repeat (first | (with_reducible refine ok_lt ?_) | ((with_reducible refine ok_gd ?_ ?_); first | assumption | exact zb0 | exact zb1 | ((with_reducible apply ai_of) <;> first | assumption | omega | decide) | exact ai_lit (by assumption) (by decide) (by decide) (by decide)) | (refine ok_bR (by assumption) ?_))
        (try simp (disch := omega) only [nI_clamp, cl0, cl1, cl2, cl3, cl4, cl5, cl6, cl7, cl8])
        (try unfold QB); (try unfold QM); repeat (first | (with_reducible refine ok_lt ?_) | ((with_reducible refine ok_gd ?_ ?_); first | assumption | exact zb0 | exact zb1 | ((with_reducible apply ai_of) <;> first | assumption | omega | decide) | exact ai_lit (by assumption) (by decide) (by decide) (by decide)) | (refine ok_bR (by assumption) ?_))
        refine ok_bde (e_W_hasTooth l82 ow.2.1 _) ?_
        rw [hasT (by omega), hc]
        refine ok_f (by decide) ?_
        (try unfold QB); (try unfold QM); repeat (first | (with_reducible refine ok_lt ?_) | ((with_reducible refine ok_gd ?_ ?_); first | assumption | exact zb0 | exact zb1 | ((with_reducible apply ai_of) <;> first | assumption | omega | decide) | exact ai_lit (by assumption) (by decide) (by decide) (by decide)) | (refine ok_bR (by assumption) ?_))
        refine ok_bde (e_W_lacks l82 u) ?_
        rw [ow.2.2.2.2.2]
        cases hg : gb (dG D i) u with
        | false => exact ok_t rfl (qB_gr Fr.rf x1)
        | true => exact ok_f (by decide) (qB_gr Fr.rf x1)
      · unfold b_m_isGone_56
        refine ok_gd M.1.1 (ok_bde (e_m_isWheel M w1 _) ?_)
        rw [hb]
        obtain ⟨LM, z0, z3, rX, rR, u1, u2, g1⟩ := id M; obtain ⟨a0, ⟨a1, a2, a3, a4, a5, a6, a7, a8, a9, a10, a11, a12, a13⟩, s1, s2, s3, s4, s5, s6, s7, s8, s9, s10, s11, s12, s13⟩ := id LM
        obtain ⟨q, q1, q2, q2', rQ⟩ := z3 (by omega)
        obtain ⟨⟨b1, b2, b3, b4, b5, b6, b7, b8, b9, b10, b11⟩, ⟨c0, c1, c2, c3, c4, c5, c6, c7, c8⟩, qW, qX, qE, qK, qS⟩ := id rQ; have d0 := b2 0 (by decide); have d1 := b2 1 (by decide); have d2 := b2 2 (by decide); have d3 := b2 3 (by decide); have d4 := b2 4 (by decide); have d5 := b2 5 (by decide); have d6 := b2 6 (by decide); have d7 := b2 7 (by decide); have d8 := b2 8 (by decide); have d9 := b2 9 (by decide); have d10 := b2 10 (by decide); have d11 := b2 11 (by decide); have d12 := b2 12 (by decide); have d13 := b2 13 (by decide); have d14 := b2 14 (by decide); have d15 := b2 15 (by decide); have d16 := b2 16 (by decide); have e0 := b3 0 (by decide); have e1 := b3 1 (by decide); have e2 := b3 2 (by decide); have e3 := b3 3 (by decide); have f0 := b6 0 (by decide); have f1 := b6 1 (by decide); have f2 := b6 2 (by decide); have f3 := b6 3 (by decide); have f4 := b6 4 (by decide); have f5 := b6 5 (by decide)
        refine ok_f (by decide) ?_
        (try unfold QB); (try unfold QM); repeat (first | (with_reducible refine ok_lt ?_) | ((with_reducible refine ok_gd ?_ ?_); first | assumption | exact zb0 | exact zb1 | ((with_reducible apply ai_of) <;> first | assumption | omega | decide) | exact ai_lit (by assumption) (by decide) (by decide) (by decide)) | (refine ok_bR (by assumption) ?_))
        (try simp (disch := omega) only [nI_clamp, cl0, cl1, cl2, cl3, cl4, cl5, cl6, cl7, cl8])
        have g : hI h0 (q + 1 + 1) i = nI (dT D i) := (qW i hi).2.1
        rw [g, nI_s (by omega)]
        refine ok_bde e_m_in ?_
        rw [in_isN (by omega) (by omega), hc]
        refine ok_f (by decide) ?_
        (try unfold QB); (try unfold QM); repeat (first | (with_reducible refine ok_lt ?_) | ((with_reducible refine ok_gd ?_ ?_); first | assumption | exact zb0 | exact zb1 | ((with_reducible apply ai_of) <;> first | assumption | omega | decide) | exact ai_lit (by assumption) (by decide) (by decide) (by decide)) | (refine ok_bR (by assumption) ?_))
        refine ok_bde (e_n_isGone rQ hi h5 u) ?_
        cases hg : gb (dG D i) u with
        | false => exact ok_t rfl (qM_gr F a0)
        | true => exact ok_f (by decide) (qM_gr F a0)
end SM
