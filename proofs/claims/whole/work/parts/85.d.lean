/-! set, undo, image, back: both sides -/
section AE
variable {h h' h1 : Hp} {x m c j tl nc : Nat} {D : DD} {V : Nat → Nat} {K Im : Nat → Nat → Nat} {T : Nat → Int32} {fa : Int32}
theorem qB_dn {v : Int32} (F : Fr (ScB x) h h1) (hs : hS h1 x = some (.inl 0)) : QB x h (gd (hS h1 x = some (.inl 0)) (bd (f_B_deny x v h1) fun r h2 => gd (zb r) (some (r, h2)))) 0 v :=
  ok_gd hs (ok_bde (e_B_deny hs) (ok_gd zb0 (ok_ret ⟨rfl, F.trans (fr_uI ScB_15), hI_uIs⟩)))
theorem qM_dd {v : Int32} (F : Fr (ScM m) h h1) (hs : hS h1 m = some (.inl 11)) : QM m h (gd (hS h1 m = some (.inl 11)) (bd (f_m_denied m v h1) fun r h2 => gd (zb r) (some (r, h2)))) 0 v :=
  ok_gd hs (ok_bde (e_m_denied hs) (ok_gd zb0 (ok_ret ⟨rfl, qM_fin F⟩)))
theorem a_set (W : Wst D V K c Im j tl nc) (hn : nc < 512) (R : RB h x D V K c Im j T tl fa) (w t : Int32) : PairA x h m (fun h1 => RM h1 m D V K c Im j T tl fa) T tl fa nc (f_B_set x w t h) (f_m_set m w t) := by
  have hv := W.2.1.v W.2.2.2.2.2.1
  have w1 := W.1.1.1
  cases hb : isN (dW D) w with
  | false =>
    refine Pair.a W hn R ⟨0, 1, by decide, ?_, fun h1 M => qM_st M (fun h0 M F _ => ?_)⟩
    · obtain ⟨o, o', ho, LB, r3, r4, rO, rD, rV, rP, t1, t2, f1, sUs⟩ := id R; obtain ⟨⟨x1, x2, x3, x4, x5, x6, x7, x8, x9, x10, x11, x12, x13⟩, LR, LC, LK, LS, LG, LH⟩ := id LB
      unfold f_B_set
      refine ok_gd x1 (ok_bde (e_B_hasWheel x1 r3 rO w1 w) ?_)
      rw [hb]
      exact ok_t rfl (qB_dn Fr.rf x1)
    · refine ok_gd M.1.1 (ok_bde (e_m_isWheel M w1 w) ?_)
      rw [hb]
      exact ok_t rfl (qM_dd F M.1.1)
  | true =>
    obtain ⟨i, hi, rfl⟩ := isN_ex (by omega) hb
    have hT := W.1.1.2.2.2.2.2.2.2.1 i hi
    have h5 : i < 5 := by omega
    have h8 : i < 8 := by omega
    by_cases hgd : ∃ u, u < dT D i ∧ t = nI u ∧ gb (dG D i) u = false
    · obtain ⟨u, hu, rfl, hg⟩ := hgd
      have hc : isN (dT D i) (nI u) = true := isN_of hu (by omega)
      have hVi := hv.2.2.2 i hi
      by_cases hd : V (3 + i) = u
      · refine Pair.a W hn R ⟨0, 5, by decide, ?_, fun h1 M => qM_st M (fun h0 M F _ => ?_)⟩
        · obtain ⟨o, o', ho, LB, r3, r4, rO, rD, rV, rP, t1, t2, f1, sUs⟩ := id R; obtain ⟨⟨x1, x2, x3, x4, x5, x6, x7, x8, x9, x10, x11, x12, x13⟩, LR, LC, LK, LS, LG, LH⟩ := id LB
          obtain ⟨⟨o1, ⟨o2, o3, o4, o5, o6, o7, o8, o9, o10⟩, o11, o12, o13, o14, o15, o16⟩, ⟨p1, p2, p3, p4, p5, p6, p7⟩, oW, oX, oK, oE, oS⟩ := id rO
          have v1 := rV.1
          obtain ⟨l81, l82⟩ := o16 i h5
          have ow := oW i hi
          unfold f_B_set
          refine ok_gd x1 (ok_bde (e_B_hasWheel x1 r3 rO w1 _) ?_)
          rw [hb]
          refine ok_f (by decide) ?_
          (try unfold QB); (try unfold QM); repeat (first | (with_reducible refine ok_lt ?_) | ((with_reducible refine ok_gd ?_ ?_); first | assumption | exact zb0 | exact zb1 | ((with_reducible apply ai_of) <;> first | assumption | omega | decide) | exact ai_lit (by assumption) (by decide) (by decide) (by decide)) | (refine ok_bR (by assumption) ?_))
          (try simp (disch := omega) only [nI_clamp, cl0, cl1, cl2, cl3, cl4, cl5, cl6, cl7, cl8])
          (try unfold QB); (try unfold QM); repeat (first | (with_reducible refine ok_lt ?_) | ((with_reducible refine ok_gd ?_ ?_); first | assumption | exact zb0 | exact zb1 | ((with_reducible apply ai_of) <;> first | assumption | omega | decide) | exact ai_lit (by assumption) (by decide) (by decide) (by decide)) | (refine ok_bR (by assumption) ?_))
          refine ok_bde (e_W_hasTooth l82 ow.2.1 _) ?_
          rw [hasT (by omega), hc]
          refine ok_f (by decide) ?_
          (try unfold QB); (try unfold QM); repeat (first | (with_reducible refine ok_lt ?_) | ((with_reducible refine ok_gd ?_ ?_); first | assumption | exact zb0 | exact zb1 | ((with_reducible apply ai_of) <;> first | assumption | omega | decide) | exact ai_lit (by assumption) (by decide) (by decide) (by decide)) | (refine ok_bR (by assumption) ?_))
          refine ok_bde (e_W_lacks l82 u) ?_
          rw [ow.2.2.2.2.2, hg]
          refine ok_t rfl ?_
          rw [nI_i3]
          (try unfold QB); (try unfold QM); repeat (first | (with_reducible refine ok_lt ?_) | ((with_reducible refine ok_gd ?_ ?_); first | assumption | exact zb0 | exact zb1 | ((with_reducible apply ai_of) <;> first | assumption | omega | decide) | exact ai_lit (by assumption) (by decide) (by decide) (by decide)) | (refine ok_bR (by assumption) ?_))
          (try simp (disch := omega) only [nI_clamp, cl0, cl1, cl2, cl3, cl4, cl5, cl6, cl7, cl8])
          rw [rV.2 (3 + i) (by omega), hd]
          exact ok_t rfl (qB_dn Fr.rf x1)
        · refine ok_gd M.1.1 (ok_bde (e_m_isWheel M w1 _) ?_)
          rw [hb]
          obtain ⟨LM, z0, z3, rX, rR, u1, u2, g1⟩ := id M; obtain ⟨a0, ⟨a1, a2, a3, a4, a5, a6, a7, a8, a9, a10, a11, a12, a13⟩, s1, s2, s3, s4, s5, s6, s7, s8, s9, s10, s11, s12, s13⟩ := id LM
          obtain ⟨q, q1, q2, q2', rQ⟩ := z3 (by omega)
          obtain ⟨⟨b1, b2, b3, b4, b5, b6, b7, b8, b9, b10, b11⟩, ⟨c0, c1, c2, c3, c4, c5, c6, c7, c8⟩, qW, qX, qE, qK, qS⟩ := id rQ; have d0 := b2 0 (by decide); have d1 := b2 1 (by decide); have d2 := b2 2 (by decide); have d3 := b2 3 (by decide); have d4 := b2 4 (by decide); have d5 := b2 5 (by decide); have d6 := b2 6 (by decide); have d7 := b2 7 (by decide); have d8 := b2 8 (by decide); have d9 := b2 9 (by decide); have d10 := b2 10 (by decide); have d11 := b2 11 (by decide); have d12 := b2 12 (by decide); have d13 := b2 13 (by decide); have d14 := b2 14 (by decide); have d15 := b2 15 (by decide); have d16 := b2 16 (by decide); have e0 := b3 0 (by decide); have e1 := b3 1 (by decide); have e2 := b3 2 (by decide); have e3 := b3 3 (by decide); have f0 := b6 0 (by decide); have f1 := b6 1 (by decide); have f2 := b6 2 (by decide); have f3 := b6 3 (by decide); have f4 := b6 4 (by decide); have f5 := b6 5 (by decide)
          refine ok_f (by decide) ?_
          (try unfold QB); (try unfold QM); repeat (first | (with_reducible refine ok_lt ?_) | ((with_reducible refine ok_gd ?_ ?_); first | assumption | exact zb0 | exact zb1 | ((with_reducible apply ai_of) <;> first | assumption | omega | decide) | exact ai_lit (by assumption) (by decide) (by decide) (by decide)) | (refine ok_bR (by assumption) ?_))
          (try simp (disch := omega) only [nI_clamp, cl0, cl1, cl2, cl3, cl4, cl5, cl6, cl7, cl8])
          have g : hI h0 (q + 1 + 1) i = nI (dT D i) := (qW i hi).2.1
          rw [g, nI_s (by omega)]
          refine ok_bde e_m_in ?_
          rw [in_isN (by omega) (by omega), hc]
          refine ok_f (by decide) ?_
          (try unfold QB); (try unfold QM); repeat (first | (with_reducible refine ok_lt ?_) | ((with_reducible refine ok_gd ?_ ?_); first | assumption | exact zb0 | exact zb1 | ((with_reducible apply ai_of) <;> first | assumption | omega | decide) | exact ai_lit (by assumption) (by decide) (by decide) (by decide)) | (refine ok_bR (by assumption) ?_))
          refine ok_bde (e_n_isGone rQ hi h5 u) ?_
          rw [hg]
          refine ok_t rfl ?_
          (try unfold QB); (try unfold QM); repeat (first | (with_reducible refine ok_lt ?_) | ((with_reducible refine ok_gd ?_ ?_); first | assumption | exact zb0 | exact zb1 | ((with_reducible apply ai_of) <;> first | assumption | omega | decide) | exact ai_lit (by assumption) (by decide) (by decide) (by decide)) | (refine ok_bR (by assumption) ?_))
          (try simp (disch := omega) only [nI_clamp, cl0, cl1, cl2, cl3, cl4, cl5, cl6, cl7, cl8])
          rw [rX.t h5 (by have q1 := W.2.1.2.2.2 i hi; have q2 := (W.1.1.2.2.2.2.2.2.2.1 i hi).2.2.1; omega), hd]
          exact ok_t rfl (qM_dd F a0)
      · have g2 : WfG D (upV V (3 + i) u) (nc + 1) := by
          have g0 := W.2.1
          refine ⟨?_, ?_, ?_, fun w hw => ?_⟩
          · show (if 0 = 3 + i then u else V 0) ≤ _
            rw [if_neg (by omega)]
            exact g0.1
          · show (if 1 = 3 + i then u else V 1) ≤ _
            rw [if_neg (by omega)]
            exact g0.2.1
          · show (if 2 = 3 + i then u else V 2) ≤ _
            rw [if_neg (by omega)]
            have := g0.2.2.1
            omega
          · show (if 3 + w = 3 + i then u else V (3 + w)) < _
            by_cases e : w = i
            · rw [if_pos (by rw [e]), e]
              exact hu
            · rw [if_neg (by omega)]
              exact g0.2.2.2 w hw
        refine ⟨1, 0, D, upV V (3 + i) u, shK K V, min 16 (c + 1), Im, j, by decide, W.shk hn g2 (by omega), ?_, fun h1 M => ?_⟩
        · obtain ⟨o, o', ho, LB, r3, r4, rO, rD, rV, rP, t1, t2, f1, sUs⟩ := id R; obtain ⟨⟨x1, x2, x3, x4, x5, x6, x7, x8, x9, x10, x11, x12, x13⟩, LR, LC, LK, LS, LG, LH⟩ := id LB
          obtain ⟨⟨o1, ⟨o2, o3, o4, o5, o6, o7, o8, o9, o10⟩, o11, o12, o13, o14, o15, o16⟩, ⟨p1, p2, p3, p4, p5, p6, p7⟩, oW, oX, oK, oE, oS⟩ := id rO
          have v1 := rV.1
          have P1 := rP.1
          obtain ⟨l81, l82⟩ := o16 i h5
          have ow := oW i hi
          unfold f_B_set
          refine ok_gd x1 (ok_bde (e_B_hasWheel x1 r3 rO w1 _) ?_)
          rw [hb]
          refine ok_f (by decide) ?_
          (try unfold QB); (try unfold QM); repeat (first | (with_reducible refine ok_lt ?_) | ((with_reducible refine ok_gd ?_ ?_); first | assumption | exact zb0 | exact zb1 | ((with_reducible apply ai_of) <;> first | assumption | omega | decide) | exact ai_lit (by assumption) (by decide) (by decide) (by decide)) | (refine ok_bR (by assumption) ?_))
          (try simp (disch := omega) only [nI_clamp, cl0, cl1, cl2, cl3, cl4, cl5, cl6, cl7, cl8])
          (try unfold QB); (try unfold QM); repeat (first | (with_reducible refine ok_lt ?_) | ((with_reducible refine ok_gd ?_ ?_); first | assumption | exact zb0 | exact zb1 | ((with_reducible apply ai_of) <;> first | assumption | omega | decide) | exact ai_lit (by assumption) (by decide) (by decide) (by decide)) | (refine ok_bR (by assumption) ?_))
          refine ok_bde (e_W_hasTooth l82 ow.2.1 _) ?_
          rw [hasT (by omega), hc]
          refine ok_f (by decide) ?_
          (try unfold QB); (try unfold QM); repeat (first | (with_reducible refine ok_lt ?_) | ((with_reducible refine ok_gd ?_ ?_); first | assumption | exact zb0 | exact zb1 | ((with_reducible apply ai_of) <;> first | assumption | omega | decide) | exact ai_lit (by assumption) (by decide) (by decide) (by decide)) | (refine ok_bR (by assumption) ?_))
          refine ok_bde (e_W_lacks l82 u) ?_
          rw [ow.2.2.2.2.2, hg]
          refine ok_t rfl ?_
          rw [nI_i3]
          (try unfold QB); (try unfold QM); repeat (first | (with_reducible refine ok_lt ?_) | ((with_reducible refine ok_gd ?_ ?_); first | assumption | exact zb0 | exact zb1 | ((with_reducible apply ai_of) <;> first | assumption | omega | decide) | exact ai_lit (by assumption) (by decide) (by decide) (by decide)) | (refine ok_bR (by assumption) ?_))
          (try simp (disch := omega) only [nI_clamp, cl0, cl1, cl2, cl3, cl4, cl5, cl6, cl7, cl8])
          rw [rV.2 (3 + i) (by omega)]
          refine ok_f (fun e => hd ((nI_eq (by omega) (by omega)).mp e)) ?_
          (try unfold QB); (try unfold QM); repeat (first | (with_reducible refine ok_lt ?_) | ((with_reducible refine ok_gd ?_ ?_); first | assumption | exact zb0 | exact zb1 | ((with_reducible apply ai_of) <;> first | assumption | omega | decide) | exact ai_lit (by assumption) (by decide) (by decide) (by decide)) | (refine ok_bR (by assumption) ?_))
          refine ok_bd (ok_mono (ok_P_keep rP rV) ?_)
          intro _ h2 hx
          obtain ⟨hF2, rP2⟩ := hx
          have hF2' : Fk (aB x) h h2 := hF2.mono (fun a k e => aB_P e)
          have e1 : hS h2 x = some (.inl 0) := by rw [hF2.2.1]; exact x1
          have e5 : hR h2 x 5 = some (x + 36) := by rw [hF2.2.2.2.1]; exact x4
          have rV2 : RepV h2 (x + 36) V := rV.fk hF2 (fun k e => by unfold sP at e; omega)
          have v12 := rV2.1
          (try unfold QB); (try unfold QM); repeat (first | (with_reducible refine ok_lt ?_) | ((with_reducible refine ok_gd ?_ ?_); first | assumption | exact zb0 | exact zb1 | ((with_reducible apply ai_of) <;> first | assumption | omega | decide) | exact ai_lit (by assumption) (by decide) (by decide) (by decide)) | (refine ok_bR (by assumption) ?_))
          (try simp (disch := omega) only [nI_clamp, cl0, cl1, cl2, cl3, cl4, cl5, cl6, cl7, cl8])
          have F3 := fk_uI (S := fun a k => a = x + 36) (h := h2) (a := x + 36) (k := 3 + i) (v := nI u) rfl
          exact ok_bde (e_B_allow e1) (ok_gd zb1 (ok_ret ⟨rfl, aB_fin R W.1.1 (hF2'.trans (F3.mono (fun a k e => Or.inr (Or.inl e)))) (rV2.up (3 + i) u) (rP2.fr F3.r (fun i k hi e => by omega))⟩))
        · have hF0 : Fk (aM m) h1 (uI h1 m 0 0) := fk_uI (Or.inl ⟨rfl, Or.inl (by decide)⟩)
          have M0 : RM (uI h1 m 0 0) m D V K c Im j T tl fa := M.fr (fr_uI (S := ScM m) (ScM_l (by decide))) (fun a k e => Or.inl e)
          refine ok_gd M.1.1 (ok_lt ?_)
          generalize uI h1 m 0 0 = h0 at hF0 M0
          have M1 := M
          clear M
          have M := M0
          refine ok_gd M.1.1 (ok_bde (e_m_isWheel M w1 _) ?_)
          rw [hb]
          obtain ⟨LM, z0, z3, rX, rR, u1, u2, g1⟩ := id M; obtain ⟨a0, ⟨a1, a2, a3, a4, a5, a6, a7, a8, a9, a10, a11, a12, a13⟩, s1, s2, s3, s4, s5, s6, s7, s8, s9, s10, s11, s12, s13⟩ := id LM
          obtain ⟨q, q1, q2, q2', rQ⟩ := z3 (by omega)
          obtain ⟨⟨b1, b2, b3, b4, b5, b6, b7, b8, b9, b10, b11⟩, ⟨c0, c1, c2, c3, c4, c5, c6, c7, c8⟩, qW, qX, qE, qK, qS⟩ := id rQ; have d0 := b2 0 (by decide); have d1 := b2 1 (by decide); have d2 := b2 2 (by decide); have d3 := b2 3 (by decide); have d4 := b2 4 (by decide); have d5 := b2 5 (by decide); have d6 := b2 6 (by decide); have d7 := b2 7 (by decide); have d8 := b2 8 (by decide); have d9 := b2 9 (by decide); have d10 := b2 10 (by decide); have d11 := b2 11 (by decide); have d12 := b2 12 (by decide); have d13 := b2 13 (by decide); have d14 := b2 14 (by decide); have d15 := b2 15 (by decide); have d16 := b2 16 (by decide); have e0 := b3 0 (by decide); have e1 := b3 1 (by decide); have e2 := b3 2 (by decide); have e3 := b3 3 (by decide); have f0 := b6 0 (by decide); have f1 := b6 1 (by decide); have f2 := b6 2 (by decide); have f3 := b6 3 (by decide); have f4 := b6 4 (by decide); have f5 := b6 5 (by decide)
          refine ok_f (by decide) ?_
          (try unfold QB); (try unfold QM); repeat (first | (with_reducible refine ok_lt ?_) | ((with_reducible refine ok_gd ?_ ?_); first | assumption | exact zb0 | exact zb1 | ((with_reducible apply ai_of) <;> first | assumption | omega | decide) | exact ai_lit (by assumption) (by decide) (by decide) (by decide)) | (refine ok_bR (by assumption) ?_))
          (try simp (disch := omega) only [nI_clamp, cl0, cl1, cl2, cl3, cl4, cl5, cl6, cl7, cl8])
          have g : hI h0 (q + 1 + 1) i = nI (dT D i) := (qW i hi).2.1
          rw [g, nI_s (by omega)]
          refine ok_bde e_m_in ?_
          rw [in_isN (by omega) (by omega), hc]
          refine ok_f (by decide) ?_
          (try unfold QB); (try unfold QM); repeat (first | (with_reducible refine ok_lt ?_) | ((with_reducible refine ok_gd ?_ ?_); first | assumption | exact zb0 | exact zb1 | ((with_reducible apply ai_of) <;> first | assumption | omega | decide) | exact ai_lit (by assumption) (by decide) (by decide) (by decide)) | (refine ok_bR (by assumption) ?_))
          refine ok_bde (e_n_isGone rQ hi h5 u) ?_
          rw [hg]
          refine ok_t rfl ?_
          (try unfold QB); (try unfold QM); repeat (first | (with_reducible refine ok_lt ?_) | ((with_reducible refine ok_gd ?_ ?_); first | assumption | exact zb0 | exact zb1 | ((with_reducible apply ai_of) <;> first | assumption | omega | decide) | exact ai_lit (by assumption) (by decide) (by decide) (by decide)) | (refine ok_bR (by assumption) ?_))
          (try simp (disch := omega) only [nI_clamp, cl0, cl1, cl2, cl3, cl4, cl5, cl6, cl7, cl8])
          rw [rX.t h5 (by have q1 := W.2.1.2.2.2 i hi; have q2 := (W.1.1.2.2.2.2.2.2.2.1 i hi).2.2.1; omega)]
          refine ok_f (fun e => hd ((nI_eq (by omega) (by omega)).mp e)) ?_
          refine ok_gd a0 (ok_bd (ok_mono (ok_m_remembers LM rX rR) ?_))
          intro _ h2 hx
          obtain ⟨hF2, rR2⟩ := hx
          have rX2 : RepX h2 (m + 2) V := rX.fk hF2 (fun k e => by unfold sR at e; omega)
          obtain ⟨a0', ⟨a1', a2', -⟩, s1', s2', -⟩ := LM.fk hF2
          (try unfold QB); (try unfold QM); repeat (first | (with_reducible refine ok_lt ?_) | ((with_reducible refine ok_gd ?_ ?_); first | assumption | exact zb0 | exact zb1 | ((with_reducible apply ai_of) <;> first | assumption | omega | decide) | exact ai_lit (by assumption) (by decide) (by decide) (by decide)) | (refine ok_bR (by assumption) ?_))
          (try simp (disch := omega) only [nI_clamp, cl0, cl1, cl2, cl3, cl4, cl5, cl6, cl7, cl8])
          have F3 := fk_uI (S := fun a k => a = m + 2) (h := h2) (a := m + 2) (k := i) (v := nI u) rfl
          have rX3 := rX2.up (k := i) h8 u
          rw [mx_t h5] at rX3
          exact ok_bde (e_m_granted a0') (ok_gd zb1 (ok_ret ⟨rfl, aM_fin M1 ((hF0.trans (hF2.mono (fun a k e => aM_R e))).trans (F3.mono (fun a k e => Or.inr (Or.inl e)))) rX3 (rR2.fr F3.r (by omega) (by omega) (fun k => by omega) (fun k => by omega))⟩))
    · refine Pair.a W hn R ⟨0, 2, by decide, ?_, fun h1 M => qM_st M (fun h0 M F _ => ?_)⟩
      · obtain ⟨o, o', ho, LB, r3, r4, rO, rD, rV, rP, t1, t2, f1, sUs⟩ := id R; obtain ⟨⟨x1, x2, x3, x4, x5, x6, x7, x8, x9, x10, x11, x12, x13⟩, LR, LC, LK, LS, LG, LH⟩ := id LB
        obtain ⟨⟨o1, ⟨o2, o3, o4, o5, o6, o7, o8, o9, o10⟩, o11, o12, o13, o14, o15, o16⟩, ⟨p1, p2, p3, p4, p5, p6, p7⟩, oW, oX, oK, oE, oS⟩ := id rO
        obtain ⟨l81, l82⟩ := o16 i h5
        have ow := oW i hi
        unfold f_B_set b_B_set_46
        refine ok_gd x1 (ok_bde (e_B_hasWheel x1 r3 rO w1 _) ?_)
        rw [hb]
        refine ok_f (by decide) ?_
        (try unfold QB); (try unfold QM); repeat (first | (with_reducible refine ok_lt ?_) | ((with_reducible refine ok_gd ?_ ?_); first | assumption | exact zb0 | exact zb1 | ((with_reducible apply ai_of) <;> first | assumption | omega | decide) | exact ai_lit (by assumption) (by decide) (by decide) (by decide)) | (refine ok_bR (by assumption) ?_))
        (try simp (disch := omega) only [nI_clamp, cl0, cl1, cl2, cl3, cl4, cl5, cl6, cl7, cl8])
        (try unfold QB); (try unfold QM); repeat (first | (with_reducible refine ok_lt ?_) | ((with_reducible refine ok_gd ?_ ?_); first | assumption | exact zb0 | exact zb1 | ((with_reducible apply ai_of) <;> first | assumption | omega | decide) | exact ai_lit (by assumption) (by decide) (by decide) (by decide)) | (refine ok_bR (by assumption) ?_))
        refine ok_bde (e_W_hasTooth l82 ow.2.1 _) ?_
        rw [hasT (by omega)]
        refine ok_ib (fun c1 => qB_dn Fr.rf x1) (fun c1 => ?_)
        obtain ⟨u, hu, rfl⟩ := isN_ex (by omega) c1
        (try unfold QB); (try unfold QM); repeat (first | (with_reducible refine ok_lt ?_) | ((with_reducible refine ok_gd ?_ ?_); first | assumption | exact zb0 | exact zb1 | ((with_reducible apply ai_of) <;> first | assumption | omega | decide) | exact ai_lit (by assumption) (by decide) (by decide) (by decide)) | (refine ok_bR (by assumption) ?_))
        refine ok_bde (e_W_lacks l82 u) ?_
        rw [ow.2.2.2.2.2]
        cases hg : gb (dG D i) u with
        | false => exact absurd ⟨u, hu, rfl, hg⟩ hgd
        | true => exact ok_f (by decide) (qB_dn Fr.rf x1)
      · unfold b_m_set_50
        refine ok_gd M.1.1 (ok_bde (e_m_isWheel M w1 _) ?_)
        rw [hb]
        obtain ⟨LM, z0, z3, rX, rR, u1, u2, g1⟩ := id M; obtain ⟨a0, ⟨a1, a2, a3, a4, a5, a6, a7, a8, a9, a10, a11, a12, a13⟩, s1, s2, s3, s4, s5, s6, s7, s8, s9, s10, s11, s12, s13⟩ := id LM
        obtain ⟨q, q1, q2, q2', rQ⟩ := z3 (by omega)
        obtain ⟨⟨b1, b2, b3, b4, b5, b6, b7, b8, b9, b10, b11⟩, ⟨c0, c1, c2, c3, c4, c5, c6, c7, c8⟩, qW, qX, qE, qK, qS⟩ := id rQ; have d0 := b2 0 (by decide); have d1 := b2 1 (by decide); have d2 := b2 2 (by decide); have d3 := b2 3 (by decide); have d4 := b2 4 (by decide); have d5 := b2 5 (by decide); have d6 := b2 6 (by decide); have d7 := b2 7 (by decide); have d8 := b2 8 (by decide); have d9 := b2 9 (by decide); have d10 := b2 10 (by decide); have d11 := b2 11 (by decide); have d12 := b2 12 (by decide); have d13 := b2 13 (by decide); have d14 := b2 14 (by decide); have d15 := b2 15 (by decide); have d16 := b2 16 (by decide); have e0 := b3 0 (by decide); have e1 := b3 1 (by decide); have e2 := b3 2 (by decide); have e3 := b3 3 (by decide); have f0 := b6 0 (by decide); have f1 := b6 1 (by decide); have f2 := b6 2 (by decide); have f3 := b6 3 (by decide); have f4 := b6 4 (by decide); have f5 := b6 5 (by decide)
        refine ok_f (by decide) ?_
        (try unfold QB); (try unfold QM); repeat (first | (with_reducible refine ok_lt ?_) | ((with_reducible refine ok_gd ?_ ?_); first | assumption | exact zb0 | exact zb1 | ((with_reducible apply ai_of) <;> first | assumption | omega | decide) | exact ai_lit (by assumption) (by decide) (by decide) (by decide)) | (refine ok_bR (by assumption) ?_))
        (try simp (disch := omega) only [nI_clamp, cl0, cl1, cl2, cl3, cl4, cl5, cl6, cl7, cl8])
        have g : hI h0 (q + 1 + 1) i = nI (dT D i) := (qW i hi).2.1
        rw [g, nI_s (by omega)]
        refine ok_bde e_m_in ?_
        rw [in_isN (by omega) (by omega)]
        refine ok_ib (fun c1 => qM_dd F a0) (fun c1 => ?_)
        obtain ⟨u, hu, rfl⟩ := isN_ex (by omega) c1
        (try unfold QB); (try unfold QM); repeat (first | (with_reducible refine ok_lt ?_) | ((with_reducible refine ok_gd ?_ ?_); first | assumption | exact zb0 | exact zb1 | ((with_reducible apply ai_of) <;> first | assumption | omega | decide) | exact ai_lit (by assumption) (by decide) (by decide) (by decide)) | (refine ok_bR (by assumption) ?_))
        refine ok_bde (e_n_isGone rQ hi h5 u) ?_
        cases hg : gb (dG D i) u with
        | false => exact absurd ⟨u, hu, rfl, hg⟩ hgd
        | true => exact ok_f (by decide) (qM_dd F a0)
theorem a_undo (W : Wst D V K c Im j tl nc) (hn : nc < 512) (R : RB h x D V K c Im j T tl fa) : PairA x h m (fun h1 => RM h1 m D V K c Im j T tl fa) T tl fa nc (f_B_undo x h) (f_m_undo m) := by
  rcases Nat.eq_zero_or_pos c with hc | hc
  · refine Pair.a W hn R ⟨0, 6, by decide, ?_, fun h1 M => qM_st M (fun h0 M F _ => ?_)⟩
    · obtain ⟨o, o', ho, LB, r3, r4, rO, rD, rV, rP, t1, t2, f1, sUs⟩ := id R; obtain ⟨⟨x1, x2, x3, x4, x5, x6, x7, x8, x9, x10, x11, x12, x13⟩, LR, LC, LK, LS, LG, LH⟩ := id LB
      have P1 := rP.1
      unfold f_B_undo
      (try unfold QB); (try unfold QM); repeat (first | (with_reducible refine ok_lt ?_) | ((with_reducible refine ok_gd ?_ ?_); first | assumption | exact zb0 | exact zb1 | ((with_reducible apply ai_of) <;> first | assumption | omega | decide) | exact ai_lit (by assumption) (by decide) (by decide) (by decide)) | (refine ok_bR (by assumption) ?_))
      rw [rP.2.2.2.2.2.2.2.1, hc]
      exact ok_t rfl (qB_dn Fr.rf x1)
    · unfold b_m_undo_19
      obtain ⟨LM, z0, z3, rX, rR, u1, u2, g1⟩ := id M; obtain ⟨a0, ⟨a1, a2, a3, a4, a5, a6, a7, a8, a9, a10, a11, a12, a13⟩, s1, s2, s3, s4, s5, s6, s7, s8, s9, s10, s11, s12, s13⟩ := id LM
      refine ok_gd a0 (ok_ite (fun _ => qM_dd F a0) (fun _ => ?_))
      (try unfold QB); (try unfold QM); repeat (first | (with_reducible refine ok_lt ?_) | ((with_reducible refine ok_gd ?_ ?_); first | assumption | exact zb0 | exact zb1 | ((with_reducible apply ai_of) <;> first | assumption | omega | decide) | exact ai_lit (by assumption) (by decide) (by decide) (by decide)) | (refine ok_bR (by assumption) ?_))
      rw [rR.2.2.1, hc]
      exact ok_t rfl (qM_dd F a0)
  · have hW : 0 < dW D := by
      rcases Nat.eq_zero_or_pos (dW D) with e | e
      · have := (W.2.2.2.2.2.2 e).2.2.2.2.2.1
        omega
      · exact e
    obtain ⟨c, rfl⟩ : ∃ c', c = c' + 1 := ⟨c - 1, by omega⟩
    have W2 : Wst D (K 0) (fun i => K (i + 1)) c Im j tl (nc + 1) := ⟨W.1, (W.2.2.1 0 (by omega)).up (by omega), fun i hi => (W.2.2.1 (i + 1) (by omega)).up (by omega), fun i hi => (W.2.2.2.1 i hi).up (by omega), W.2.2.2.2.1, by omega, fun e => by omega⟩
    refine ⟨1, 0, D, K 0, fun i => K (i + 1), c, Im, j, by decide, W2, ?_, fun h1 M => ?_⟩
    · obtain ⟨o, o', ho, LB, r3, r4, rO, rD, rV, rP, t1, t2, f1, sUs⟩ := id R; obtain ⟨⟨x1, x2, x3, x4, x5, x6, x7, x8, x9, x10, x11, x12, x13⟩, LR, LC, LK, LS, LG, LH⟩ := id LB
      have P1 := rP.1
      have hc16 := rP.2.2.2.2.2.1
      unfold f_B_undo
      (try unfold QB); (try unfold QM); repeat (first | (with_reducible refine ok_lt ?_) | ((with_reducible refine ok_gd ?_ ?_); first | assumption | exact zb0 | exact zb1 | ((with_reducible apply ai_of) <;> first | assumption | omega | decide) | exact ai_lit (by assumption) (by decide) (by decide) (by decide)) | (refine ok_bR (by assumption) ?_))
      rw [rP.2.2.2.2.2.2.2.1]
      refine ok_f (nI_ne0 (by omega) (by omega)) ?_
      (try unfold QB); (try unfold QM); repeat (first | (with_reducible refine ok_lt ?_) | ((with_reducible refine ok_gd ?_ ?_); first | assumption | exact zb0 | exact zb1 | ((with_reducible apply ai_of) <;> first | assumption | omega | decide) | exact ai_lit (by assumption) (by decide) (by decide) (by decide)) | (refine ok_bR (by assumption) ?_))
      refine ok_bd (ok_mono (ok_P_takeLatest rP rV.1 ⟨by omega, by omega, by omega⟩) ?_)
      intro _ h2 hx
      obtain ⟨hF2, rP2, rV2⟩ := hx
      have e1 : hS h2 x = some (.inl 0) := by rw [hF2.2.1]; exact x1
      exact ok_gd e1 (ok_bde (e_B_allow e1) (ok_gd zb1 (ok_ret ⟨rfl, aB_fin R W.1.1 (hF2.mono (fun a k e => by rcases e with e | e; exact aB_P e; exact Or.inr (Or.inl e))) rV2 rP2⟩)))
    · have hF0 : Fk (aM m) h1 (uI h1 m 0 0) := fk_uI (Or.inl ⟨rfl, Or.inl (by decide)⟩)
      have M0 : RM (uI h1 m 0 0) m D V K (c + 1) Im j T tl fa := M.fr (fr_uI (S := ScM m) (ScM_l (by decide))) (fun a k e => Or.inl e)
      refine ok_gd M.1.1 (ok_lt ?_)
      generalize uI h1 m 0 0 = h0 at hF0 M0
      have M1 := M
      clear M
      have M := M0
      have hnn := M.nn hW
      obtain ⟨LM, z0, z3, rX, rR, u1, u2, g1⟩ := id M; obtain ⟨a0, ⟨a1, a2, a3, a4, a5, a6, a7, a8, a9, a10, a11, a12, a13⟩, s1, s2, s3, s4, s5, s6, s7, s8, s9, s10, s11, s12, s13⟩ := id LM
      obtain ⟨p1, p2, p3, p4, p5, p6⟩ := rR
      refine ok_gd a0 (ok_f hnn ?_)
      (try unfold QB); (try unfold QM); repeat (first | (with_reducible refine ok_lt ?_) | ((with_reducible refine ok_gd ?_ ?_); first | assumption | exact zb0 | exact zb1 | ((with_reducible apply ai_of) <;> first | assumption | omega | decide) | exact ai_lit (by assumption) (by decide) (by decide) (by decide)) | (refine ok_bR (by assumption) ?_))
      rw [p3]
      refine ok_f (nI_ne0 (by omega) (by omega)) ?_
      (try unfold QB); (try unfold QM); repeat (first | (with_reducible refine ok_lt ?_) | ((with_reducible refine ok_gd ?_ ?_); first | assumption | exact zb0 | exact zb1 | ((with_reducible apply ai_of) <;> first | assumption | omega | decide) | exact ai_lit (by assumption) (by decide) (by decide) (by decide)) | (refine ok_bR (by assumption) ?_))
      rw [nI_pred]
      refine ok_up 8 (fun i st h' => st = (m, nI i) ∧ Fk (fun a k => (a = m ∧ k = 19) ∨ a = m + 2) h0 h' ∧ hI h' m 19 = nI c ∧ ∀ k, k < i → hI h' (m + 2) k = xv (K 0) k (hI h' (m + 2) k)) ?_ FU 0 _ _ (Nat.zero_le _) ⟨rfl, fk_uI (Or.inl ⟨rfl, rfl⟩), hI_uIs, fun k hk => absurd hk (Nat.not_lt_zero _)⟩ (by show _ < 10000; omega)
      intro k i st h' hi hI' kk
      obtain ⟨rfl, hF, h19, hp⟩ := hI'
      obtain ⟨a0', ⟨a1', a2', a3', a4', a5', -⟩, s1', s2', s3', s4', s5', -⟩ := LM.fk hF
      show Ok (b_m_undo_38 k m (nI i) h') _
      unfold b_m_undo_38
      refine ok_it (a := 8) hi (by decide) (fun e => ?_) (fun hl => ?_)
      · subst e
        have rR2 : RepR h' m (fun i => K (i + 1)) c Im j := by
          refine ⟨by omega, p2, h19, ?_, fun i hi k hk => ?_, fun i hi k hk => ?_⟩
          · rw [(hF.2.2.2.2 m 20 (by omega)).1]
            exact p4
          · rw [(hF.2.2.2.2 (m + 4) _ (by omega)).1]
            have g := p5 (i + 1) (by omega) k hk
            rw [show c + 1 - 1 - (i + 1) = c - 1 - i by omega] at g
            exact g
          · rw [(hF.2.2.2.2 (m + 5) _ (by omega)).1]
            exact p6 i hi k hk
        exact ok_gd a0' (ok_bde (e_m_granted a0') (ok_gd zb1 (ok_ret ⟨rfl, aM_fin M1 (hF0.trans (hF.mono (fun a k e => by unfold aM; omega))) ⟨s2', hp⟩ rR2⟩)))
      · (try unfold QB); (try unfold QM); repeat (first | (with_reducible refine ok_lt ?_) | ((with_reducible refine ok_gd ?_ ?_); first | assumption | exact zb0 | exact zb1 | ((with_reducible apply ai_of) <;> first | assumption | omega | decide) | exact ai_lit (by assumption) (by decide) (by decide) (by decide)) | (refine ok_bR (by assumption) ?_))
        rw [h19, nI_8m]
        (try unfold QB); (try unfold QM); repeat (first | (with_reducible refine ok_lt ?_) | ((with_reducible refine ok_gd ?_ ?_); first | assumption | exact zb0 | exact zb1 | ((with_reducible apply ai_of) <;> first | assumption | omega | decide) | exact ai_lit (by assumption) (by decide) (by decide) (by decide)) | (refine ok_bR (by assumption) ?_))
        (try simp (disch := omega) only [nI_clamp, cl0, cl1, cl2, cl3, cl4, cl5, cl6, cl7, cl8])
        have g : hI h' (m + 4) (8 * c + i) = xv (K 0) i (hI h' (m + 4) (8 * c + i)) := by
          rw [(hF.2.2.2.2 (m + 4) _ (by omega)).1]
          have g := p5 0 (by omega) i hl
          rw [show c + 1 - 1 - 0 = c by omega] at g
          exact g
        refine kk _ _ hl ⟨by rw [nI_1], hF.trans (fk_uI (Or.inr rfl)), by rw [hI_uIa (by omega)]; exact h19, fun k hk => ?_⟩
        rw [hI_uI]
        by_cases e : k = i
        · rw [if_pos ⟨rfl, e⟩, e]
          exact g
        · rw [if_neg (fun g => e g.2)]
          exact hp k (by omega)
theorem a_image (W : Wst D V K c Im j tl nc) (hn : nc < 512) (R : RB h x D V K c Im j T tl fa) : PairA x h m (fun h1 => RM h1 m D V K c Im j T tl fa) T tl fa nc (f_B_image x h) (f_m_image m) := by
  have w1 := W.1.1.1
  rcases Nat.eq_zero_or_pos (dW D) with hW | hW
  · refine Pair.a W hn R ⟨-1, 1, by decide, ?_, fun h1 M => qM_st M (fun h0 M F _ => ?_)⟩
    · obtain ⟨o, o', ho, LB, r3, r4, rO, rD, rV, rP, t1, t2, f1, sUs⟩ := id R; obtain ⟨⟨x1, x2, x3, x4, x5, x6, x7, x8, x9, x10, x11, x12, x13⟩, LR, LC, LK, LS, LG, LH⟩ := id LB
      unfold f_B_image
      refine ok_gd x1 (ok_bde (e_B_hasOrrery x1 r3 rO w1) ?_)
      rw [decide_eq_false (by omega)]
      exact ok_t rfl (qB_ref Fr.rf x1)
    · exact ok_gd M.1.1 (ok_t (M.2.1 hW) (qM_ref F M.1.1))
  have hj3 : j ≤ 3 := by
    obtain ⟨o, o', ho, L, r3, r4, rO, rD, rV, rP, -⟩ := R
    exact rP.2.2.2.2.2.2.1
  by_cases hd : j = 3
  · refine Pair.a W hn R ⟨-1, 3, by decide, ?_, fun h1 M => qM_st M (fun h0 M F _ => ?_)⟩
    · obtain ⟨o, o', ho, LB, r3, r4, rO, rD, rV, rP, t1, t2, f1, sUs⟩ := id R; obtain ⟨⟨x1, x2, x3, x4, x5, x6, x7, x8, x9, x10, x11, x12, x13⟩, LR, LC, LK, LS, LG, LH⟩ := id LB
      have P1 := rP.1
      unfold f_B_image
      refine ok_gd x1 (ok_bde (e_B_hasOrrery x1 r3 rO w1) ?_)
      rw [decide_eq_true hW]
      refine ok_f (by decide) ?_
      (try unfold QB); (try unfold QM); repeat (first | (with_reducible refine ok_lt ?_) | ((with_reducible refine ok_gd ?_ ?_); first | assumption | exact zb0 | exact zb1 | ((with_reducible apply ai_of) <;> first | assumption | omega | decide) | exact ai_lit (by assumption) (by decide) (by decide) (by decide)) | (refine ok_bR (by assumption) ?_))
      rw [rP.2.2.2.2.2.2.2.2.1, hd]
      exact ok_f (by decide) (qB_ref Fr.rf x1)
    · have hnn := M.nn hW
      obtain ⟨LM, z0, z3, rX, rR, u1, u2, g1⟩ := id M; obtain ⟨a0, ⟨a1, a2, a3, a4, a5, a6, a7, a8, a9, a10, a11, a12, a13⟩, s1, s2, s3, s4, s5, s6, s7, s8, s9, s10, s11, s12, s13⟩ := id LM
      refine ok_gd a0 (ok_f hnn ?_)
      (try unfold QB); (try unfold QM); repeat (first | (with_reducible refine ok_lt ?_) | ((with_reducible refine ok_gd ?_ ?_); first | assumption | exact zb0 | exact zb1 | ((with_reducible apply ai_of) <;> first | assumption | omega | decide) | exact ai_lit (by assumption) (by decide) (by decide) (by decide)) | (refine ok_bR (by assumption) ?_))
      rw [rR.2.2.2.1, hd]
      exact ok_t rfl (qM_ref F a0)
  · have W2 : Wst D V K c (fun i => if i = j then V else Im i) (j + 1) tl (nc + 1) := by
      refine ⟨W.1, W.2.1.up (by omega), fun i hi => (W.2.2.1 i hi).up (by omega), fun i hi => ?_, W.2.2.2.2.1, by omega, fun e => by omega⟩
      by_cases e : i = j
      · show WfG D (if i = j then V else Im i) _
        rw [if_pos e]
        exact W.2.1.up (by omega)
      · show WfG D (if i = j then V else Im i) _
        rw [if_neg e]
        exact (W.2.2.2.1 i (by omega)).up (by omega)
    refine ⟨nI j, 0, D, V, K, c, fun i => if i = j then V else Im i, j + 1, by decide, W2, ?_, fun h1 M => ?_⟩
    · obtain ⟨o, o', ho, LB, r3, r4, rO, rD, rV, rP, t1, t2, f1, sUs⟩ := id R; obtain ⟨⟨x1, x2, x3, x4, x5, x6, x7, x8, x9, x10, x11, x12, x13⟩, LR, LC, LK, LS, LG, LH⟩ := id LB
      have P1 := rP.1
      unfold f_B_image
      refine ok_gd x1 (ok_bde (e_B_hasOrrery x1 r3 rO w1) ?_)
      rw [decide_eq_true hW]
      refine ok_f (by decide) ?_
      (try unfold QB); (try unfold QM); repeat (first | (with_reducible refine ok_lt ?_) | ((with_reducible refine ok_gd ?_ ?_); first | assumption | exact zb0 | exact zb1 | ((with_reducible apply ai_of) <;> first | assumption | omega | decide) | exact ai_lit (by assumption) (by decide) (by decide) (by decide)) | (refine ok_bR (by assumption) ?_))
      rw [rP.2.2.2.2.2.2.2.2.1]
      refine ok_t (nI_lt (b := 3) (by omega) (by decide)) ?_
      (try unfold QB); (try unfold QM); repeat (first | (with_reducible refine ok_lt ?_) | ((with_reducible refine ok_gd ?_ ?_); first | assumption | exact zb0 | exact zb1 | ((with_reducible apply ai_of) <;> first | assumption | omega | decide) | exact ai_lit (by assumption) (by decide) (by decide) (by decide)) | (refine ok_bR (by assumption) ?_))
      refine ok_bd (ok_mono (ok_P_addImage rP (by omega) rV) ?_)
      intro y h2 hx
      obtain ⟨rfl, hF2, rP2⟩ := hx
      have e1 : hS h2 x = some (.inl 0) := by rw [hF2.2.1]; exact x1
      exact ok_gd e1 (ok_bde (e_B_grant e1) (ok_ret ⟨rfl, aB_fin R W.1.1 (hF2.mono (fun a k e => aB_P e)) (rV.fk hF2 (fun k e => by unfold sP at e; omega)) rP2⟩))
    · have hF0 : Fk (aM m) h1 (uI h1 m 0 0) := fk_uI (Or.inl ⟨rfl, Or.inl (by decide)⟩)
      have M0 : RM (uI h1 m 0 0) m D V K c Im j T tl fa := M.fr (fr_uI (S := ScM m) (ScM_l (by decide))) (fun a k e => Or.inl e)
      refine ok_gd M.1.1 (ok_lt ?_)
      generalize uI h1 m 0 0 = h0 at hF0 M0
      have M1 := M
      clear M
      have M := M0
      have hnn := M.nn hW
      obtain ⟨LM, z0, z3, rX, rR, u1, u2, g1⟩ := id M; obtain ⟨a0, ⟨a1, a2, a3, a4, a5, a6, a7, a8, a9, a10, a11, a12, a13⟩, s1, s2, s3, s4, s5, s6, s7, s8, s9, s10, s11, s12, s13⟩ := id LM
      obtain ⟨p1, p2, p3, p4, p5, p6⟩ := rR
      refine ok_gd a0 (ok_f hnn ?_)
      (try unfold QB); (try unfold QM); repeat (first | (with_reducible refine ok_lt ?_) | ((with_reducible refine ok_gd ?_ ?_); first | assumption | exact zb0 | exact zb1 | ((with_reducible apply ai_of) <;> first | assumption | omega | decide) | exact ai_lit (by assumption) (by decide) (by decide) (by decide)) | (refine ok_bR (by assumption) ?_))
      rw [p4]
      refine ok_f (fun e => hd ((nI_eq (b := 3) (by omega) (by decide)).mp e)) ?_
      (try unfold QB); (try unfold QM); repeat (first | (with_reducible refine ok_lt ?_) | ((with_reducible refine ok_gd ?_ ?_); first | assumption | exact zb0 | exact zb1 | ((with_reducible apply ai_of) <;> first | assumption | omega | decide) | exact ai_lit (by assumption) (by decide) (by decide) (by decide)) | (refine ok_bR (by assumption) ?_))
      refine ok_up 8 (fun i st h' => st = (m, nI i) ∧ Fk (fun a k => a = m + 5) h0 h' ∧ ∀ p, hI h' (m + 5) p = if 8 * j ≤ p ∧ p < 8 * j + i then hI h0 (m + 2) (p - 8 * j) else hI h0 (m + 5) p) ?_ FU 0 _ _ (Nat.zero_le _) ⟨rfl, Fk.rf, fun p => (if_neg (by omega)).symm⟩ (by show _ < 10000; omega)
      intro k i st h' hi hI' kk
      obtain ⟨rfl, hF, hp⟩ := hI'
      obtain ⟨a0', ⟨a1', a2', a3', a4', a5', -⟩, s1', s2', s3', s4', s5', -⟩ := LM.fk hF
      have rX' : RepX h' (m + 2) V := rX.fk hF (fun k e => by omega)
      have h20 : hI h' m 20 = nI j := by rw [(hF.2.2.2.2 m 20 (by omega)).1]; exact p4
      show Ok (b_m_image_34 k m (nI i) h') _
      unfold b_m_image_34
      refine ok_it (a := 8) hi (by decide) (fun e => ?_) (fun hl => ?_)
      · subst e
        (try unfold QB); (try unfold QM); repeat (first | (with_reducible refine ok_lt ?_) | ((with_reducible refine ok_gd ?_ ?_); first | assumption | exact zb0 | exact zb1 | ((with_reducible apply ai_of) <;> first | assumption | omega | decide) | exact ai_lit (by assumption) (by decide) (by decide) (by decide)) | (refine ok_bR (by assumption) ?_))
        rw [hI_uIs, h20, nI_1, nI_pred]
        have F3 := fk_uI (S := fun a k => a = m ∧ k = 20) (h := h') (a := m) (k := 20) (v := nI (j + 1)) ⟨rfl, rfl⟩
        have rR2 : RepR (uI h' m 20 (nI (j + 1))) m K c (fun i => if i = j then V else Im i) (j + 1) := by
          refine ⟨p1, by omega, ?_, hI_uIs, fun i hi k hk => ?_, fun i hi k hk => ?_⟩
          · rw [hI_uIk (by decide), (hF.2.2.2.2 m 19 (by omega)).1]
            exact p3
          · rw [hI_uIa (by omega), (hF.2.2.2.2 (m + 4) _ (by omega)).1]
            exact p5 i hi k hk
          · rw [hI_uIa (by omega), hp]
            by_cases e : i = j
            · rw [e, if_pos (by omega), show 8 * j + k - 8 * j = k by omega]
              show _ = xv (if j = j then V else Im j) k _
              rw [if_pos rfl]
              exact rX.2 k hk
            · rw [if_neg (by omega)]
              show _ = xv (if i = j then V else Im i) k _
              rw [if_neg e]
              exact p6 i (by omega) k hk
        exact ok_bde (e_m_good a0') (ok_ret ⟨rfl, aM_fin M1 ((hF0.trans (hF.mono (fun a k e => by unfold aM; omega))).trans (F3.mono (fun a k e => by unfold aM; omega))) (rX'.fk F3 (fun k e => by omega)) rR2⟩)
      · (try unfold QB); (try unfold QM); repeat (first | (with_reducible refine ok_lt ?_) | ((with_reducible refine ok_gd ?_ ?_); first | assumption | exact zb0 | exact zb1 | ((with_reducible apply ai_of) <;> first | assumption | omega | decide) | exact ai_lit (by assumption) (by decide) (by decide) (by decide)) | (refine ok_bR (by assumption) ?_))
        rw [h20, nI_8m]
        (try unfold QB); (try unfold QM); repeat (first | (with_reducible refine ok_lt ?_) | ((with_reducible refine ok_gd ?_ ?_); first | assumption | exact zb0 | exact zb1 | ((with_reducible apply ai_of) <;> first | assumption | omega | decide) | exact ai_lit (by assumption) (by decide) (by decide) (by decide)) | (refine ok_bR (by assumption) ?_))
        (try simp (disch := omega) only [nI_clamp, cl0, cl1, cl2, cl3, cl4, cl5, cl6, cl7, cl8])
        rw [show hI h' (m + 2) i = hI h0 (m + 2) i from (hF.2.2.2.2 (m + 2) i (by omega)).1]
        refine kk _ _ hl ⟨by rw [nI_1], hF.trans (fk_uI rfl), fun p => ?_⟩
        rw [hI_uI]
        by_cases e : p = 8 * j + i
        · rw [if_pos ⟨rfl, e⟩, if_pos (by omega), e, show 8 * j + i - 8 * j = i by omega]
        · rw [if_neg (fun g => e g.2), hp p]
          by_cases e2 : 8 * j ≤ p ∧ p < 8 * j + i
          · rw [if_pos e2, if_pos (by omega)]
          · rw [if_neg e2, if_neg (by omega)]
theorem a_back (W : Wst D V K c Im j tl nc) (hn : nc < 512) (R : RB h x D V K c Im j T tl fa) (v : Int32) : PairA x h m (fun h1 => RM h1 m D V K c Im j T tl fa) T tl fa nc (f_B_back x v h) (f_m_back m v) := by
  have hj3 : j ≤ 3 := by
    obtain ⟨o, o', ho, L, r3, r4, rO, rD, rV, rP, -⟩ := R
    exact rP.2.2.2.2.2.2.1
  rcases pk_ix v (n := j) (by omega) with hr | hr | ⟨i, hi, rfl⟩
  · refine Pair.a W hn R ⟨0, 1, by decide, ?_, fun h1 M => qM_st M (fun h0 M F _ => ?_)⟩
    · obtain ⟨o, o', ho, LB, r3, r4, rO, rD, rV, rP, t1, t2, f1, sUs⟩ := id R; obtain ⟨⟨x1, x2, x3, x4, x5, x6, x7, x8, x9, x10, x11, x12, x13⟩, LR, LC, LK, LS, LG, LH⟩ := id LB
      unfold f_B_back b_B_back_15
      exact ok_t hr (qB_dn Fr.rf x1)
    · unfold b_m_back_24
      obtain ⟨LM, z0, z3, rX, rR, u1, u2, g1⟩ := id M; obtain ⟨a0, ⟨a1, a2, a3, a4, a5, a6, a7, a8, a9, a10, a11, a12, a13⟩, s1, s2, s3, s4, s5, s6, s7, s8, s9, s10, s11, s12, s13⟩ := id LM
      exact ok_gd a0 (ok_ite (fun _ => qM_dd F a0) (fun _ => ok_t hr (qM_dd F a0)))
  · refine Pair.a W hn R ⟨0, 1, by decide, ?_, fun h1 M => qM_st M (fun h0 M F _ => ?_)⟩
    · obtain ⟨o, o', ho, LB, r3, r4, rO, rD, rV, rP, t1, t2, f1, sUs⟩ := id R; obtain ⟨⟨x1, x2, x3, x4, x5, x6, x7, x8, x9, x10, x11, x12, x13⟩, LR, LC, LK, LS, LG, LH⟩ := id LB
      have P1 := rP.1
      unfold f_B_back b_B_back_15
      refine ok_ite (fun _ => qB_dn Fr.rf x1) (fun _ => ?_)
      (try unfold QB); (try unfold QM); repeat (first | (with_reducible refine ok_lt ?_) | ((with_reducible refine ok_gd ?_ ?_); first | assumption | exact zb0 | exact zb1 | ((with_reducible apply ai_of) <;> first | assumption | omega | decide) | exact ai_lit (by assumption) (by decide) (by decide) (by decide)) | (refine ok_bR (by assumption) ?_))
      rw [rP.2.2.2.2.2.2.2.2.1]
      exact ok_f (Int32.not_lt.mpr hr) (qB_dn Fr.rf x1)
    · unfold b_m_back_24
      obtain ⟨LM, z0, z3, rX, rR, u1, u2, g1⟩ := id M; obtain ⟨a0, ⟨a1, a2, a3, a4, a5, a6, a7, a8, a9, a10, a11, a12, a13⟩, s1, s2, s3, s4, s5, s6, s7, s8, s9, s10, s11, s12, s13⟩ := id LM
      refine ok_gd a0 (ok_ite (fun _ => qM_dd F a0) (fun _ => ok_ite (fun _ => qM_dd F a0) (fun _ => ?_)))
      (try unfold QB); (try unfold QM); repeat (first | (with_reducible refine ok_lt ?_) | ((with_reducible refine ok_gd ?_ ?_); first | assumption | exact zb0 | exact zb1 | ((with_reducible apply ai_of) <;> first | assumption | omega | decide) | exact ai_lit (by assumption) (by decide) (by decide) (by decide)) | (refine ok_bR (by assumption) ?_))
      rw [rR.2.2.2.1]
      exact ok_f (Int32.not_lt.mpr hr) (qM_dd F a0)
  · have hW : 0 < dW D := by
      rcases Nat.eq_zero_or_pos (dW D) with e | e
      · have := (W.2.2.2.2.2.2 e).2.2.2.2.2.2
        omega
      · exact e
    have W2 : Wst D (Im i) K 0 Im j tl (nc + 1) := ⟨W.1, (W.2.2.2.1 i hi).up (by omega), fun i hi => absurd hi (Nat.not_lt_zero _), fun i hi => (W.2.2.2.1 i hi).up (by omega), W.2.2.2.2.1, by omega, fun e => by omega⟩
    refine ⟨1, 0, D, Im i, K, 0, Im, j, by decide, W2, ?_, fun h1 M => ?_⟩
    · obtain ⟨o, o', ho, LB, r3, r4, rO, rD, rV, rP, t1, t2, f1, sUs⟩ := id R; obtain ⟨⟨x1, x2, x3, x4, x5, x6, x7, x8, x9, x10, x11, x12, x13⟩, LR, LC, LK, LS, LG, LH⟩ := id LB
      have P1 := rP.1
      unfold f_B_back
      refine ok_f (nI_pos (by omega)) ?_
      (try unfold QB); (try unfold QM); repeat (first | (with_reducible refine ok_lt ?_) | ((with_reducible refine ok_gd ?_ ?_); first | assumption | exact zb0 | exact zb1 | ((with_reducible apply ai_of) <;> first | assumption | omega | decide) | exact ai_lit (by assumption) (by decide) (by decide) (by decide)) | (refine ok_bR (by assumption) ?_))
      rw [rP.2.2.2.2.2.2.2.2.1]
      refine ok_t (nI_lt hi (by omega)) ?_
      (try unfold QB); (try unfold QM); repeat (first | (with_reducible refine ok_lt ?_) | ((with_reducible refine ok_gd ?_ ?_); first | assumption | exact zb0 | exact zb1 | ((with_reducible apply ai_of) <;> first | assumption | omega | decide) | exact ai_lit (by assumption) (by decide) (by decide) (by decide)) | (refine ok_bR (by assumption) ?_))
      refine ok_bd (ok_mono (ok_P_takeImage rP hi rV.1 ⟨by omega, by omega, by omega⟩) ?_)
      intro _ h2 hx
      obtain ⟨hF2, rP2, rV2⟩ := hx
      have e1 : hS h2 x = some (.inl 0) := by rw [hF2.2.1]; exact x1
      exact ok_gd e1 (ok_bde (e_B_allow e1) (ok_gd zb1 (ok_ret ⟨rfl, aB_fin R W.1.1 (hF2.mono (fun a k e => by rcases e with e | e; exact aB_P e; exact Or.inr (Or.inl e))) rV2 rP2⟩)))
    · have hF0 : Fk (aM m) h1 (uI h1 m 0 0) := fk_uI (Or.inl ⟨rfl, Or.inl (by decide)⟩)
      have M0 : RM (uI h1 m 0 0) m D V K c Im j T tl fa := M.fr (fr_uI (S := ScM m) (ScM_l (by decide))) (fun a k e => Or.inl e)
      refine ok_gd M.1.1 (ok_lt ?_)
      generalize uI h1 m 0 0 = h0 at hF0 M0
      have M1 := M
      clear M
      have M := M0
      have hnn := M.nn hW
      obtain ⟨LM, z0, z3, rX, rR, u1, u2, g1⟩ := id M; obtain ⟨a0, ⟨a1, a2, a3, a4, a5, a6, a7, a8, a9, a10, a11, a12, a13⟩, s1, s2, s3, s4, s5, s6, s7, s8, s9, s10, s11, s12, s13⟩ := id LM
      obtain ⟨p1, p2, p3, p4, p5, p6⟩ := rR
      refine ok_gd a0 (ok_f hnn (ok_f (nI_pos (by omega)) ?_))
      (try unfold QB); (try unfold QM); repeat (first | (with_reducible refine ok_lt ?_) | ((with_reducible refine ok_gd ?_ ?_); first | assumption | exact zb0 | exact zb1 | ((with_reducible apply ai_of) <;> first | assumption | omega | decide) | exact ai_lit (by assumption) (by decide) (by decide) (by decide)) | (refine ok_bR (by assumption) ?_))
      rw [p4]
      refine ok_t (nI_lt hi (by omega)) ?_
      (try unfold QB); (try unfold QM); repeat (first | (with_reducible refine ok_lt ?_) | ((with_reducible refine ok_gd ?_ ?_); first | assumption | exact zb0 | exact zb1 | ((with_reducible apply ai_of) <;> first | assumption | omega | decide) | exact ai_lit (by assumption) (by decide) (by decide) (by decide)) | (refine ok_bR (by assumption) ?_))
      refine ok_up 8 (fun b st h' => st = (m, nI i, nI b) ∧ Fk (fun a k => a = m + 2) h0 h' ∧ ∀ k, k < b → hI h' (m + 2) k = xv (Im i) k (hI h' (m + 2) k)) ?_ FU 0 _ _ (Nat.zero_le _) ⟨rfl, Fk.rf, fun k hk => absurd hk (Nat.not_lt_zero _)⟩ (by show _ < 10000; omega)
      intro k b st h' hb hI' kk
      obtain ⟨rfl, hF, hp⟩ := hI'
      obtain ⟨a0', ⟨a1', a2', a3', a4', a5', -⟩, s1', s2', s3', s4', s5', -⟩ := LM.fk hF
      show Ok (b_m_back_32 k m (nI i) (nI b) h') _
      unfold b_m_back_32
      refine ok_it (a := 8) hb (by decide) (fun e => ?_) (fun hl => ?_)
      · subst e
        (try unfold QB); (try unfold QM); repeat (first | (with_reducible refine ok_lt ?_) | ((with_reducible refine ok_gd ?_ ?_); first | assumption | exact zb0 | exact zb1 | ((with_reducible apply ai_of) <;> first | assumption | omega | decide) | exact ai_lit (by assumption) (by decide) (by decide) (by decide)) | (refine ok_bR (by assumption) ?_))
        have F3 := fk_uI (S := fun a k => a = m ∧ k = 19) (h := h') (a := m) (k := 19) (v := 0) ⟨rfl, rfl⟩
        have rR2 : RepR (uI h' m 19 0) m K 0 Im j := by
          refine ⟨by omega, p2, hI_uIs, ?_, fun i hi => absurd hi (Nat.not_lt_zero _), fun i hi k hk => ?_⟩
          · rw [hI_uIk (by decide), (hF.2.2.2.2 m 20 (by omega)).1]
            exact p4
          · rw [hI_uIa (by omega), (hF.2.2.2.2 (m + 5) _ (by omega)).1]
            exact p6 i hi k hk
        have rX2 : RepX h' (m + 2) (Im i) := ⟨s2', hp⟩
        exact ok_bde (e_m_granted a0') (ok_gd zb1 (ok_ret ⟨rfl, aM_fin M1 ((hF0.trans (hF.mono (fun a k e => by unfold aM; omega))).trans (F3.mono (fun a k e => by unfold aM; omega))) (rX2.fk F3 (fun k e => by omega)) rR2⟩))
      · rw [nI_8m]
        (try unfold QB); (try unfold QM); repeat (first | (with_reducible refine ok_lt ?_) | ((with_reducible refine ok_gd ?_ ?_); first | assumption | exact zb0 | exact zb1 | ((with_reducible apply ai_of) <;> first | assumption | omega | decide) | exact ai_lit (by assumption) (by decide) (by decide) (by decide)) | (refine ok_bR (by assumption) ?_))
        (try simp (disch := omega) only [nI_clamp, cl0, cl1, cl2, cl3, cl4, cl5, cl6, cl7, cl8])
        have g : hI h' (m + 5) (8 * i + b) = xv (Im i) b (hI h' (m + 5) (8 * i + b)) := by
          rw [(hF.2.2.2.2 (m + 5) _ (by omega)).1]
          exact p6 i hi b hl
        refine kk _ _ hl ⟨by rw [nI_1], hF.trans (fk_uI rfl), fun k hk => ?_⟩
        rw [hI_uI]
        by_cases e : k = b
        · rw [if_pos ⟨rfl, e⟩, e]
          exact g
        · rw [if_neg (fun g => e g.2)]
          exact hp k (by omega)
end AE
