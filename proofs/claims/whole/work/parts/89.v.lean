/-! the class's reader: a line, the whole text -/
section LF
variable {X : TX} {D : DD} {br : Bool} {N : NN} {a : Nat}
theorem lb_f {n most : Nat} (h : n ≠ most) : lb X false n most a = (6, a) := by
  unfold lb cCk
  rw [decide_eq_true h]
  rfl
theorem l0_f : l0 X false a = (6, a) := rfl
theorem e6 : ((6, a) : CU).1 ≠ 0 := by show (6 : Nat) ≠ 0; decide
theorem lnW_f (h : dW D = 0) : lnW X D N false a = (6, a) := by
  have e := e6 (a := a)
  have e1 : w2 X D N false a = (6, a) := by unfold w2; rw [lb_f (by omega), cT_n e, cS_n e]
  have e2 : w4 X D N false a = (6, a) := by unfold w4 cD; rw [e1, cCk_n e, cS_n e, cP_n e]
  have e3 : w6 X D N false a = (6, a) := by unfold w6; rw [e2, cW_n e, cP_n e]
  have e4 : w8 X D N false a = (6, a) := by unfold w8; rw [e3, cW_n e, cP_n e]
  unfold lnW
  rw [e4, cW_n e]
theorem lnG_f : lnG X D N false a = (6, a) := by
  have e := e6 (a := a)
  have e1 : g5 X D N false a = (6, a) := by unfold g5; rw [l0_f, cK_n e, cCk_n e, cCk_n e, cS_n e]
  unfold lnG
  rw [e1, cH_n e, cCk_n e, cS_n e]
theorem lnF_f (h : dF D = 0) : lnF X D N false a = (6, a) := by
  have e := e6 (a := a)
  have e1 : f2 X D N false a = (6, a) := by unfold f2; rw [lb_f (by omega), cT_n e, cS_n e]
  have e2 : (fpart X N (dF D) (D, f2 X D N false a)).2 = (6, a) := by
    rw [e1]
    unfold fpart fp4
    show cW X 0 _ (cP X 18 (cS X (cCk _ 3 (cK X N 0 (6, a))))) = _
    rw [cK_n e, cCk_n e, cS_n e, cP_n e, cW_n e]
  have e3 : fall X D N false a = fpart X N (dF D) (D, f2 X D N false a) := by
    unfold fall
    exact run_it _ _ 0 1000 _ (by decide) (fun k hk => absurd hk (Nat.not_lt_zero _)) (decide_eq_false (fun q => absurd q.1 (by show ¬ (fpart X N (dF D) (D, f2 X D N false a)).2.1 = 0; rw [e2]; exact e)))
  unfold lnF
  rw [e3, e2]
theorem lnK_f (h : dN D = 0) : lnK X D N false a = (6, a) := by
  have e := e6 (a := a)
  have e1 : k3 X D N false a = (6, a) := by unfold k3; rw [lb_f (by omega), cT_n e, cS_n e, cP_n e]
  have e2 : k5 X D N false a = (6, a) := by unfold k5; rw [e1, cW_n e, cP_n e]
  have e3 : k7 X D N false a = (6, a) := by unfold k7; rw [e2, cW_n e, cP_n e]
  unfold lnK
  rw [e3, cK_n e, cS_n e]
theorem lnY_f : lnY X D N false a = (6, a) := by
  have e := e6 (a := a)
  have e1 : y4 X D N false a = (6, a) := by unfold y4; rw [l0_f, cK_n e, cCk_n e, cS_n e, cP_n e]
  have e2 : y6 X D N false a = (6, a) := by unfold y6; rw [e1, cW_n e, cP_n e]
  unfold lnY
  rw [e2, cW_n e]
theorem lnU_f (h : dSu D = 0) : lnU X D N false a = (6, a) := by
  have e := e6 (a := a)
  have e1 : s0 X D false a = (6, a) := by unfold s0 cCk; rw [decide_eq_true h]; rfl
  unfold lnU
  rw [e1, cK_n e, cCk_n e, cS_n e]
theorem lnJ_f (h : dSu D = 0) (h2 : dSe D = 0) : lnJ X D a = (6, a) := by
  have e := e6 (a := a)
  have e1 : j2 X D a = (6, a) := by
    unfold j2
    rw [show cCk (decide (dSe D ≠ 5)) 5 (0, a) = (0, a) by unfold cCk; rw [decide_eq_true (by omega)]; rfl, show cCk (decide (dSu D ≠ 0)) 6 (0, a) = (6, a) by unfold cCk; rw [decide_eq_false (fun q => q h)]; rfl, cS_n e, cP_n e]
  unfold lnJ
  rw [e1, cH_n e, cCk_n e, cS_n e]
theorem isLn_ff (h : isLn X a = false) : isW X 1 a = false ∧ isW X 4 a = false ∧ isW X 5 a = false ∧ isW X 6 a = false ∧ isW X 7 a = false ∧ isW X 8 a = false ∧ isW X 9 a = false ∧ isW X 10 a = false ∧ isW X 11 a = false := by
  unfold isLn at h
  simp only [Bool.or_eq_false_iff] at h
  obtain ⟨⟨⟨⟨⟨⟨⟨⟨h1, h2⟩, h3⟩, h4⟩, h5⟩, h6⟩, h7⟩, h8⟩, h9⟩ := h
  exact ⟨h1, h2, h3, h4, h5, h6, h7, h8, h9⟩
/-- without brass told no other line may come -/
theorem line_f (W : WfR D false N) (h1 : isW X 1 a = false) (hl : isLn X a = true) : (line X (D, false, N, (0, a))).2.2.2 = (6, a) := by
  obtain ⟨w1, w2, w3, w4, w5⟩ := W.2.2.2.2.2.2 rfl
  unfold line
  show (if (0 : Nat) ≠ 0 then _ else if isW X 1 a = true then _ else _ : LSt).2.2.2 = _
  rw [if_neg (by decide), h1, if_neg (by decide)]
  show (if isW X 4 a = true then _ else if isW X 5 a = true then _ else if isW X 6 a = true then _ else if isW X 7 a = true then _ else if isW X 8 a = true then _ else if isW X 9 a = true then _ else if isW X 10 a = true then _ else if isW X 11 a = true then _ else _ : LSt).2.2.2 = _
  cases q4 : isW X 4 a with
  | true => rw [if_pos rfl]; exact lnW_f w1
  | false =>
  rw [if_neg (by decide)]
  cases q5 : isW X 5 a with
  | true => rw [if_pos rfl]; exact lnG_f
  | false =>
  rw [if_neg (by decide)]
  cases q6 : isW X 6 a with
  | true => rw [if_pos rfl]; exact lnF_f w2
  | false =>
  rw [if_neg (by decide)]
  cases q7 : isW X 7 a with
  | true => rw [if_pos rfl]; exact lnK_f w3
  | false =>
  rw [if_neg (by decide)]
  cases q8 : isW X 8 a with
  | true => rw [if_pos rfl]; exact lnY_f
  | false =>
  rw [if_neg (by decide)]
  cases q9 : isW X 9 a with
  | true => rw [if_pos rfl]; exact lnU_f w4
  | false =>
  rw [if_neg (by decide)]
  cases q10 : isW X 10 a with
  | true => rw [if_pos rfl]; exact lnJ_f w4 w5
  | false =>
  rw [if_neg (by decide)]
  cases q11 : isW X 11 a with
  | true => rw [if_pos rfl]; exact lnJ_f w4 w5
  | false =>
    exfalso
    unfold isLn at hl
    rw [h1, q4, q5, q6, q7, q8, q9, q10, q11] at hl
    cases hl
end LF
section LL
variable {h0 h h' : Hp} {x o a : Nat} {X : TX} {D : DD} {br : Bool} {N : NN} {c c' c0 : CU}
theorem line_1 (q : isW X 1 a = true) : line X (D, br, N, (0, a)) = (dnB X D br a, true, N, lnB X br a) := by
  unfold line
  show (if (0 : Nat) ≠ 0 then _ else if isW X 1 a = true then _ else _ : LSt) = _
  rw [if_neg (by decide), if_pos q]
theorem line_n (q : isW X 1 a = false) : line X (D, br, N, (0, a)) = if isW X 4 a = true then (dnW X D N br a, br, nnW X D N br a, lnW X D N br a) else if isW X 5 a = true then (dnG X D N br a, br, N, lnG X D N br a) else if isW X 6 a = true then (dnF X D N br a, br, nnF X D N br a, lnF X D N br a) else if isW X 7 a = true then (dnK X D N br a, br, nnK X D N br a, lnK X D N br a) else if isW X 8 a = true then (dnY X D N br a, br, N, lnY X D N br a) else if isW X 9 a = true then (dnU X D N br a, br, N, lnU X D N br a) else if isW X 10 a = true then (dnJ X D a 1, br, N, lnJ X D a) else if isW X 11 a = true then (dnJ X D a 0, br, N, lnJ X D a) else (D, br, N, cF 1 (0, a)) := by
  unfold line
  show (if (0 : Nat) ≠ 0 then _ else if isW X 1 a = true then _ else _ : LSt) = _
  rw [if_neg (by decide), q, if_neg (by decide)]
theorem ok_R_line (C : CL h x o X D br N (0, a)) (W : WfR D br N) : Ok (f_R_readLine (x + 2) h) (fun _ h' => Fr (SX x o) h h' ∧ CL h' x o X (line X (D, br, N, (0, a))).1 (line X (D, br, N, (0, a))).2.1 (line X (D, br, N, (0, a))).2.2.1 (line X (D, br, N, (0, a))).2.2.2) := by
  have R := C.rs
  have hs := R.s
  have t : TokC h x X a := R.z (c := (0, a)) rfl
  obtain ⟨rD, e3⟩ := C.2.2.2.2 rfl
  unfold f_R_readLine
  refine ok_gd hs (ok_bde (e_R_isLine hs t) (ok_ib (fun g => ?_) (fun g => ?_)))
  · obtain ⟨g1, g4, g5, g6, g7, g8, g9, g10, g11⟩ := isLn_ff g
    refine k_at R rfl (by decide) (by decide) (fun h1 R1 => ok_ret ?_)
    rw [line_n g1, g4, g5, g6, g7, g8, g9, g10, g11]
    exact C.ers R1 (cF_ne (by decide))
  · refine ok_gd hs (ok_bde (e_R_is (k := 1) hs t (by decide) (by decide)) (ok_ib (fun g1 => ?_) (fun g1 => ?_)))
    · refine ok_gd hs (ok_lt ?_)
      rw [e3]
      refine ok_ib (fun gb => ?_) (fun gb => ?_)
      · subst gb
        refine k_at R rfl (by decide) (by decide) (fun h1 R1 => ok_ret ?_)
        rw [line_f W g1 g]
        exact C.ers (c := (6, a)) R1 e6
      · subst gb
        rw [line_n g1]
        refine ok_gd hs (ok_bde (e_R_is (k := 4) hs t (by decide) (by decide)) (ok_ib (fun g4 => ?_) (fun g4 => ?_)))
        · rw [g4]
          refine ok_gd hs (ok_bde (e_R_is (k := 5) hs t (by decide) (by decide)) (ok_ib (fun g5 => ?_) (fun g5 => ?_)))
          · rw [g5]
            refine ok_gd hs (ok_bde (e_R_is (k := 6) hs t (by decide) (by decide)) (ok_ib (fun g6 => ?_) (fun g6 => ?_)))
            · rw [g6]
              refine ok_gd hs (ok_bde (e_R_is (k := 7) hs t (by decide) (by decide)) (ok_ib (fun g7 => ?_) (fun g7 => ?_)))
              · rw [g7]
                refine ok_gd hs (ok_bde (e_R_is (k := 8) hs t (by decide) (by decide)) (ok_ib (fun g8 => ?_) (fun g8 => ?_)))
                · rw [g8]
                  refine ok_gd hs (ok_bde (e_R_is (k := 9) hs t (by decide) (by decide)) (ok_ib (fun g9 => ?_) (fun g9 => ?_)))
                  · rw [g9]
                    refine ok_gd hs (ok_bde (e_R_is (k := 10) hs t (by decide) (by decide)) (ok_gd hs (ok_bd ?_)))
                    cases g10 : isW X 10 a with
                    | true => exact ok_mono (ok_R_seen (v := 1) C W (by decide)) (fun _ h1 hx => ok_ret hx)
                    | false =>
                      have g11 : isW X 11 a = true := by
                        unfold isLn at g
                        rw [g1, g4, g5, g6, g7, g8, g9, g10] at g
                        exact g
                      rw [g11]
                      exact ok_mono (ok_R_seen (v := 0) C W (by decide)) (fun _ h1 hx => ok_ret hx)
                  · rw [if_neg (by decide), if_neg (by decide), if_neg (by decide), if_neg (by decide), if_neg (by decide), if_pos g9]
                    exact ok_gd hs (ok_bd (ok_mono (ok_R_suspect C W g9) (fun _ h1 hx => ok_ret hx)))
                · rw [if_neg (by decide), if_neg (by decide), if_neg (by decide), if_neg (by decide), if_pos g8]
                  exact ok_gd hs (ok_bd (ok_mono (ok_R_sky C W g8) (fun _ h1 hx => ok_ret hx)))
              · rw [if_neg (by decide), if_neg (by decide), if_neg (by decide), if_pos g7]
                exact ok_gd hs (ok_bd (ok_mono (ok_R_work C W g7) (fun _ h1 hx => ok_ret hx)))
            · rw [if_neg (by decide), if_neg (by decide), if_pos g6]
              exact ok_gd hs (ok_bd (ok_mono (ok_R_feast C W g6) (fun _ h1 hx => ok_ret hx)))
          · rw [if_neg (by decide), if_pos g5]
            exact ok_gd hs (ok_bd (ok_mono (ok_R_gone C W g5) (fun _ h1 hx => ok_ret hx)))
        · rw [if_pos g4]
          exact ok_gd hs (ok_bd (ok_mono (ok_R_wheel C W g4) (fun _ h1 hx => ok_ret hx)))
    · rw [line_1 g1]
      exact ok_gd hs (ok_bd (ok_mono (ok_R_brass C W g1) (fun _ h1 hx => ok_ret hx)))
end LL
