/-! the class's reader: gone, suspect, sky -/
theorem cS_ck' {X : TX} {b : Bool} {f p : Nat} {c : CU} (hf : f ≠ 0) (hp : c.2 = p) : cS X (cCk b f c) = if b = true then cS X c else cG f p (cS X c) := by rw [cS_ck hf, hp]
theorem cS_ne {X : TX} {c : CU} (h : (cS X c).1 ≠ 0) : c.1 ≠ 0 := fun e => h (by rw [cS_0 e])
section L3
variable {S : Nat → Nat → Prop} {h0 h h' : Hp} {x o a : Nat} {X : TX} {D : DD} {br : Bool} {N : NN} {c c' c0 : CU}
/-- behind a fault -/
theorem CL.er {D' : DD} {br' : Bool} {N' : NN} (C : CL h x o X D br N c0) (F : Fr (SQ x) h h') (K' : RK h' x o X) (C' : RC h' x X c) (e : c.1 ≠ 0) (P' : ∃ n, n ≤ 13 ∧ hI h' (x + 2) 12 = nI n) : Fr (SX x o) h h' ∧ CL h' x o X D' br' N' c := by
  obtain ⟨K, C1, P, ⟨se, hse, e13⟩, C5⟩ := C
  have ob := K.ob.1
  exact ⟨F.mono (fun _ _ e => SQ_SX e), K', C', ⟨P', fun z => absurd z e⟩, ⟨se, hse, by rw [(F.2.2.2 _ _ (by unfold SQ; omega)).1]; exact e13⟩, fun z => absurd z e⟩
theorem CL.ers {D' : DD} {br' : Bool} {N' : NN} (C : CL h x o X D br N c0) (R : RS h h' x o X c) (e : c.1 ≠ 0) : Fr (SX x o) h h' ∧ CL h' x o X D' br' N' c := by
  obtain ⟨n, hn, e12⟩ := C.2.2.1.1
  exact C.er (R.1.mono (fun _ _ e => SR_SQ e)) R.2.1 R.2.2 e ⟨n, hn, by rw [(R.1.2.2.2 _ _ (by unfold SR; omega)).1]; exact e12⟩
theorem RdO.gone {w t : Nat} (R : RdO h o D) (L : LayO h' o) (F : Fr (fun a j => a = o + 10 + w ∧ (j = 4 ∨ j = 5)) h h') (hw : w < dW D) (w4 : hI h' (o + 10 + w) 4 = nI (dGc D w + 1)) (w5 : hL h' (o + 10 + w) 5 = dG D w ||| ((1 : Int64) <<< ((nI t).toInt64 &&& 63))) : RdO h' o (goD D w t) := by
  obtain ⟨⟨-, ⟨p1, p2, p3, p4, p5, p6, p7⟩, oW, oX, oK, oE, oS⟩, r2, r3⟩ := R
  have ii : ∀ i k, i < 10 → hI h' (o + i) k = hI h (o + i) k := fun i k hk => (F.2.2.2 _ _ (by omega)).1
  have i0 : ∀ k, hI h' o k = hI h o k := fun k => ii 0 k (by omega)
  have ex : ∀ f' w', dX (goD D w t) f' w' = dX D f' w' := fun f' w' => by
    show (ds D 5 w (dGc D w + 1)).1 (6 + f') w' = D.1 (6 + f') w'
    rw [ds_n (by omega)]
  refine ⟨⟨L, ⟨?_, ?_, ?_, ?_, ?_, ?_, ?_⟩, fun w' hw' => ?_, fun f w hf hw => ?_, fun k hk => ?_, fun f hf => ?_, fun k hk => ?_⟩, fun f w hf hw => ?_, fun f hf => ?_⟩
  · rw [i0]; exact p1
  · rw [i0]; exact p2
  · rw [i0]; exact p3
  · rw [i0]; exact p4
  · rw [i0]; exact p5
  · rw [i0]; exact p6
  · rw [i0]; exact p7
  · have q := oW w' hw'
    by_cases z : w' = w
    · subst z
      have jj : ∀ k, k ≤ 3 → hI h' (o + 10 + w') k = hI h (o + 10 + w') k := fun k hk => (F.2.2.2 _ _ (by omega)).1
      refine ⟨by rw [jj 0 (by decide)]; exact q.1, by rw [jj 1 (by decide)]; exact q.2.1, by rw [jj 2 (by decide)]; exact q.2.2.1, by rw [jj 3 (by decide)]; exact q.2.2.2.1, w4.trans ?_, w5.trans (if_pos rfl).symm⟩
      show _ = nI ((ds D 5 w' (dGc D w' + 1)).1 5 w')
      rw [ds_s]
    · have jj : ∀ k, hI h' (o + 10 + w') k = hI h (o + 10 + w') k := fun k => (F.2.2.2 _ _ (by omega)).1
      have jl : ∀ k, hL h' (o + 10 + w') k = hL h (o + 10 + w') k := fun k => (F.2.2.2 _ _ (by omega)).2.1
      rw [jj, jj, jj, jj, jj, jl]
      refine ⟨q.1, q.2.1, q.2.2.1, q.2.2.2.1, q.2.2.2.2.1.trans ?_, q.2.2.2.2.2.trans (if_neg z).symm⟩
      show _ = nI ((ds D 5 w (dGc D w + 1)).1 5 w')
      rw [ds_n (by omega)]
      rfl
  · rw [ii _ _ (by omega), ex]
    exact oX f w hf hw
  · rw [ii _ _ (by omega), ii _ _ (by omega), ii _ _ (by omega)]
    exact oK k hk
  · rw [ii _ _ (by omega), ii _ _ (by omega)]
    exact oE f hf
  · rw [ii _ _ (by omega), ii _ _ (by omega)]
    exact oS k hk
  · rw [ii _ _ (by omega), ex]
    exact r2 f w hf hw
  · rw [ii _ _ (by omega)]
    exact r3 f hf
theorem ok_W_lose2 {w t : Nat} (ha : hS h w = some (.inl 3)) : Ok (f_W_loseTooth w (nI t) h) (fun _ h' => Fr (fun x k => x = w ∧ (k = 4 ∨ k = 5)) h h' ∧ hL h' w 5 = hL h w 5 ||| ((1 : Int64) <<< ((nI t).toInt64 &&& 63)) ∧ hI h' w 4 = hI h w 4 + 1) := by
  unfold f_W_loseTooth
  refine ok_gd ha (ok_lt (ok_gd ha (ok_lt (ok_gd ha (ok_lt (ok_gd ha (ok_lt (ok_ret ⟨?_, ?_, ?_⟩))))))))
  · refine Fr.trans ?_ (fr_uI ⟨rfl, Or.inl rfl⟩)
    exact fr_uL ⟨rfl, Or.inr rfl⟩
  · rw [hL_uI, hL_uLs]
  · rw [hI_uIs, hI_uL]
theorem ok_R_gone (C : CL h x o X D true N (0, a)) (W : WfR D true N) (hw : isW X 5 a = true) : Ok (f_R_readGone (x + 2) h) (fun _ h' => Fr (SX x o) h h' ∧ CL h' x o X (dnG X D N true a) true N (lnG X D N true a)) := by
  obtain ⟨K, C1, P, ⟨se, hse, e13⟩, C5⟩ := id C
  obtain ⟨rD, e3⟩ := C5 rfl
  have R := C.rs
  have ob := K.ob.1
  have W5 : dW D ≤ 5 := nB W
  have gE : g5 X D N true a = if decide (dSu D ≠ gW X N true a + 1) = true then (if decide (dGc D (gW X N true a) ≠ 2) = true then cS X (cK X N 0 (l0 X true a)) else cG 5 (l0 X true a).2 (cS X (cK X N 0 (l0 X true a)))) else cG 7 (l0 X true a).2 (if decide (dGc D (gW X N true a) ≠ 2) = true then cS X (cK X N 0 (l0 X true a)) else cG 5 (l0 X true a).2 (cS X (cK X N 0 (l0 X true a)))) := by
    unfold g5
    rw [cS_ck' (p := (l0 X true a).2) (by decide) (cCk_2.trans cK_2), cS_ck' (p := (l0 X true a).2) (by decide) cK_2]
  have lE : lnG X D N true a = if (!gb (dG D (gW X N true a)) (gT' X D N true a)) = true then cW X 0 (dT D (gW X N true a) - 1) (g5 X D N true a) else cG 3 (g5 X D N true a).2 (cW X 0 (dT D (gW X N true a) - 1) (g5 X D N true a)) := by
    unfold lnG
    exact cS_ck' (by decide) cH_2
  unfold f_R_readGone
  refine k_pass 5 R (by decide) (by decide) (fun h1 R1 => ?_)
  rw [cP_w (by exact hw)] at R1
  change RS h h1 x o X (l0 X true a) at R1
  refine k_name 0 R1 (P.rs R1 (fun _ => rfl)) (by decide) rfl (fun r4 h4 R4 hr4 => ?_)
  refine ok_gd R4.s (ok_lt (k_ft R4 (fun z => ?_) (fun z => ok_ret ?_)))
  · have zk := cS_z z
    obtain ⟨z1, z2, z3, z4⟩ := cK_z zk
    obtain ⟨q1, q2⟩ := hr4 zk
    have wlt : gW X N true a < dW D := (isK_n z3 W).1 rfl
    have hT := W.1.1.2.2.2.2.2.2.2.1 _ wlt
    subst q1
    change Ok (gd _ (bR _ fun x6 => gd _ (bR _ fun x7 => gd (ai h4 x7 4 (nI (gW X N true a))) (bR (hR h4 x7 (nI (gW X N true a)).toNatClampNeg) fun x8 => _)))) _
    -- the wheel's cell, from now on
    have cell : ∀ {h5 : Hp} {c5 : CU}, RS h h5 x o X c5 → hS h5 (o + 10 + gW X N true a) = some (.inl 3) ∧ hI h5 (o + 10 + gW X N true a) 1 = nI (dT D (gW X N true a)) ∧ hI h5 (o + 10 + gW X N true a) 4 = nI (dGc D (gW X N true a)) ∧ hL h5 (o + 10 + gW X N true a) 5 = dG D (gW X N true a) ∧ hI h5 o 12 = xI (dSu D) ∧ RdO h5 o D := by
      intro h5 c5 R5
      have r := rD.sq (x := x) (R5.1.mono (fun _ _ e => SR_SQ e)) ob W5
      have q := r.1.2.2.1 _ wlt
      exact ⟨(r.1.1.2.2.2.2.2.2.2 _ (by omega)).2, q.2.1, q.2.2.2.2.1, q.2.2.2.2.2, r.1.2.1.2.2.2.2.2.1, r⟩
    have go105 : ∀ h5 v3, RS h h5 x o X (lnG X D N true a) → ((lnG X D N true a).1 = 0 → v3 = nI (gT' X D N true a)) → Ok (b_R_readGone_105 (x + 2) (o + 10 + gW X N true a) v3 h5) (fun _ h' => Fr (SX x o) h h' ∧ CL h' x o X (dnG X D N true a) true N (lnG X D N true a)) := by
      intro h5 v3 R5 hv
      obtain ⟨y1, y2, y3, y4, y5, y6⟩ := cell R5
      unfold b_R_readGone_105
      refine ok_gd R5.s (ok_lt (k_ft R5 (fun e => ?_) (fun e => ok_ret (C.ers R5 e))))
      rw [hv e]
      refine ok_gd y1 (ok_bd (ok_mono (ok_W_lose2 y1) ?_))
      intro _ h6 hx
      obtain ⟨F6, t5, t4⟩ := hx
      rw [y4] at t5
      rw [y3, nI_1] at t4
      have R6 := R5.w F6 (fun a k e => ⟨Or.inr (Or.inr (Or.inr (by omega))), by omega⟩)
      refine ok_ret ⟨R5.fx.trans (F6.mono (fun a k e => by unfold SX; omega)), R6.2.1, R6.2.2, (P.rs R5 (fun _ => rfl)).fr F6 (fun e => e) (by omega) (fun k => by omega) (fun k => by omega) (fun k => by omega), ⟨se, hse, ?_⟩, fun _ => ⟨?_, ?_⟩⟩
      · rw [(F6.2.2.2 _ _ (by omega)).1, (R5.1.2.2.2 _ _ (by unfold SR; omega)).1]; exact e13
      · exact y6.gone R6.2.1.2.2.2.2.2.2.2.2.1 F6 wlt t4 t5
      · rw [(F6.2.2.2 _ _ (by omega)).1, (R5.1.2.2.2 _ _ (by unfold SR; omega)).1]; exact e3
    have go69 : ∀ h5, RS h h5 x o X (g5 X D N true a) → Ok (b_R_readGone_69 (x + 2) (o + 10 + gW X N true a) h5) (fun _ h' => Fr (SX x o) h h' ∧ CL h' x o X (dnG X D N true a) true N (lnG X D N true a)) := by
      intro h5 R5
      obtain ⟨y1, y2, y3, y4, y5, y6⟩ := cell R5
      unfold b_R_readGone_69
      refine ok_gd y1 (ok_lt ?_)
      rw [y2, nI_s (by omega)]
      refine k_whole 0 (dT D (gW X N true a) - 1) R5 (by decide) (by omega) (fun _ => ⟨rfl, rfl⟩) (fun v3 h6 R6 hr3 => ?_)
      obtain ⟨y1, y2, y3, y4, y5, y6⟩ := cell R6
      refine ok_gd R6.s (ok_lt (k_ft R6 (fun e => ?_) (fun e => ?_)))
      · obtain ⟨u1, u2⟩ := hr3 e
        subst u1
        refine ok_gd y1 (ok_bde (e_W_lacks y1 _) ?_)
        rw [y4]
        change Ok (if (if gb (dG D (gW X N true a)) (gT' X D N true a) = true then (1 : Int32) else 0) = 0 then _ else _) _
        cases gg : gb (dG D (gW X N true a)) (gT' X D N true a) with
        | true =>
          rw [gg] at lE
          refine ok_f (by decide) (ok_gd R6.s (ok_lt (k_fail (p := (g5 X D N true a).2) R6 rfl (by decide) (by decide) (fun _ => u2) (fun h7 R7 => go105 h7 _ ?_ (fun _ => rfl)))))
          rw [lE]
          exact R7
        | false =>
          rw [gg] at lE
          refine ok_t (by decide) (go105 h6 _ ?_ (fun _ => rfl))
          rw [lE]
          exact R6
      · have : lnG X D N true a = cW X 0 (dT D (gW X N true a) - 1) (g5 X D N true a) := by
          rw [lE]
          split
          · rfl
          · exact cG_n e
        refine go105 h6 _ (by rw [this]; exact R6) (fun y => absurd y (by rw [this]; exact e))
    have go48 : ∀ h5 c5, RS h h5 x o X c5 → (c5.1 = 0 → hI h5 (x + 2) 11 = nI (l0 X true a).2) → (c5 = if decide (dGc D (gW X N true a) ≠ 2) = true then cS X (cK X N 0 (l0 X true a)) else cG 5 (l0 X true a).2 (cS X (cK X N 0 (l0 X true a)))) → Ok (b_R_readGone_48 (x + 2) (nI (gW X N true a)) (o + 10 + gW X N true a) h5) (fun _ h' => Fr (SX x o) h h' ∧ CL h' x o X (dnG X D N true a) true N (lnG X D N true a)) := by
      intro h5 c5 R5 h11 ec
      obtain ⟨y1, y2, y3, y4, y5, y6⟩ := cell R5
      obtain ⟨ob5, s5, r5⟩ := R5.2.1.ob
      rw [← ec] at gE
      unfold b_R_readGone_48
      refine ok_gd R5.s (ok_bR r5 (ok_gd s5 (ok_lt ?_)))
      rw [y5]
      have w7 := W.1.1.2.2.2.2.2.2.1
      refine ok_ite (fun e => ?_) (fun e => ?_)
      · have e2 := xI_inj (by omega) (by omega) e.symm
        rw [decide_eq_false (fun q => q e2)] at gE
        refine ok_gd R5.s (ok_lt (k_fail (p := (l0 X true a).2) R5 rfl (by decide) (by decide) h11 (fun h7 R7 => go69 h7 ?_)))
        rw [gE]
        exact R7
      · have e2 : dSu D ≠ gW X N true a + 1 := fun q => e (by rw [q, xI_s])
        rw [decide_eq_true e2] at gE
        refine go69 h5 ?_
        rw [gE]
        exact R5
    obtain ⟨ob4, s4, r4⟩ := R4.2.1.ob
    have L4 := R4.2.1.2.2.2.2.2.2.2.2.1
    obtain ⟨y1, y2, y3, y4, y5, y6⟩ := cell R4
    refine ok_gd R4.s (ok_bR r4 (ok_gd s4 (ok_bR L4.2.1.1 (ok_gd (ai_of L4.2.2.1 (by omega) (by decide)) ?_))))
    rw [nI_clamp (by omega)]
    refine ok_bR (L4.2.2.2.2.2.2.2 _ (by omega)).1 (ok_gd y1 (ok_lt ?_))
    rw [y3]
    refine ok_ilt (b := 2) (by omega) (by decide) (fun g => go48 h4 _ R4 (fun _ => q2) ?_) (fun g => ok_gd R4.s (ok_lt (k_fail (p := (l0 X true a).2) R4 rfl (by decide) (by decide) (fun _ => q2) (fun h7 R7 => go48 h7 _ R7 (fun y => ?_) ?_))))
    · rw [decide_eq_true (by omega)]; rfl
    · exact absurd y (by rw [cG_0 z]; show ¬ 5 = 0; decide)
    · rw [decide_eq_false (by omega)]; rfl
  · have e := cS_ne z
    have e2 : lnG X D N true a = cS X (cK X N 0 (l0 X true a)) := by
      unfold lnG g5
      rw [cCk_n (f := 5) e, cCk_n (f := 7) e, cH_n z, cCk_n z, cS_n z]
    rw [e2]
    exact C.ers R4 z
theorem RdO.susp {w : Nat} (R : RdO h o D) (L : LayO h' o) (F : Fr (fun a j => a = o ∧ j = 12) h h') (hW : dW D ≤ 5) (e : hI h' o 12 = nI w) : RdO h' o (ds D 0 5 (w + 1)) := by
  obtain ⟨⟨-, ⟨p1, p2, p3, p4, p5, p6, p7⟩, oW, oX, oK, oE, oS⟩, r2, r3⟩ := R
  have ii : ∀ i k, 1 ≤ i → hI h' (o + i) k = hI h (o + i) k := fun i k hk => (F.2.2.2 _ _ (by omega)).1
  have il : ∀ i k, 1 ≤ i → hL h' (o + i) k = hL h (o + i) k := fun i k hk => (F.2.2.2 _ _ (by omega)).2.1
  have i0 : ∀ k, k ≠ 12 → hI h' o k = hI h o k := fun k hk => (F.2.2.2 _ _ (by omega)).1
  have ex : ∀ f' w', dX (ds D 0 5 (w + 1)) f' w' = dX D f' w' := fun f' w' => ds_n (by omega)
  refine ⟨⟨L, ⟨?_, ?_, ?_, ?_, ?_, ?_, ?_⟩, fun w' hw' => ?_, fun f w hf hw => ?_, fun k hk => ?_, fun f hf => ?_, fun k hk => ?_⟩, fun f w hf hw => ?_, fun f hf => ?_⟩
  · rw [i0 _ (by decide)]; exact p1
  · rw [i0 _ (by decide)]; exact p2
  · rw [i0 _ (by decide)]; exact p3
  · rw [i0 _ (by decide)]; exact p4
  · rw [i0 _ (by decide)]; exact p5
  · rw [e]; exact (xI_s w).symm
  · rw [i0 _ (by decide)]; exact p7
  · rw [show o + 10 + w' = o + (10 + w') by omega, ii _ _ (by omega), ii _ _ (by omega), ii _ _ (by omega), ii _ _ (by omega), ii _ _ (by omega), il _ _ (by omega), show o + (10 + w') = o + 10 + w' by omega]
    exact oW w' hw'
  · rw [ii _ _ (by omega), ex]
    exact oX f w hf hw
  · rw [ii _ _ (by omega), ii _ _ (by omega), ii _ _ (by omega)]
    exact oK k hk
  · rw [ii _ _ (by omega), ii _ _ (by omega)]
    exact oE f hf
  · rw [ii _ _ (by omega), ii _ _ (by omega)]
    exact oS k hk
  · rw [ii _ _ (by omega), ex]
    exact r2 f w hf hw
  · rw [ii _ _ (by omega)]
    exact r3 f hf
theorem ok_R_suspect (C : CL h x o X D true N (0, a)) (W : WfR D true N) (hw : isW X 9 a = true) : Ok (f_R_readSuspect (x + 2) h) (fun _ h' => Fr (SX x o) h h' ∧ CL h' x o X (dnU X D N true a) true N (lnU X D N true a)) := by
  obtain ⟨K, C1, P, ⟨se, hse, e13⟩, C5⟩ := id C
  obtain ⟨rD, e3⟩ := C5 rfl
  have R := C.rs
  have ob := K.ob.1
  have W5 : dW D ≤ 5 := nB W
  have w7 := W.1.1.2.2.2.2.2.2.1
  have lE : lnU X D N true a = if decide (dGc D (kn N (tW X (s0 X D true a).2)) = 0) = true then cS X (cK X N 0 (s0 X D true a)) else cG 7 (s0 X D true a).2 (cS X (cK X N 0 (s0 X D true a))) := by
    unfold lnU
    exact cS_ck' (by decide) cK_2
  have go66 : ∀ h5 v, RS h h5 x o X (lnU X D N true a) → ((lnU X D N true a).1 = 0 → v = nI (kn N (tW X (s0 X D true a).2))) → Ok (b_R_readSuspect_66 (x + 2) v h5) (fun _ h' => Fr (SX x o) h h' ∧ CL h' x o X (dnU X D N true a) true N (lnU X D N true a)) := by
    intro h5 v R5 hv
    obtain ⟨ob5, s5, r5⟩ := R5.2.1.ob
    unfold b_R_readSuspect_66
    refine ok_gd R5.s (ok_bR r5 (ok_gd s5 (ok_lt (ok_ret ?_))))
    have F6 : Fr (fun a j => a = o ∧ j = 12) h5 (uI h5 o 12 v) := fr_uI ⟨rfl, rfl⟩
    have R6 := R5.w F6 (fun a k e => ⟨Or.inr (Or.inr (Or.inl ⟨e.1, by omega⟩)), by omega⟩)
    have r := rD.sq (x := x) (R5.1.mono (fun _ _ e => SR_SQ e)) ob W5
    refine ⟨R5.fx.trans (F6.mono (fun a k e => by unfold SX; omega)), R6.2.1, R6.2.2, (P.rs R5 (fun _ => rfl)).fr F6 (fun e => e) (by omega) (fun k => by omega) (fun k => by omega) (fun k => by omega), ⟨se, hse, ?_⟩, fun z => ⟨?_, ?_⟩⟩
    · rw [hI_uIk (by decide), (R5.1.2.2.2 _ _ (by unfold SR; omega)).1]; exact e13
    · exact r.susp R6.2.1.2.2.2.2.2.2.2.2.1 F6 W5 (by rw [hI_uIs, hv z])
    · rw [hI_uIa (by omega), (R5.1.2.2.2 _ _ (by unfold SR; omega)).1]; exact e3
  have go20 : ∀ h1 c1, RS h h1 x o X c1 → c1 = cCk (decide (dSu D = 0)) 3 (0, a) → Ok (b_R_readSuspect_20 (x + 2) h1) (fun _ h' => Fr (SX x o) h h' ∧ CL h' x o X (dnU X D N true a) true N (lnU X D N true a)) := by
    intro h1 c1 R1 ec
    unfold b_R_readSuspect_20
    refine k_pass 9 R1 (by decide) (by decide) (fun h2 R2 => ?_)
    rw [cP_w (by rw [ec, cCk_2]; exact hw), ec] at R2
    change RS h h2 x o X (s0 X D true a) at R2
    refine k_name 0 R2 (P.rs R2 (fun _ => rfl)) (by decide) rfl (fun r4 h4 R4 hr4 => ?_)
    refine ok_gd R4.s (ok_lt (k_ft R4 (fun z => ?_) (fun z => ok_ret ?_)))
    · have zk := cS_z z
      obtain ⟨z1, z2, z3, z4⟩ := cK_z zk
      obtain ⟨q1, q2⟩ := hr4 zk
      have wlt : kn N (tW X (s0 X D true a).2) < dW D := (isK_n z3 W).1 rfl
      have hT := W.1.1.2.2.2.2.2.2.2.1 _ wlt
      subst q1
      obtain ⟨ob4, s4, r4⟩ := R4.2.1.ob
      have L4 := R4.2.1.2.2.2.2.2.2.2.2.1
      have r := rD.sq (x := x) (R4.1.mono (fun _ _ e => SR_SQ e)) ob W5
      have q := r.1.2.2.1 _ wlt
      have y1 := (L4.2.2.2.2.2.2.2 _ (show kn N (tW X (s0 X D true a).2) < 5 by omega))
      refine ok_gd R4.s (ok_bR r4 (ok_gd s4 (ok_bR L4.2.1.1 (ok_gd (ai_of L4.2.2.1 (by omega) (by decide)) ?_))))
      rw [nI_clamp (by omega)]
      refine ok_bR y1.1 (ok_gd y1.2 (ok_lt ?_))
      rw [q.2.2.2.2.1]
      refine ok_ile (b := 0) (by omega) (by decide) (fun g => go66 h4 _ ?_ (fun _ => rfl)) (fun g => ok_gd R4.s (ok_lt (k_fail (p := (s0 X D true a).2) R4 rfl (by decide) (by decide) (fun _ => q2) (fun h7 R7 => go66 h7 _ ?_ (fun _ => rfl)))))
      · rw [lE, decide_eq_true (by omega)]
        exact R4
      · rw [lE, decide_eq_false (by omega)]
        exact R7
    · have e := cS_ne z
      have e2 : lnU X D N true a = cS X (cK X N 0 (s0 X D true a)) := by
        unfold lnU
        rw [cCk_n e]
      rw [e2]
      exact C.ers R4 z
  unfold f_R_readSuspect
  obtain ⟨ob0, s0', r0⟩ := K.ob
  refine ok_gd R.s (ok_bR r0 (ok_gd s0' (ok_lt ?_)))
  rw [rD.1.2.1.2.2.2.2.2.1]
  refine ok_ix (by omega) (fun g => go20 h _ R ?_) (fun g => k_at R rfl (by decide) (by decide) (fun h1 R1 => go20 h1 _ R1 ?_))
  · rw [decide_eq_true g]; rfl
  · rw [decide_eq_false g]; rfl
theorem RdO.sky {f p q : Nat} (R : RdO h o D) (L : LayO h' o) (F : Fr (fun a j => (a = o + 6 ∨ a = o + 7) ∧ j = f) h h') (hf : f < dF D) (hF : dF D ≤ 4) (hW : dW D ≤ 5) (e6 : hI h' (o + 6) f = nI p) (e7 : hI h' (o + 7) f = nI q) : RdO h' o (ds (ds D 13 f p) 14 f q) := by
  obtain ⟨⟨-, ⟨p1, p2, p3, p4, p5, p6, p7⟩, oW, oX, oK, oE, oS⟩, r2, r3⟩ := R
  have ii : ∀ i k, (i ≠ 6 ∧ i ≠ 7 ∨ k ≠ f) → hI h' (o + i) k = hI h (o + i) k := fun i k hk => (F.2.2.2 _ _ (by omega)).1
  have il : ∀ i k, (i ≠ 6 ∧ i ≠ 7 ∨ k ≠ f) → hL h' (o + i) k = hL h (o + i) k := fun i k hk => (F.2.2.2 _ _ (by omega)).2.1
  have i0 : ∀ k, hI h' o k = hI h o k := fun k => ii 0 k (by omega)
  have ex : ∀ f' w', f' < 4 → dX (ds (ds D 13 f p) 14 f q) f' w' = dX D f' w' := fun f' w' h4 => (ds_n (by omega)).trans (ds_n (by omega))
  have ev : ∀ k, dEv (ds (ds D 13 f p) 14 f q) k = if k = f then p else dEv D k := fun k => by
    show (ds (ds D 13 f p) 14 f q).1 13 k = _
    rw [ds_n (by omega)]
    by_cases z : k = f
    · rw [z, ds_s, if_pos rfl]
    · rw [ds_n (by omega), if_neg z]
      rfl
  have fv : ∀ k, dFr (ds (ds D 13 f p) 14 f q) k = if k = f then q else dFr D k := fun k => by
    show (ds (ds D 13 f p) 14 f q).1 14 k = _
    by_cases z : k = f
    · rw [z, ds_s, if_pos rfl]
    · rw [ds_n (by omega), ds_n (by omega), if_neg z]
      rfl
  refine ⟨⟨L, ⟨?_, ?_, ?_, ?_, ?_, ?_, ?_⟩, fun w' hw' => ?_, fun f w hf hw => ?_, fun k hk => ?_, fun g hg => ?_, fun k hk => ?_⟩, fun f w hf hw => ?_, fun g hg => ?_⟩
  · rw [i0]; exact p1
  · rw [i0]; exact p2
  · rw [i0]; exact p3
  · rw [i0]; exact p4
  · rw [i0]; exact p5
  · rw [i0]; exact p6
  · rw [i0]; exact p7
  · rw [show o + 10 + w' = o + (10 + w') by omega, ii _ _ (by omega), ii _ _ (by omega), ii _ _ (by omega), ii _ _ (by omega), ii _ _ (by omega), il _ _ (by omega), show o + (10 + w') = o + 10 + w' by omega]
    exact oW w' hw'
  · rw [ii _ _ (by omega), ex f w (Nat.lt_of_lt_of_le hf hF)]
    exact oX f w hf hw
  · rw [ii _ _ (by omega), ii _ _ (by omega), ii _ _ (by omega)]
    exact oK k hk
  · rw [ev, fv]
    by_cases z : g = f
    · rw [if_pos z, if_pos z, z]
      exact ⟨e6, fun _ => e7⟩
    · rw [if_neg z, if_neg z, ii _ _ (Or.inr z), ii _ _ (Or.inr z)]
      exact oE g hg
  · rw [ii _ _ (by omega), ii _ _ (by omega)]
    exact oS k hk
  · rw [ii _ _ (by omega), ex f w hf]
    exact r2 f w hf hw
  · rw [ev]
    by_cases z : g = f
    · rw [if_pos z, z]
      exact e6
    · rw [if_neg z, ii _ _ (Or.inr z)]
      exact r3 g hg
theorem e_O_hasSky' {f : Nat} (L : LayO h o) (hf : f < 4) {n : Nat} (hn : n < 2 ^ 31) (e : hI h (o + 6) f = nI n) : f_O_hasSky o (nI f) h = some (bI (decide (n ≠ 0)), h) := by
  refine ok_eq ?_
  unfold f_O_hasSky
  refine ok_gd L.1 (ok_bR L.2.1.2.2.2.2.2.1 (ok_gd (ai_of (L.2.2.2.2.1 6 (by decide) (by decide)) hf (by decide)) (ok_lt ?_)))
  rw [nI_clamp (by omega), e]
  refine ok_ile (b := 0) hn (by decide) (fun g => ok_gd zb0 (ok_ret ⟨?_, rfl⟩)) (fun g => ok_gd zb1 (ok_ret ⟨?_, rfl⟩))
  · rw [decide_eq_false (by omega)]; rfl
  · rw [decide_eq_true (by omega)]; rfl
theorem ok_R_sky (C : CL h x o X D true N (0, a)) (W : WfR D true N) (hw : isW X 8 a = true) : Ok (f_R_readSky (x + 2) h) (fun _ h' => Fr (SX x o) h h' ∧ CL h' x o X (dnY X D N true a) true N (lnY X D N true a)) := by
  obtain ⟨K, C1, P, ⟨se, hse, e13⟩, C5⟩ := id C
  obtain ⟨rD, e3⟩ := C5 rfl
  have R := C.rs
  have ob := K.ob.1
  have W5 : dW D ≤ 5 := nB W
  have W4 := W.1.1.2.1
  have yE : cS X (cCk (decide (dEv D (gW X N true a) = 0)) 3 (cK X N 1 (l0 X true a))) = if decide (dEv D (gW X N true a) = 0) = true then cS X (cK X N 1 (l0 X true a)) else cG 3 (l0 X true a).2 (cS X (cK X N 1 (l0 X true a))) := cS_ck' (by decide) cK_2
  unfold f_R_readSky
  refine k_pass 8 R (by decide) (by decide) (fun h1 R1 => ?_)
  rw [cP_w (by exact hw)] at R1
  change RS h h1 x o X (l0 X true a) at R1
  refine k_name 1 R1 (P.rs R1 (fun _ => rfl)) (by decide) rfl (fun r4 h4 R4 hr4 => ?_)
  refine ok_gd R4.s (ok_lt (k_ft R4 (fun z => ?_) (fun z => ok_ret ?_)))
  · have zk := cS_z z
    obtain ⟨z1, z2, z3, z4⟩ := cK_z zk
    obtain ⟨q1, q2⟩ := hr4 zk
    have flt : gW X N true a < dF D := (isK_n z3 W).2 rfl
    have hev := W.1.1.2.2.2.2.2.2.2.2.2.2.2.1 _ flt
    subst q1
    change Ok (gd _ (bR _ fun x6 => gd _ (bd (f_O_hasSky x6 (nI (gW X N true a)) h4) fun r8 h7 => if r8 = 0 then (b_R_readSky_41 (x + 2) (nI (gW X N true a)) h7) else _))) _
    have go41 : ∀ h5, RS h h5 x o X (cS X (cCk (decide (dEv D (gW X N true a) = 0)) 3 (cK X N 1 (l0 X true a)))) → Ok (b_R_readSky_41 (x + 2) (nI (gW X N true a)) h5) (fun _ h' => Fr (SX x o) h h' ∧ CL h' x o X (dnY X D N true a) true N (lnY X D N true a)) := by
      intro h5 R5
      unfold b_R_readSky_41
      refine k_pass 21 R5 (by decide) (by decide) (fun h6 R6 => ?_)
      refine k_whole 1 400 R6 (by decide) (by decide) (fun _ => ⟨rfl, rfl⟩) (fun v4 h7 R7 hr7 => ?_)
      refine k_pass 22 R7 (by decide) (by decide) (fun h8 R8 => ?_)
      refine k_whole 0 400 R8 (by decide) (by decide) (fun _ => ⟨rfl, rfl⟩) (fun v8 h9 R9 hr9 => ?_)
      change RS h h9 x o X (lnY X D N true a) at R9
      refine ok_gd R9.s (ok_lt (k_ft R9 (fun e => ?_) (fun e => ok_ret (C.ers R9 e))))
      have u9 := (hr9 e).1
      have u7 := (hr7 (cP_z (cW_z e).1).1).1
      obtain ⟨ob9, s9, r9⟩ := R9.2.1.ob
      have L9 := R9.2.1.2.2.2.2.2.2.2.2.1
      have r := rD.sq (x := x) (R9.1.mono (fun _ _ e => SR_SQ e)) ob W5
      refine ok_gd R9.s (ok_bR r9 (ok_gd s9 (ok_bR L9.2.1.2.2.2.2.2.1 (ok_gd (ai_of (L9.2.2.2.2.1 6 (by decide) (by decide)) (by omega) (by decide)) (ok_lt ?_)))))
      rw [nI_clamp (by omega)]
      refine ok_gd (by exact R9.s) (ok_bR (by exact r9) (ok_gd (by exact s9) (ok_bR (by exact L9.2.1.2.2.2.2.2.2.1) (ok_gd (by exact ai_of (L9.2.2.2.2.1 7 (by decide) (by decide)) (by omega) (by decide)) (ok_lt (ok_ret ?_))))))
      have FB : Fr (fun b j => (b = o + 6 ∨ b = o + 7) ∧ j = gW X N true a) h9 (uI (uI h9 (o + 6) (gW X N true a) v4) (o + 7) (gW X N true a) v8) := (fr_uI ⟨Or.inl rfl, rfl⟩).trans (fr_uI ⟨Or.inr rfl, rfl⟩)
      have R10 := R9.w FB (fun a k e => ⟨Or.inr (Or.inr (Or.inr (by omega))), by omega⟩)
      refine ⟨R9.fx.trans (FB.mono (fun a k e => by unfold SX; omega)), R10.2.1, R10.2.2, (P.rs R9 (fun _ => rfl)).fr FB (fun e => e) (by omega) (fun k => by omega) (fun k => by omega) (fun k => by omega), ⟨se, hse, ?_⟩, fun _ => ⟨?_, ?_⟩⟩
      · rw [(FB.2.2.2 _ _ (by omega)).1, (R9.1.2.2.2 _ _ (by unfold SR; omega)).1]; exact e13
      · refine r.sky R10.2.1.2.2.2.2.2.2.2.2.1 FB flt W4 W5 ?_ ?_
        · rw [hI_uIa (by omega), hI_uIs]
          exact u7
        · rw [hI_uIs]
          exact u9
      · rw [(FB.2.2.2 _ _ (by omega)).1, (R9.1.2.2.2 _ _ (by unfold SR; omega)).1]; exact e3
    obtain ⟨ob4, s4, r4⟩ := R4.2.1.ob
    have L4 := R4.2.1.2.2.2.2.2.2.2.2.1
    have r := rD.sq (x := x) (R4.1.mono (fun _ _ e => SR_SQ e)) ob W5
    refine ok_gd R4.s (ok_bR r4 (ok_gd s4 (ok_bde (e_O_hasSky' L4 (by omega) (n := dEv D (gW X N true a)) (by omega) (r.2.2 _ (by omega))) ?_)))
    refine ok_ib (fun g => go41 h4 ?_) (fun g => ok_gd R4.s (ok_lt (k_fail (p := (l0 X true a).2) R4 rfl (by decide) (by decide) (fun _ => q2) (fun h7 R7 => go41 h7 ?_))))
    · have g2 : dEv D (gW X N true a) = 0 := by
        have := of_decide_eq_false g
        omega
      rw [yE, decide_eq_true g2]
      exact R4
    · rw [yE, decide_eq_false (of_decide_eq_true g)]
      exact R7
  · have e := cS_ne z
    have e2 : lnY X D N true a = cS X (cK X N 1 (l0 X true a)) := by
      have pn : ∀ k, cP X k (cS X (cK X N 1 (l0 X true a))) = cS X (cK X N 1 (l0 X true a)) := fun k => by unfold cP; rw [cCk_n z, cS_n z]
      unfold lnY y6 y4
      rw [cCk_n e, pn, cW_n z, pn, cW_n z]
    rw [e2]
    exact C.ers R4 z
end L3
