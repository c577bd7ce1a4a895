/-! the class's reader: feast -/
def FD (D : DD) (N : NN) (f : Nat) : Prop := dW D ≤ 5 ∧ (∀ w, w < dW D → 4 ≤ dT D w ∧ dT D w ≤ 60) ∧ (∀ w, isK N 0 w = true → kn N w < dW D) ∧ dF D = f ∧ f < 4 ∧ ∀ w, w < 5 → dX D f w ≤ 60
section FP
variable {X : TX} {N : NN} {f : Nat} {s : DD × CU} {D : DD}
theorem fpart_z (z : (fpart X N f s).2.1 = 0) : s.2.1 = 0 ∧ isNm X s.2.2 = true ∧ isK N 0 (tW X s.2.2) = true ∧ dX s.1 f (kn N (tW X s.2.2)) = 0 ∧ (fp4 X N f s).1 = 0 ∧ tN X (fp4 X N f s).2 ≤ dT s.1 (kn N (tW X s.2.2)) - 1 ∧ (fpart X N f s).2.2 = nxt X (nxt X (nxt X s.2.2)) ∧ tS X (fp4 X N f s).2 = 2 := by
  have z1 := cW_z z
  have z2 := cP_z z1.1
  have z3 := cS_z z2.1
  obtain ⟨z4, z5, z6⟩ := cCk_z (by decide) z3
  obtain ⟨z7, z8, z9, z10⟩ := cK_z z4
  refine ⟨z7, z8, z9, of_decide_eq_true z5, z1.1, z1.2.2.2.1, ?_, z1.2.1⟩
  have e1 : (fpart X N f s).2 = (0, nxt X (fp4 X N f s).2) := z1.2.2.2.2
  have e2 : fp4 X N f s = (0, nxt X (cS X (cCk (decide (dX s.1 f (kn N (tW X s.2.2)) = 0)) 3 (cK X N 0 s.2))).2) := z2.2.2
  rw [e1, e2, z6, z10, cS_0 z7]
theorem ds_dW {i j v : Nat} (h : 6 ≤ i) : dW (ds D i j v) = dW D := ds_n (by omega)
theorem ds_dF {i j v : Nat} (h : 6 ≤ i) : dF (ds D i j v) = dF D := ds_n (by omega)
theorem ds_dT {i j v w : Nat} (h : 6 ≤ i) : dT (ds D i j v) w = dT D w := ds_n (by omega)
theorem FD.part (P : FD s.1 N f) (z : (fpart X N f s).2.1 = 0) : FD (fpart X N f s).1 N f := by
  obtain ⟨p1, p2, p3, p4, p5, p6⟩ := P
  obtain ⟨z1, z2, z3, z4, z5, z6, z7, z8⟩ := fpart_z z
  have wl := p3 _ z3
  have hT := p2 _ wl
  unfold fpart
  refine ⟨by rw [ds_dW (by omega)]; exact p1, fun w hw => ?_, fun w hw => by rw [ds_dW (by omega)]; exact p3 w hw, by rw [ds_dF (by omega)]; exact p4, p5, fun w hw => ?_⟩
  · rw [ds_dW (by omega)] at hw
    rw [ds_dT (by omega)]
    exact p2 w hw
  · show (ds s.1 (6 + f) _ _).1 (6 + f) w ≤ 60
    rw [ds_u]
    split
    · omega
    · exact p6 w hw
theorem fnext_z (hs : s.2.2 ≤ X.2) (z : (fnext X N f s).2.1 = 0) : s.2.1 = 0 ∧ s.2.2 ≤ (fnext X N f s).2.2 ∧ (fnext X N f s).2.2 ≤ X.2 ∧ (s.2.2 < X.2 → s.2.2 < (fnext X N f s).2.2) := by
  obtain ⟨z1, -, -, -, -, -, z7, -⟩ := fpart_z (s := (s.1, cS X s.2)) z
  have z0 : s.2.1 = 0 := cS_z z1
  have e : (cS X s.2).2 = nxt X s.2.2 := by rw [cS_0 z0]
  have z7' : (fnext X N f s).2.2 = nxt X (nxt X (nxt X (nxt X s.2.2))) := by
    show (fpart X N f (s.1, cS X s.2)).2.2 = _
    rw [z7]
    show nxt X (nxt X (nxt X (cS X s.2).2)) = _
    rw [e]
  have b1 := nxt_b hs
  have b2 := nxt_b b1.2.1
  have b3 := nxt_b b2.2.1
  have b4 := nxt_b b3.2.1
  rw [z7']
  exact ⟨z0, by omega, by omega, fun h => by omega⟩
theorem fpart_b (hs : s.2.2 ≤ X.2) (z : (fpart X N f s).2.1 = 0) : (fpart X N f s).2.2 ≤ X.2 := by
  obtain ⟨-, -, -, -, -, -, z7, -⟩ := fpart_z z
  rw [z7]
  exact (nxt_b (nxt_b (nxt_b hs).2.1).2.1).2.1
end FP
section L5
variable {S : Nat → Nat → Prop} {h0 h h' : Hp} {x o a : Nat} {X : TX} {D : DD} {br : Bool} {N : NN} {c c' c0 : CU}
theorem CL.rs2 (C : CL h x o X D br N c) (R : RS h h' x o X c') (hc : c'.1 = 0 → c.1 = 0) (hW : c.1 = 0 → dW D ≤ 5) : Fr (SX x o) h h' ∧ CL h' x o X D br N c' := by
  obtain ⟨K, C1, P, ⟨se, hse, e13⟩, C5⟩ := C
  have ob := K.ob.1
  refine ⟨R.fx, R.2.1, R.2.2, P.rs R hc, ⟨se, hse, by rw [(R.1.2.2.2 _ _ (by unfold SR; omega)).1]; exact e13⟩, fun z => ?_⟩
  obtain ⟨r, e⟩ := C5 (hc z)
  exact ⟨r.sq (x := x) (R.1.mono (fun _ _ e => SR_SQ e)) ob (hW (hc z)), by rw [(R.1.2.2.2 _ _ (by unfold SR; omega)).1]; exact e⟩
theorem RdO.part {f w t : Nat} (R : RdO h o D) (L : LayO h' o) (F : Fr (fun b j => b = o + 2 ∧ j = 5 * f + w) h h') (hf : f < 4) (hw : w < 5) (hF : dF D ≤ 4) (hW : dW D ≤ 5) (e : hI h' (o + 2) (5 * f + w) = nI t) : RdO h' o (ds D (6 + f) w (t + 1)) := by
  obtain ⟨⟨-, ⟨p1, p2, p3, p4, p5, p6, p7⟩, oW, oX, oK, oE, oS⟩, r2, r3⟩ := R
  have ii : ∀ i k, (i ≠ 2 ∨ k ≠ 5 * f + w) → hI h' (o + i) k = hI h (o + i) k := fun i k hk => (F.2.2.2 _ _ (by omega)).1
  have il : ∀ i k, i ≠ 2 → hL h' (o + i) k = hL h (o + i) k := fun i k hk => (F.2.2.2 _ _ (by omega)).2.1
  have i0 : ∀ k, hI h' o k = hI h o k := fun k => ii 0 k (by omega)
  have g : ∀ i j, (i < 6 ∨ 10 ≤ i) → (ds D (6 + f) w (t + 1)).1 i j = D.1 i j := fun i j hi => ds_n (by omega)
  have ex : ∀ f' w', f' < 4 → w' < 5 → hI h' (o + 2) (5 * f' + w') = xI (dX (ds D (6 + f) w (t + 1)) f' w') := by
    intro f' w' h1 h2
    have u : dX (ds D (6 + f) w (t + 1)) f' w' = if 6 + f' = 6 + f ∧ w' = w then t + 1 else dX D f' w' := rfl
    rw [u]
    by_cases z : f' = f ∧ w' = w
    · rw [if_pos (by omega), z.1, z.2, e, xI_s]
    · rw [if_neg (by omega), ii _ _ (by omega)]
      exact r2 f' w' h1 h2
  refine ⟨⟨L, ⟨?_, ?_, ?_, ?_, ?_, ?_, ?_⟩, fun w' hw' => ?_, fun f' w' hf' hw' => ?_, fun k hk => ?_, fun k hk => ?_, fun k hk => ?_⟩, ex, fun k hk => ?_⟩
  · rw [i0]; exact p1.trans (congrArg nI (g 0 3 (by omega)).symm)
  · rw [i0]; exact p2.trans (congrArg nI (g 0 4 (by omega)).symm)
  · rw [i0]; exact p3.trans (congrArg nI (g 0 0 (by omega)).symm)
  · rw [i0]; exact p4.trans (congrArg nI (g 0 1 (by omega)).symm)
  · rw [i0]; exact p5.trans (congrArg nI (g 0 2 (by omega)).symm)
  · rw [i0]; exact p6.trans (congrArg xI (g 0 5 (by omega)).symm)
  · rw [i0]; exact p7.trans (congrArg nI (g 0 6 (by omega)).symm)
  · have hw2 : w' < dW D := by rw [ds_dW (by omega)] at hw'; exact hw'
    have q := oW w' hw2
    rw [show o + 10 + w' = o + (10 + w') by omega, ii _ _ (by omega), ii _ _ (by omega), ii _ _ (by omega), ii _ _ (by omega), ii _ _ (by omega), il _ _ (by omega), show o + (10 + w') = o + 10 + w' by omega]
    exact ⟨q.1.trans (congrArg nI (g 1 w' (by omega)).symm), q.2.1.trans (congrArg nI (g 2 w' (by omega)).symm), q.2.2.1.trans (congrArg nI (g 3 w' (by omega)).symm), q.2.2.2.1.trans (congrArg nI (g 4 w' (by omega)).symm), q.2.2.2.2.1.trans (congrArg nI (g 5 w' (by omega)).symm), q.2.2.2.2.2⟩
  · have hf2 : f' < dF D := by rw [ds_dF (by omega)] at hf'; exact hf'
    exact ex f' w' (by omega) hw'
  · have q := oK k (by rw [show dN (ds D (6 + f) w (t + 1)) = dN D from g 0 2 (by omega)] at hk; exact hk)
    rw [ii _ _ (by omega), ii _ _ (by omega), ii _ _ (by omega)]
    exact ⟨q.1.trans (congrArg nI (g 10 k (by omega)).symm), q.2.1.trans (congrArg nI (g 11 k (by omega)).symm), q.2.2.trans (congrArg nI (g 12 k (by omega)).symm)⟩
  · have q := oE k (by rw [ds_dF (by omega)] at hk; exact hk)
    rw [ii _ _ (by omega), ii _ _ (by omega), show dEv (ds D (6 + f) w (t + 1)) k = dEv D k from g 13 k (by omega), show dFr (ds D (6 + f) w (t + 1)) k = dFr D k from g 14 k (by omega)]
    exact q
  · have q := oS k (by rw [show dSe (ds D (6 + f) w (t + 1)) = dSe D from g 0 6 (by omega)] at hk; exact hk)
    rw [ii _ _ (by omega), ii _ _ (by omega)]
    exact ⟨q.1.trans (congrArg nI (g 15 k (by omega)).symm), q.2.trans (congrArg nI (g 16 k (by omega)).symm)⟩
  · rw [ii _ _ (by omega), show dEv (ds D (6 + f) w (t + 1)) k = dEv D k from g 13 k (by omega)]
    exact r3 k hk
theorem RdO.fend (R : RdO h o D) (L : LayO h' o) (F : Fr (fun b j => b = o ∧ j = 4) h h') (hF : dF D < 4) (hE : dEv D (dF D) = 0) (hW : dW D ≤ 5) (e : hI h' o 4 = nI (dF D + 1)) : RdO h' o (ds D 0 1 (dF D + 1)) := by
  obtain ⟨⟨-, ⟨p1, p2, p3, p4, p5, p6, p7⟩, oW, oX, oK, oE, oS⟩, r2, r3⟩ := R
  have ii : ∀ i k, 1 ≤ i → hI h' (o + i) k = hI h (o + i) k := fun i k hk => (F.2.2.2 _ _ (by omega)).1
  have il : ∀ i k, 1 ≤ i → hL h' (o + i) k = hL h (o + i) k := fun i k hk => (F.2.2.2 _ _ (by omega)).2.1
  have i0 : ∀ k, k ≠ 4 → hI h' o k = hI h o k := fun k hk => (F.2.2.2 _ _ (by omega)).1
  have ex : ∀ f' w', dX (ds D 0 1 (dF D + 1)) f' w' = dX D f' w' := fun f' w' => ds_n (by omega)
  have ex2 : ∀ f' w', f' < 4 → w' < 5 → hI h' (o + 2) (5 * f' + w') = xI (dX (ds D 0 1 (dF D + 1)) f' w') := fun f' w' h1 h2 => by
    rw [ex, ii _ _ (by omega)]
    exact r2 f' w' h1 h2
  refine ⟨⟨L, ⟨?_, ?_, ?_, e, ?_, ?_, ?_⟩, fun w' hw' => ?_, fun f' w' hf' hw' => ?_, fun k hk => ?_, fun k hk => ?_, fun k hk => ?_⟩, ex2, fun k hk => ?_⟩
  · rw [i0 _ (by decide)]; exact p1
  · rw [i0 _ (by decide)]; exact p2
  · rw [i0 _ (by decide)]; exact p3
  · rw [i0 _ (by decide)]; exact p5
  · rw [i0 _ (by decide)]; exact p6
  · rw [i0 _ (by decide)]; exact p7
  · rw [show o + 10 + w' = o + (10 + w') by omega, ii _ _ (by omega), ii _ _ (by omega), ii _ _ (by omega), ii _ _ (by omega), ii _ _ (by omega), il _ _ (by omega), show o + (10 + w') = o + 10 + w' by omega]
    exact oW w' hw'
  · have hf2 : f' < dF D + 1 := hf'
    exact ex2 f' w' (by omega) hw'
  · rw [ii _ _ (by omega), ii _ _ (by omega), ii _ _ (by omega)]
    exact oK k hk
  · have hf2 : k < dF D + 1 := hk
    rw [ii _ _ (by omega), ii _ _ (by omega)]
    refine ⟨r3 k (by omega), fun q => ?_⟩
    have q' : 0 < dEv D k := q
    by_cases z : k = dF D
    · rw [z, hE] at q'; omega
    · exact (oE k (by omega)).2 q'
  · rw [ii _ _ (by omega), ii _ _ (by omega)]
    exact oS k hk
  · rw [ii _ _ (by omega)]
    exact r3 k hk
theorem e_O_ftooth {f w : Nat} (L : LayO h o) (hf : f < 4) (hw : w < 5) : f_O_feastTooth o (nI f) (nI w) h = some (hI h (o + 2) (5 * f + w), h) := by
  refine ok_eq ?_
  unfold f_O_feastTooth
  rw [nI_i5]
  refine ok_gd L.1 (ok_bR L.2.1.2.1 (ok_gd (ai_of L.2.2.2.1 (by omega) (by decide)) (ok_lt ?_)))
  rw [nI_clamp (by omega)]
  exact ok_ret ⟨rfl, rfl⟩
theorem e_O_putF {f w : Nat} {v : Int32} (L : LayO h o) (hf : f < 4) (hw : w < 5) : f_O_putFeastTooth o (nI f) (nI w) v h = some ((), uI h (o + 2) (5 * f + w) v) := by
  refine ok_eq ?_
  unfold f_O_putFeastTooth
  rw [nI_i5]
  refine ok_gd L.1 (ok_bR L.2.1.2.1 (ok_gd (ai_of L.2.2.2.1 (by omega) (by decide)) (ok_lt ?_)))
  rw [nI_clamp (by omega)]
  exact ok_ret ⟨rfl, rfl⟩
theorem ok_R_fwheel {f nw : Nat} (C : CL h x o X D true (nadd N nw 1 f) c) (hf : c.1 = 0 → FD D N f ∧ fdn N nw 0 = N.1) : Ok (f_R_readFeastWheel (x + 2) h) (fun _ h' => Fr (SX x o) h h' ∧ CL h' x o X (fpart X N f (D, c)).1 true (nadd N nw 1 f) (fpart X N f (D, c)).2) := by
  obtain ⟨K, C1, P, ⟨se, hse, e13⟩, C5⟩ := id C
  have R := C.rs
  have ob := K.ob.1
  unfold f_R_readFeastWheel
  refine k_name 0 R P (by decide) rfl (fun r2 h1 R1 hr2 => ?_)
  have eK : cK X (nadd N nw 1 f) 0 c = cK X N 0 c := by
    by_cases z : c.1 = 0
    · exact cK_a (hf z).2 (by decide)
    · rw [cK_n z, cK_n z]
  rw [eK] at R1 hr2
  refine ok_gd R1.s (ok_lt (k_ft R1 (fun z => ?_) (fun z => ok_ret ?_)))
  · have zk := cS_z z
    obtain ⟨z1, z2, z3, z4⟩ := cK_z zk
    obtain ⟨⟨f1, f2, f3, f4, f5, f6⟩, fr⟩ := hf z1
    obtain ⟨rD, e3⟩ := C5 z1
    have wlt := f3 _ z3
    have hT := f2 _ wlt
    have q1 : r2 = nI (kn N (tW X c.2)) := by
      rw [(hr2 zk).1]
      exact congrArg nI ((isK_a fr (by decide)).2 z3)
    have q2 := (hr2 zk).2
    subst q1
    have w5 : kn N (tW X c.2) < 5 := by omega
    have pE : cS X (cCk (decide (dX D f (kn N (tW X c.2)) = 0)) 3 (cK X N 0 c)) = if decide (dX D f (kn N (tW X c.2)) = 0) = true then cS X (cK X N 0 c) else cG 3 c.2 (cS X (cK X N 0 c)) := cS_ck' (by decide) cK_2
    have go42 : ∀ h5, RS h h5 x o X (cS X (cCk (decide (dX D f (kn N (tW X c.2)) = 0)) 3 (cK X N 0 c))) → Ok (b_R_readFeastWheel_42 (x + 2) (nI (kn N (tW X c.2))) h5) (fun _ h' => Fr (SX x o) h h' ∧ CL h' x o X (fpart X N f (D, c)).1 true (nadd N nw 1 f) (fpart X N f (D, c)).2) := by
      intro h5 R5
      unfold b_R_readFeastWheel_42
      refine k_pass 18 R5 (by decide) (by decide) (fun h6 R6 => ?_)
      change RS h h6 x o X (fp4 X N f (D, c)) at R6
      obtain ⟨ob6, s6, r6⟩ := R6.2.1.ob
      have L := R6.2.1.2.2.2.2.2.2.2.2.1
      have r := rD.sq (x := x) (R6.1.mono (fun _ _ e => SR_SQ e)) ob f1
      have q := r.1.2.2.1 _ wlt
      have y1 := L.2.2.2.2.2.2.2 _ w5
      refine ok_gd R6.s (ok_bR r6 (ok_gd s6 (ok_bR L.2.1.1 (ok_gd (ai_of L.2.2.1 w5 (by decide)) ?_))))
      rw [nI_clamp (by omega)]
      refine ok_bR y1.1 (ok_gd y1.2 (ok_lt ?_))
      rw [q.2.1, nI_s (by omega)]
      refine k_whole 0 (dT D (kn N (tW X c.2)) - 1) R6 (by decide) (by omega) (fun _ => ⟨rfl, rfl⟩) (fun v8 h7 R7 hr8 => ?_)
      change RS h h7 x o X (fpart X N f (D, c)).2 at R7
      refine ok_gd R7.s (ok_lt (k_ft R7 (fun e => ?_) (fun e => ok_ret (C.ers R7 e))))
      have u8 := (hr8 e).1
      obtain ⟨ob7, s7, r7⟩ := R7.2.1.ob
      have L := R7.2.1.2.2.2.2.2.2.2.2.1
      have r := rD.sq (x := x) (R7.1.mono (fun _ _ e => SR_SQ e)) ob f1
      have e4 : hI h7 o 4 = nI f := by rw [r.1.2.1.2.2.2.1, f4]
      refine ok_gd R7.s (ok_bR r7 (ok_gd R7.s (ok_bR r7 (ok_gd s7 (ok_lt (ok_gd s7 ?_))))))
      rw [e4]
      refine ok_bde (e_O_putF L f5 w5) (ok_ret ?_)
      have FB : Fr (fun b j => b = o + 2 ∧ j = 5 * f + kn N (tW X c.2)) h7 (uI h7 (o + 2) (5 * f + kn N (tW X c.2)) v8) := fr_uI ⟨rfl, rfl⟩
      have R10 := R7.w FB (fun b k e => ⟨by unfold SX; omega, by omega⟩)
      refine ⟨R7.fx.trans (FB.mono (fun b k e => by unfold SX; omega)), R10.2.1, R10.2.2, (P.rs R7 (fun _ => z1)).fr FB (fun e => e) (by omega) (fun k => by omega) (fun k => by omega) (fun k => by omega), ⟨se, hse, ?_⟩, fun _ => ⟨?_, ?_⟩⟩
      · rw [(FB.2.2.2 _ _ (by omega)).1, (R7.1.2.2.2 _ _ (by unfold SR; omega)).1]; exact e13
      · exact r.part R10.2.1.2.2.2.2.2.2.2.2.1 FB f5 w5 (by omega) f1 (by rw [hI_uIs, u8])
      · rw [(FB.2.2.2 _ _ (by omega)).1, (R7.1.2.2.2 _ _ (by unfold SR; omega)).1]; exact e3
    obtain ⟨ob1, s1, r1⟩ := R1.2.1.ob
    have L := R1.2.1.2.2.2.2.2.2.2.2.1
    have r := rD.sq (x := x) (R1.1.mono (fun _ _ e => SR_SQ e)) ob f1
    have e4 : hI h1 o 4 = nI f := by rw [r.1.2.1.2.2.2.1, f4]
    refine ok_gd R1.s (ok_bR r1 (ok_gd R1.s (ok_bR r1 (ok_gd s1 (ok_lt (ok_gd s1 ?_))))))
    rw [e4]
    refine ok_bde (e_O_ftooth L f5 w5) ?_
    have f6' := f6 _ w5
    rw [r.2.1 f _ f5 w5]
    refine ok_ix (by omega) (fun g => go42 h1 ?_) (fun g => ok_gd R1.s (ok_lt (k_fail (p := c.2) R1 rfl (by decide) (by decide) (fun _ => q2) (fun h7 R7 => go42 h7 ?_))))
    · rw [pE, decide_eq_true g]
      exact R1
    · rw [pE, decide_eq_false g]
      exact R7
  · have e := cS_ne z
    have e2 : (fpart X N f (D, c)).2 = cS X (cK X N 0 c) := by
      unfold fpart fp4
      show cW X 0 _ (cP X 18 (cS X (cCk _ 3 (cK X N 0 c)))) = _
      rw [cCk_n e, cP_n z, cW_n z]
    rw [e2]
    exact C.ers R1 z
theorem run_ok {f : Nat} {s : DD × CU} : ∀ n, (∀ k, k < n → fmore X (itn (fnext X N f) k s) = true) → s.2.2 ≤ X.2 → ∀ k, k ≤ n → (itn (fnext X N f) k s).2.1 = 0 → (itn (fnext X N f) k s).2.2 ≤ X.2 ∧ k + s.2.2 ≤ (itn (fnext X N f) k s).2.2 := by
  intro n hm hs k
  induction k with
  | zero => intro _ _; exact ⟨hs, by show 0 + s.2.2 ≤ s.2.2; omega⟩
  | succ k ih =>
    intro hk z
    have m := of_decide_eq_true (hm k (by omega))
    obtain ⟨i1, i2⟩ := ih (by omega) m.1
    have l := tS_lt (X := X) (a := (itn (fnext X N f) k s).2.2) (by omega)
    obtain ⟨-, y2, y3, y4⟩ := fnext_z i1 z
    have y5 := y4 l
    exact ⟨y3, by show k + 1 + s.2.2 ≤ (fnext X N f (itn (fnext X N f) k s)).2.2; omega⟩
theorem FD.run {f : Nat} {s : DD × CU} (P : s.2.1 = 0 → FD s.1 N f) : ∀ k, (itn (fnext X N f) k s).2.1 = 0 → FD (itn (fnext X N f) k s).1 N f := by
  intro k
  induction k with
  | zero => exact P
  | succ k ih =>
    intro z
    have z0 := cS_z (fpart_z (s := ((itn (fnext X N f) k s).1, cS X (itn (fnext X N f) k s).2)) z).1
    exact FD.part (s := ((itn (fnext X N f) k s).1, cS X (itn (fnext X N f) k s).2)) (ih z0) z
/-- what a feast's parts leave as it was -/
theorem itn_ev {f : Nat} {s : DD × CU} (hf : f < 4) : ∀ k, ∀ i j, (i < 6 ∨ 10 ≤ i) → (itn (fnext X N f) k s).1.1 i j = s.1.1 i j := by
  intro k
  induction k with
  | zero => intro i j _; rfl
  | succ k ih =>
    intro i j hi
    show (ds (itn (fnext X N f) k s).1 (6 + f) _ _).1 i j = _
    rw [ds_n (by omega)]
    exact ih i j hi
theorem ok_R_feast (C : CL h x o X D true N (0, a)) (W : WfR D true N) (hw : isW X 6 a = true) : Ok (f_R_readFeast (x + 2) h) (fun _ h' => Fr (SX x o) h h' ∧ CL h' x o X (dnF X D N true a) true (nnF X D N true a) (lnF X D N true a)) := by
  obtain ⟨K, C1, P, ⟨se, hse, e13⟩, C5⟩ := id C
  obtain ⟨rD, e3⟩ := C5 rfl
  have R := C.rs
  have ob := K.ob.1
  have W5 : dW D ≤ 5 := nB W
  have W4 := W.1.1.2.1
  have WN := W.1.1.2.2.1
  have wN := W.2.1
  have eF : hI h o 4 = nI (dF D) := rD.1.2.1.2.2.2.1
  have go : ∀ h1 c1, RS h h1 x o X c1 → c1 = cCk (decide (dF D ≠ 4)) 5 (0, a) → Ok (b_R_readFeast_20 (x + 2) h1) (fun _ h' => Fr (SX x o) h h' ∧ CL h' x o X (dnF X D N true a) true (nnF X D N true a) (lnF X D N true a)) := by
    intro h1 c1 R1 ec
    unfold b_R_readFeast_20
    refine k_pass 6 R1 (by decide) (by decide) (fun h2 R3 => ?_)
    rw [cP_w (by rw [ec, cCk_2]; exact hw), ec] at R3
    change RS h h2 x o X (lb X true (dF D) 4 a) at R3
    have lz : (lb X true (dF D) 4 a).1 = 0 → dF D < 4 := fun z => by
      obtain ⟨z1, z2, z3⟩ := cCk_z (by decide) (cS_z z)
      obtain ⟨z4, z5, z6⟩ := cCk_z (by decide) z1
      have := of_decide_eq_true z5
      omega
    have F3 : Fr (SQ x) h h2 := R3.1.mono (fun _ _ e => SR_SQ e)
    obtain ⟨ob3, s3, r3⟩ := R3.2.1.ob
    have e4 : hI h2 o 4 = nI (dF D) := by rw [(F3.2.2.2 _ _ (by unfold SQ; omega)).1]; exact eF
    refine ok_gd R3.s (ok_bR r3 (ok_gd s3 (ok_lt (k_tell 1 (dF D) R3 (P.rs R3 (fun _ => rfl)) (by decide) (fun z => by have := lz z; omega) rfl (fun _ => e4) (fun h5 F5 R5 P5 => ?_)))))
    change RS h5 h5 x o X (f2 X D N true a) at R5
    have F5' : Fr (SQ x) h h5 := F3.trans (F5.mono (fun _ _ e => SN_SQ e))
    have cz : (f2 X D N true a).1 = 0 → (cT X N (lb X true (dF D) 4 a)).1 = 0 := fun z => cS_z z
    have C6 : CL h5 x o X D true (nnF X D N true a) (f2 X D N true a) := by
      refine ⟨R5.2.1, R5.2.2, ⟨P5.1, fun z => P5.2 (cz z)⟩, ⟨se, hse, ?_⟩, fun z => ⟨rD.sq F5' ob W5, ?_⟩⟩
      · rw [(F5'.2.2.2 _ _ (by unfold SQ; omega)).1]; exact e13
      · rw [(F5.2.2.2 _ _ (by unfold SN; omega)).1, (R3.1.2.2.2 _ _ (by unfold SR; omega)).1]; exact e3
    have fd0 : (f2 X D N true a).1 = 0 → FD D N (dF D) ∧ fdn N (tW X (lb X true (dF D) 4 a).2) 0 = N.1 := fun z => by
      have zT := cT_z (cz z)
      refine ⟨⟨W5, fun w hw => ?_, fun w hw => (isK_n hw W).1 rfl, rfl, lz zT.1, fun w hw => ?_⟩, zT.2.2.1⟩
      · have := W.1.1.2.2.2.2.2.2.2.1 w hw
        omega
      · rw [W.2.2.2.1 (dF D) w (Nat.le_refl _) (lz zT.1)]
        omega
    refine ok_gd R5.s (ok_bd (ok_mono (ok_R_fwheel C6 fd0) ?_))
    intro _ h7 hx
    obtain ⟨F7, C7⟩ := hx
    have FX7 : Fr (SX x o) h h7 := (F5'.mono (fun _ _ e => SQ_SX e)).trans F7
    generalize hs0 : fpart X N (dF D) (D, f2 X D N true a) = s0 at C7
    have hfall : fall X D N true a = run (fnext X N (dF D)) (fmore X) 1000 s0 := by unfold fall; rw [hs0]
    have hz0 : s0.2.1 = 0 → (f2 X D N true a).1 = 0 := fun z => by rw [← hs0] at z; exact (fpart_z z).1
    have hFD : s0.2.1 = 0 → FD s0.1 N (dF D) := fun z => by
      have z' := hz0 z
      rw [← hs0] at z ⊢
      exact FD.part (s := (D, f2 X D N true a)) (fd0 z').1 z
    have E9 := K.2.2.2.2.1
    have hs0b : s0.2.1 = 0 → s0.2.2 ≤ X.2 := fun z => by
      obtain ⟨-, -, -, t, tt, te⟩ := C7.2.1
      rw [← te z]
      exact tt.1
    refine ok_lt (ok_up X.2 (fun i st h' => st = (x + 2, nI i) ∧ Fr (SX x o) h h' ∧ CL h' x o X (itn (fnext X N (dF D)) i s0).1 true (nnF X D N true a) (itn (fnext X N (dF D)) i s0).2 ∧ ∀ k, k < i → fmore X (itn (fnext X N (dF D)) k s0) = true) ?_ FU 0 _ _ (Nat.zero_le _) ⟨rfl, FX7, C7, fun k hk => absurd hk (Nat.not_lt_zero _)⟩ (by show _ < 10000; omega))
    intro k i st h8 hi hI' kk
    obtain ⟨rfl, F8, C8, hm⟩ := hI'
    show Ok (b_R_readFeast_45 k (x + 2) (nI i) h8) _
    have R8 := C8.rs
    -- the loop's end
    have ex : fmore X (itn (fnext X N (dF D)) i s0) = false → Ok (b_R_readFeast_82 (x + 2) h8) (fun _ h' => Fr (SX x o) h h' ∧ CL h' x o X (dnF X D N true a) true (nnF X D N true a) (lnF X D N true a)) := by
      intro hn
      have ef : fall X D N true a = itn (fnext X N (dF D)) i s0 := by
        rw [hfall]
        exact run_it _ _ i 1000 s0 (by omega) hm hn
      unfold b_R_readFeast_82 lnF dnF
      rw [ef]
      refine ok_gd R8.s (ok_lt (k_ft R8 (fun z => ?_) (fun z => ok_ret ⟨F8, C8.1, C8.2.1, ⟨C8.2.2.1.1, fun y => absurd y z⟩, C8.2.2.2.1, fun y => absurd y z⟩)))
      obtain ⟨ob8, s8, r8⟩ := R8.2.1.ob
      obtain ⟨rd, e3'⟩ := C8.2.2.2.2 z
      have zs0 : s0.2.1 = 0 := by
        cases i with
        | zero => exact z
        | succ i => exact (of_decide_eq_true (hm 0 (by omega))).1
      have l4 : dF D < 4 := (hFD zs0).2.2.2.2.1
      have ev := itn_ev (X := X) (N := N) (s := s0) l4 i
      have ev0 : ∀ p q, (p < 6 ∨ 10 ≤ p) → s0.1.1 p q = D.1 p q := fun p q hp => by
        rw [← hs0]
        exact ds_n (by show ¬ (p = 6 + dF D ∧ _); omega)
      have dFi : dF (itn (fnext X N (dF D)) i s0).1 = dF D := (ev 0 1 (by omega)).trans (ev0 0 1 (by omega))
      have dWi : dW (itn (fnext X N (dF D)) i s0).1 = dW D := (ev 0 0 (by omega)).trans (ev0 0 0 (by omega))
      have dEi : dEv (itn (fnext X N (dF D)) i s0).1 (dF D) = dEv D (dF D) := (ev 13 (dF D) (by omega)).trans (ev0 13 (dF D) (by omega))
      refine ok_gd R8.s (ok_bR r8 (ok_gd s8 (ok_lt (ok_gd s8 (ok_lt (ok_ret ?_))))))
      have e4 : hI h8 o 4 = nI (dF D) := by rw [rd.1.2.1.2.2.2.1, dFi]
      rw [e4, nI_1]
      have FB : Fr (fun b j => b = o ∧ j = 4) h8 (uI h8 o 4 (nI (dF D + 1))) := fr_uI ⟨rfl, rfl⟩
      have R10 := R8.w FB (fun b k e => ⟨by unfold SX; omega, by omega⟩)
      obtain ⟨se8, hse8, e138⟩ := C8.2.2.2.1
      refine ⟨F8.trans (FB.mono (fun b k e => by unfold SX; omega)), R10.2.1, R10.2.2, C8.2.2.1.fr FB (fun e => e) (by omega) (fun k => by omega) (fun k => by omega) (fun k => by omega), ⟨se8, hse8, ?_⟩, fun _ => ⟨?_, ?_⟩⟩
      · rw [hI_uIk (by decide)]; exact e138
      · have q := rd.fend R10.2.1.2.2.2.2.2.2.2.2.1 FB (by rw [dFi]; exact l4) (by rw [dFi, dEi]; exact (W.2.2.2.2.1 _ (Nat.le_refl _) l4).1) (by rw [dWi]; exact W5) (by rw [dFi]; exact hI_uIs)
        rw [dFi] at q
        exact q
      · rw [hI_uIa (by omega)]; exact e3'
    unfold b_R_readFeast_45
    have k10 := R8.2.1.2.2.2.1
    refine ok_gd R8.s (ok_lt ?_)
    rw [k10]
    have tok := fun z => R8.z (c := (itn (fnext X N (dF D)) i s0).2) z
    have zs : (itn (fnext X N (dF D)) i s0).2.1 = 0 → s0.2.1 = 0 := fun z => by
      cases i with
      | zero => exact z
      | succ i => exact (of_decide_eq_true (hm 0 (by omega))).1
    refine ok_ile (by omega) (by omega) (fun g => ex ?_) (fun g => ?_)
    · refine decide_eq_false (fun q => ?_)
      obtain ⟨b1, b2⟩ := run_ok (N := N) (f := dF D) (s := s0) i hm (hs0b (zs q.1)) i (Nat.le_refl _) q.1
      have := tS_lt (X := X) (a := (itn (fnext X N (dF D)) i s0).2.2) (by omega)
      omega
    · refine ok_gd R8.s (ok_lt (k_ft R8 (fun z => ?_) (fun z => ex (decide_eq_false (fun q => z q.1)))))
      refine ok_gd R8.s (ok_lt ?_)
      rw [(tok z).2.2.2.1]
      have b5 := tS_le (X := X) (a := (itn (fnext X N (dF D)) i s0).2.2)
      refine ok_ieq (b := 4) (by omega) (by decide) (fun e => ?_) (fun e => ex (decide_eq_false (fun q => e q.2)))
      have mo : fmore X (itn (fnext X N (dF D)) i s0) = true := decide_eq_true ⟨z, e⟩
      have FDi := FD.run (X := X) hFD i z
      refine k_step R8 (fun h9 R9 _ => ?_)
      obtain ⟨F9, C9⟩ := C8.rs2 R9 (fun _ => z) (fun _ => FDi.1)
      refine ok_gd R9.s (ok_bd (ok_mono (ok_R_fwheel C9 (fun _ => ⟨FDi, (fd0 (hz0 (zs z))).2⟩)) ?_))
      intro _ h10 hx
      obtain ⟨F10, C10⟩ := hx
      rw [nI_1]
      refine kk _ _ g ⟨rfl, (F8.trans F9).trans F10, C10, fun k hk => ?_⟩
      by_cases w : k = i
      · rw [w]; exact mo
      · exact hm k (by omega)
  unfold f_R_readFeast
  obtain ⟨ob0, s0, r0⟩ := K.ob
  refine ok_gd R.s (ok_bR r0 (ok_gd s0 (ok_lt ?_)))
  rw [eF]
  refine ok_ilt (b := 4) (by omega) (by decide) (fun g => go h _ R ?_) (fun g => k_at R rfl (by decide) (by decide) (fun h1 R1 => go h1 _ R1 ?_))
  · rw [decide_eq_true (by omega)]; rfl
  · rw [decide_eq_false (by omega)]; rfl
end L5
