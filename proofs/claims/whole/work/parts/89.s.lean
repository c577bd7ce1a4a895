/-! the class's reader: work, jerked and smooth -/
section L4
variable {S : Nat → Nat → Prop} {h0 h h' : Hp} {x o a : Nat} {X : TX} {D : DD} {br : Bool} {N : NN} {c c' c0 : CU}
theorem cP_n {k : Nat} (h : c.1 ≠ 0) : cP X k c = c := by unfold cP; rw [cCk_n h, cS_n h]
theorem RdO.work {p q r : Nat} (R : RdO h o D) (L : LayO h' o) (F : Fr (fun b j => ((b = o + 3 ∨ b = o + 4 ∨ b = o + 5) ∧ j = dN D) ∨ (b = o ∧ j = 6)) h h') (hW : dW D ≤ 5) (hF : dF D ≤ 4) (e3 : hI h' (o + 3) (dN D) = nI p) (e4 : hI h' (o + 4) (dN D) = nI q) (e5 : hI h' (o + 5) (dN D) = nI r) (e6 : hI h' o 6 = nI (dN D + 1)) : RdO h' o (ds (ds (ds (ds D 10 (dN D) p) 11 (dN D) q) 12 (dN D) r) 0 2 (dN D + 1)) := by
  obtain ⟨⟨-, ⟨p1, p2, p3, p4, p5, p6, p7⟩, oW, oX, oK, oE, oS⟩, r2, r3⟩ := R
  have ii : ∀ i k, 1 ≤ i → ((i ≠ 3 ∧ i ≠ 4 ∧ i ≠ 5) ∨ k ≠ dN D) → hI h' (o + i) k = hI h (o + i) k := fun i k h1 hk => (F.2.2.2 _ _ (by omega)).1
  have il : ∀ i k, 6 ≤ i → hL h' (o + i) k = hL h (o + i) k := fun i k hk => (F.2.2.2 _ _ (by omega)).2.1
  have i0 : ∀ k, k ≠ 6 → hI h' o k = hI h o k := fun k hk => (F.2.2.2 _ _ (by omega)).1
  have ex : ∀ f' w', f' < 4 → dX (ds (ds (ds (ds D 10 (dN D) p) 11 (dN D) q) 12 (dN D) r) 0 2 (dN D + 1)) f' w' = dX D f' w' := fun f' w' h4 => (ds_n (by omega)).trans ((ds_n (by omega)).trans ((ds_n (by omega)).trans (ds_n (by omega))))
  refine ⟨⟨L, ⟨?_, ?_, ?_, ?_, e6, ?_, ?_⟩, fun w' hw' => ?_, fun f w hf hw => ?_, fun k hk => ?_, fun g hg => ?_, fun k hk => ?_⟩, fun f w hf hw => ?_, fun g hg => ?_⟩
  · rw [i0 _ (by decide)]; exact p1
  · rw [i0 _ (by decide)]; exact p2
  · rw [i0 _ (by decide)]; exact p3
  · rw [i0 _ (by decide)]; exact p4
  · rw [i0 _ (by decide)]; exact p6
  · rw [i0 _ (by decide)]; exact p7
  · rw [show o + 10 + w' = o + (10 + w') by omega, ii _ _ (by omega) (by omega), ii _ _ (by omega) (by omega), ii _ _ (by omega) (by omega), ii _ _ (by omega) (by omega), ii _ _ (by omega) (by omega), il _ _ (by omega), show o + (10 + w') = o + 10 + w' by omega]
    exact oW w' hw'
  · rw [ii _ _ (by omega) (by omega), ex f w (Nat.lt_of_lt_of_le hf hF)]
    exact oX f w hf hw
  · have hk' : k < dN D + 1 := hk
    by_cases z : k = dN D
    · subst z
      refine ⟨e3.trans ?_, e4.trans ?_, e5.trans ?_⟩
      · show nI p = nI ((ds (ds (ds (ds D 10 (dN D) p) 11 (dN D) q) 12 (dN D) r) 0 2 (dN D + 1)).1 10 (dN D))
        rw [ds_n (by omega), ds_n (by omega), ds_n (by omega), ds_s]
      · show nI q = nI ((ds (ds (ds (ds D 10 (dN D) p) 11 (dN D) q) 12 (dN D) r) 0 2 (dN D + 1)).1 11 (dN D))
        rw [ds_n (by omega), ds_n (by omega), ds_s]
      · show nI r = nI ((ds (ds (ds (ds D 10 (dN D) p) 11 (dN D) q) 12 (dN D) r) 0 2 (dN D + 1)).1 12 (dN D))
        rw [ds_n (by omega), ds_s]
    · have g : ∀ i, 10 ≤ i → (ds (ds (ds (ds D 10 (dN D) p) 11 (dN D) q) 12 (dN D) r) 0 2 (dN D + 1)).1 i k = D.1 i k := fun i h1 => by
        rw [ds_n (by omega), ds_n (by omega), ds_n (by omega), ds_n (by omega)]
      have q0 := oK k (by omega)
      rw [ii _ _ (by omega) (by omega), ii _ _ (by omega) (by omega), ii _ _ (by omega) (by omega)]
      exact ⟨q0.1.trans (congrArg nI (g 10 (by omega)).symm), q0.2.1.trans (congrArg nI (g 11 (by omega)).symm), q0.2.2.trans (congrArg nI (g 12 (by omega)).symm)⟩
  · rw [ii _ _ (by omega) (by omega), ii _ _ (by omega) (by omega)]
    exact oE g hg
  · rw [ii _ _ (by omega) (by omega), ii _ _ (by omega) (by omega)]
    exact oS k hk
  · rw [ii _ _ (by omega) (by omega), ex f w hf]
    exact r2 f w hf hw
  · rw [ii _ _ (by omega) (by omega)]
    exact r3 g hg
theorem ok_R_work (C : CL h x o X D true N (0, a)) (W : WfR D true N) (hw : isW X 7 a = true) : Ok (f_R_readWork (x + 2) h) (fun _ h' => Fr (SX x o) h h' ∧ CL h' x o X (dnK X D N true a) true (nnK X D N true a) (lnK X D N true a)) := by
  obtain ⟨K, C1, P, ⟨se, hse, e13⟩, C5⟩ := id C
  obtain ⟨rD, e3⟩ := C5 rfl
  have R := C.rs
  have ob := K.ob.1
  have W5 : dW D ≤ 5 := nB W
  have W4 := W.1.1.2.1
  have WN := W.1.1.2.2.1
  have wN := W.2.1
  have eN : hI h o 6 = nI (dN D) := rD.1.2.1.2.2.2.2.1
  have go : ∀ h1 c1, RS h h1 x o X c1 → c1 = cCk (decide (dN D ≠ 4)) 5 (0, a) → Ok (b_R_readWork_22 (x + 2) (nI (dN D)) h1) (fun _ h' => Fr (SX x o) h h' ∧ CL h' x o X (dnK X D N true a) true (nnK X D N true a) (lnK X D N true a)) := by
    intro h1 c1 R1 ec
    unfold b_R_readWork_22
    refine k_pass 7 R1 (by decide) (by decide) (fun h2 R3 => ?_)
    rw [cP_w (by rw [ec, cCk_2]; exact hw), ec] at R3
    change RS h h2 x o X (lb X true (dN D) 4 a) at R3
    have lz : (lb X true (dN D) 4 a).1 = 0 → dN D < 4 := fun z => by
      obtain ⟨z1, z2, z3⟩ := cCk_z (by decide) (cS_z z)
      obtain ⟨z4, z5, z6⟩ := cCk_z (by decide) z1
      have := of_decide_eq_true z5
      omega
    have F3 : Fr (SQ x) h h2 := R3.1.mono (fun _ _ e => SR_SQ e)
    refine k_tell 2 (dN D) R3 (P.rs R3 (fun _ => rfl)) (by decide) (fun z => by have := lz z; omega) rfl (fun _ => rfl) (fun h5 F5 R5 P5 => ?_)
    refine k_pass 19 R5 (by decide) (by decide) (fun h6 R6 => ?_)
    change RS h5 h6 x o X (k3 X D N true a) at R6
    refine k_whole 1 99 R6 (by decide) (by decide) (fun _ => ⟨rfl, rfl⟩) (fun v8 h7 R7 hr8 => ?_)
    refine k_pass 20 R7 (by decide) (by decide) (fun h9 R9 => ?_)
    change RS h5 h9 x o X (k5 X D N true a) at R9
    refine k_whole 0 99 R9 (by decide) (by decide) (fun _ => ⟨rfl, rfl⟩) (fun v12 h11 R11 hr12 => ?_)
    refine k_pass 17 R11 (by decide) (by decide) (fun h13 R13 => ?_)
    change RS h5 h13 x o X (k7 X D N true a) at R13
    have kz : (k7 X D N true a).1 = 0 → (cT X N (lb X true (dN D) 4 a)).1 = 0 ∧ (cW X 0 99 (k5 X D N true a)).1 = 0 ∧ (cW X 1 99 (k3 X D N true a)).1 = 0 := fun z => by
      have z7 := (cP_z z).1
      have z5 := (cW_z z7).1
      have z4 := (cP_z z5).1
      have z3 := (cW_z z4).1
      exact ⟨cS_z (cP_z z3).1, z7, z4⟩
    have P13 : NC h13 x (nnK X D N true a) (k7 X D N true a) := P5.rs R13 (fun z => (kz z).1)
    refine k_name 1 R13 P13 (by decide) rfl (fun v16 h15 R15 hr16 => ?_)
    have eK : cK X (nnK X D N true a) 1 (k7 X D N true a) = cK X N 1 (k7 X D N true a) := by
      by_cases z : (k7 X D N true a).1 = 0
      · exact cK_a (cT_z (kz z).1).2.2.1 (by decide)
      · rw [cK_n z, cK_n z]
    rw [eK] at R15 hr16
    change RS h5 h15 x o X (lnK X D N true a) at R15
    have F15 : Fr (SQ x) h h15 := (F3.trans (F5.mono (fun _ _ e => SN_SQ e))).trans (R15.1.mono (fun _ _ e => SR_SQ e))
    have nz : (lnK X D N true a).1 = 0 → (k7 X D N true a).1 = 0 := fun z => (cK_z (cS_z z)).1
    have P15 : NC h15 x (nnK X D N true a) (lnK X D N true a) := P5.rs R15 (fun z => (kz (nz z)).1)
    refine ok_gd R15.s (ok_lt (k_ft R15 (fun z => ?_) (fun z => ok_ret (C.er F15 R15.2.1 R15.2.2 z P15.1))))
    obtain ⟨zT, z7, z4⟩ := kz (nz z)
    have l4 := lz (cT_z zT).1
    have zK := cK_z (cS_z z)
    have u16 : v16 = nI (kn N (tW X (k7 X D N true a).2)) := by
      rw [(hr16 (cS_z z)).1]
      exact congrArg nI ((isK_a (cT_z zT).2.2.1 (by decide)).2 zK.2.2.1)
    have u8 := (hr8 z4).1
    have u12 := (hr12 z7).1
    have r := rD.sq F15 ob W5
    obtain ⟨ob15, s15, r15⟩ := R15.2.1.ob
    have L := R15.2.1.2.2.2.2.2.2.2.2.1
    have l3 := L.2.2.2.2.1 3 (by decide) (by decide)
    have l4' := L.2.2.2.2.1 4 (by decide) (by decide)
    have l5 := L.2.2.2.2.1 5 (by decide) (by decide)
    have hN31 : dN D < 2 ^ 31 := by omega
    refine ok_gd R15.s (ok_bR r15 (ok_gd s15 (ok_bR L.2.1.2.2.1 (ok_gd (ai_of l3 l4 (by decide)) (ok_lt ?_)))))
    rw [nI_clamp hN31]
    refine ok_gd (by exact R15.s) (ok_bR (by exact r15) (ok_gd (by exact s15) (ok_bR (by exact L.2.1.2.2.2.1) (ok_gd (by exact ai_of l4' l4 (by decide)) (ok_lt ?_)))))
    refine ok_gd (by exact R15.s) (ok_bR (by exact r15) (ok_gd (by exact s15) (ok_bR (by exact L.2.1.2.2.2.2.1) (ok_gd (by exact ai_of l5 l4 (by decide)) (ok_lt ?_)))))
    refine ok_gd (by exact R15.s) (ok_bR (by exact r15) (ok_gd (by exact s15) (ok_lt (ok_gd (by exact s15) (ok_lt (ok_ret ?_))))))
    rw [hI_uIa (by omega), hI_uIa (by omega), hI_uIa (by omega), show hI h15 o 6 = nI (dN D) from r.1.2.1.2.2.2.2.1, nI_1]
    have FB : Fr (fun b j => ((b = o + 3 ∨ b = o + 4 ∨ b = o + 5) ∧ j = dN D) ∨ (b = o ∧ j = 6)) h15 (uI (uI (uI (uI h15 (o + 3) (dN D) v8) (o + 4) (dN D) v12) (o + 5) (dN D) v16) o 6 (nI (dN D + 1))) := (((fr_uI (Or.inl ⟨Or.inl rfl, rfl⟩)).trans (fr_uI (Or.inl ⟨Or.inr (Or.inl rfl), rfl⟩))).trans (fr_uI (Or.inl ⟨Or.inr (Or.inr rfl), rfl⟩))).trans (fr_uI (Or.inr ⟨rfl, rfl⟩))
    have R16 := R15.w FB (fun b k e => ⟨by unfold SX; omega, by omega⟩)
    refine ⟨(F15.mono (fun _ _ e => SQ_SX e)).trans (FB.mono (fun b k e => by unfold SX; omega)), R16.2.1, R16.2.2, P15.fr FB (fun e => e) (by omega) (fun k => by omega) (fun k => by omega) (fun k => by omega), ⟨se, hse, ?_⟩, fun _ => ⟨?_, ?_⟩⟩
    · rw [(FB.2.2.2 _ _ (by omega)).1, (F15.2.2.2 _ _ (by unfold SQ; omega)).1]; exact e13
    · refine r.work R16.2.1.2.2.2.2.2.2.2.2.1 FB W5 W4 ?_ ?_ ?_ hI_uIs
      · rw [hI_uIa (by omega), hI_uIa (by omega), hI_uIa (by omega), hI_uIs]
        exact u8
      · rw [hI_uIa (by omega), hI_uIa (by omega), hI_uIs]
        exact u12
      · rw [hI_uIa (by omega), hI_uIs]
        exact u16
    · rw [(FB.2.2.2 _ _ (by omega)).1, (R15.1.2.2.2 _ _ (by unfold SR; omega)).1, (F5.2.2.2 _ _ (by unfold SN; omega)).1, (R3.1.2.2.2 _ _ (by unfold SR; omega)).1]
      exact e3
  unfold f_R_readWork
  obtain ⟨ob0, s0, r0⟩ := K.ob
  refine ok_gd R.s (ok_bR r0 (ok_gd s0 (ok_lt ?_)))
  rw [eN]
  refine ok_ilt (b := 4) (by omega) (by decide) (fun g => go h _ R ?_) (fun g => k_at R rfl (by decide) (by decide) (fun h1 R1 => go h1 _ R1 ?_))
  · rw [decide_eq_true (by omega)]; rfl
  · rw [decide_eq_false (by omega)]; rfl
theorem RdO.seen {p v : Nat} (R : RdO h o D) (L : LayO h' o) (F : Fr (fun b j => ((b = o + 8 ∨ b = o + 9) ∧ j = dSe D) ∨ (b = o ∧ j = 13)) h h') (hW : dW D ≤ 5) (hF : dF D ≤ 4) (e8 : hI h' (o + 8) (dSe D) = nI p) (e9 : hI h' (o + 9) (dSe D) = nI v) (e13 : hI h' o 13 = nI (dSe D + 1)) : RdO h' o (ds (ds (ds D 15 (dSe D) p) 16 (dSe D) v) 0 6 (dSe D + 1)) := by
  obtain ⟨⟨-, ⟨p1, p2, p3, p4, p5, p6, p7⟩, oW, oX, oK, oE, oS⟩, r2, r3⟩ := R
  have ii : ∀ i k, 1 ≤ i → ((i ≠ 8 ∧ i ≠ 9) ∨ k ≠ dSe D) → hI h' (o + i) k = hI h (o + i) k := fun i k h1 hk => (F.2.2.2 _ _ (by omega)).1
  have il : ∀ i k, 10 ≤ i → hL h' (o + i) k = hL h (o + i) k := fun i k hk => (F.2.2.2 _ _ (by omega)).2.1
  have i0 : ∀ k, k ≠ 13 → hI h' o k = hI h o k := fun k hk => (F.2.2.2 _ _ (by omega)).1
  have ex : ∀ f' w', f' < 4 → dX (ds (ds (ds D 15 (dSe D) p) 16 (dSe D) v) 0 6 (dSe D + 1)) f' w' = dX D f' w' := fun f' w' h4 => (ds_n (by omega)).trans ((ds_n (by omega)).trans (ds_n (by omega)))
  refine ⟨⟨L, ⟨?_, ?_, ?_, ?_, ?_, ?_, e13⟩, fun w' hw' => ?_, fun f w hf hw => ?_, fun k hk => ?_, fun g hg => ?_, fun k hk => ?_⟩, fun f w hf hw => ?_, fun g hg => ?_⟩
  · rw [i0 _ (by decide)]; exact p1
  · rw [i0 _ (by decide)]; exact p2
  · rw [i0 _ (by decide)]; exact p3
  · rw [i0 _ (by decide)]; exact p4
  · rw [i0 _ (by decide)]; exact p5
  · rw [i0 _ (by decide)]; exact p6
  · rw [show o + 10 + w' = o + (10 + w') by omega, ii _ _ (by omega) (by omega), ii _ _ (by omega) (by omega), ii _ _ (by omega) (by omega), ii _ _ (by omega) (by omega), ii _ _ (by omega) (by omega), il _ _ (by omega), show o + (10 + w') = o + 10 + w' by omega]
    exact oW w' hw'
  · rw [ii _ _ (by omega) (by omega), ex f w (Nat.lt_of_lt_of_le hf hF)]
    exact oX f w hf hw
  · rw [ii _ _ (by omega) (by omega), ii _ _ (by omega) (by omega), ii _ _ (by omega) (by omega)]
    exact oK k hk
  · rw [ii _ _ (by omega) (by omega), ii _ _ (by omega) (by omega)]
    exact oE g hg
  · have hk' : k < dSe D + 1 := hk
    by_cases z : k = dSe D
    · subst z
      refine ⟨e8.trans ?_, e9.trans ?_⟩
      · show nI p = nI ((ds (ds (ds D 15 (dSe D) p) 16 (dSe D) v) 0 6 (dSe D + 1)).1 15 (dSe D))
        rw [ds_n (by omega), ds_n (by omega), ds_s]
      · show nI v = nI ((ds (ds (ds D 15 (dSe D) p) 16 (dSe D) v) 0 6 (dSe D + 1)).1 16 (dSe D))
        rw [ds_n (by omega), ds_s]
    · have g : ∀ i, 10 ≤ i → (ds (ds (ds D 15 (dSe D) p) 16 (dSe D) v) 0 6 (dSe D + 1)).1 i k = D.1 i k := fun i h1 => by
        rw [ds_n (by omega), ds_n (by omega), ds_n (by omega)]
      have q0 := oS k (by omega)
      rw [ii _ _ (by omega) (by omega), ii _ _ (by omega) (by omega)]
      exact ⟨q0.1.trans (congrArg nI (g 15 (by omega)).symm), q0.2.trans (congrArg nI (g 16 (by omega)).symm)⟩
  · rw [ii _ _ (by omega) (by omega), ex f w hf]
    exact r2 f w hf hw
  · rw [ii _ _ (by omega) (by omega)]
    exact r3 g hg
theorem cG_cG {f p : Nat} (hf : f ≠ 0) : cG f p (cG f p c) = cG f p c := by
  by_cases e : c.1 = 0
  · rw [cG_0 e, cG_n (by exact hf)]
  · rw [cG_n e, cG_n e]
theorem ok_R_seen {v : Nat} (C : CL h x o X D true N (0, a)) (W : WfR D true N) (hv : v ≤ 1) : Ok (f_R_readSeen (x + 2) (nI v) h) (fun _ h' => Fr (SX x o) h h' ∧ CL h' x o X (dnJ X D a v) true N (lnJ X D a)) := by
  obtain ⟨K, C1, P, ⟨se0, hse0, e13⟩, C5⟩ := id C
  obtain ⟨rD, e3⟩ := C5 rfl
  have R := C.rs
  have ob := K.ob.1
  have W5 : dW D ≤ 5 := nB W
  have W4 := W.1.1.2.1
  have Wse := W.1.1.2.2.2.1
  have w7 := W.1.1.2.2.2.2.2.2.1
  have wS := W.1.1.2.2.2.2.2.2.2.2.2.2.2.2
  have eS : hI h o 13 = nI (dSe D) := rD.1.2.1.2.2.2.2.2.2
  have lE : lnJ X D a = if decide (∀ k, k < dSe D → dSd D k ≠ tN X (j2 X D a).2) = true then cW X 1 99 (j2 X D a) else cG 3 (j2 X D a).2 (cW X 1 99 (j2 X D a)) := by
    unfold lnJ
    exact cS_ck' (by decide) cH_2
  have go41 : ∀ h1 c1, RS h h1 x o X c1 → c1 = cCk (decide (dSu D ≠ 0)) 6 (cCk (decide (dSe D ≠ 5)) 5 (0, a)) → Ok (b_R_readSeen_41 (x + 2) (nI v) h1) (fun _ h' => Fr (SX x o) h h' ∧ CL h' x o X (dnJ X D a v) true N (lnJ X D a)) := by
    intro h1 c1 R1 ec
    subst ec
    unfold b_R_readSeen_41
    refine k_step R1 (fun h2 R2 _ => ?_)
    refine k_pass 23 R2 (by decide) (by decide) (fun h3 R3 => ?_)
    change RS h h3 x o X (j2 X D a) at R3
    refine k_whole 1 99 R3 (by decide) (by decide) (fun _ => ⟨rfl, rfl⟩) (fun v6 h5 R5 hr6 => ?_)
    have ze : (cW X 1 99 (j2 X D a)).1 = 0 → dSe D < 5 := fun z => by
      have z1 := cS_z (cP_z (cW_z z).1).1
      obtain ⟨z2, -, -⟩ := cCk_z (by decide) z1
      obtain ⟨-, z3, -⟩ := cCk_z (by decide) z2
      have := of_decide_eq_true z3
      omega
    refine ok_lt (ok_up (dSe D) (fun i st h' => st = (x + 2, nI v, v6, nI i) ∧ ∃ ci, RS h h' x o X ci ∧ (ci.1 = 0 → hI h' (x + 2) 11 = nI (j2 X D a).2) ∧ ci = if decide (∀ k, k < i → dSd D k ≠ tN X (j2 X D a).2) = true then cW X 1 99 (j2 X D a) else cG 3 (j2 X D a).2 (cW X 1 99 (j2 X D a))) ?_ FU 0 _ _ (Nat.zero_le _) ⟨rfl, _, R5, fun z => (hr6 z).2, by rw [decide_eq_true (fun k hk => absurd hk (Nat.not_lt_zero _))]; rfl⟩ (by show _ < 10000; omega))
    intro k i st h6 hi hI' kk
    obtain ⟨rfl, ci, R6, h11, eci⟩ := hI'
    show Ok (b_R_readSeen_62 k (x + 2) (nI v) v6 (nI i) h6) _
    obtain ⟨ob6, s6, r6⟩ := R6.2.1.ob
    have L := R6.2.1.2.2.2.2.2.2.2.2.1
    have r := rD.sq (x := x) (R6.1.mono (fun _ _ e => SR_SQ e)) ob W5
    have eS6 : hI h6 o 13 = nI (dSe D) := r.1.2.1.2.2.2.2.2.2
    unfold b_R_readSeen_62 b_R_readSeen_95
    refine ok_gd R6.s (ok_bR r6 (ok_gd s6 (ok_lt ?_)))
    rw [eS6]
    refine ok_it hi (by omega) (fun g => ?_) (fun g => ?_)
    · subst g
      rw [← lE] at eci
      subst eci
      refine ok_gd R6.s (ok_lt (k_ft R6 (fun z => ?_) (fun z => ok_ret (C.ers R6 z))))
      have zW : (cW X 1 99 (j2 X D a)).1 = 0 ∧ lnJ X D a = cW X 1 99 (j2 X D a) := by
        rw [lE] at z ⊢
        split at z
        · next y => rw [if_pos y]; exact ⟨z, rfl⟩
        · exfalso
          unfold cG at z
          split at z
          · cases z
          · next y => exact y z
      have s5 := ze zW.1
      have u6 := (hr6 zW.1).1
      refine ok_gd R6.s (ok_bR r6 (ok_gd s6 (ok_bR L.2.1.2.2.2.2.2.2.2.1 (ok_gd R6.s (ok_bR r6 (ok_gd s6 (ok_lt ?_)))))))
      rw [eS6]
      refine ok_gd (ai_of L.2.2.2.2.2.1 s5 (by decide)) (ok_lt ?_)
      rw [nI_clamp (by omega)]
      refine ok_gd (by exact R6.s) (ok_bR (by exact r6) (ok_gd (by exact s6) (ok_bR (by exact L.2.1.2.2.2.2.2.2.2.2) (ok_gd (by exact R6.s) (ok_bR (by exact r6) (ok_gd (by exact s6) (ok_lt ?_)))))))
      rw [hI_uIa (by omega), eS6]
      refine ok_gd ⟨by unfold zb; rcases (show v = 0 ∨ v = 1 by omega) with q | q <;> rw [q] <;> decide, ai_of L.2.2.2.2.2.2.1 s5 (by decide)⟩ (ok_lt ?_)
      rw [nI_clamp (by omega)]
      refine ok_gd (by exact R6.s) (ok_bR (by exact r6) (ok_gd (by exact s6) (ok_lt (ok_gd (by exact s6) (ok_lt (ok_ret ?_))))))
      rw [hI_uIa (by omega), hI_uIa (by omega), eS6, nI_1]
      have FB : Fr (fun b j => ((b = o + 8 ∨ b = o + 9) ∧ j = dSe D) ∨ (b = o ∧ j = 13)) h6 (uI (uI (uI h6 (o + 8) (dSe D) v6) (o + 9) (dSe D) (nI v)) o 13 (nI (dSe D + 1))) := ((fr_uI (Or.inl ⟨Or.inl rfl, rfl⟩)).trans (fr_uI (Or.inl ⟨Or.inr rfl, rfl⟩))).trans (fr_uI (Or.inr ⟨rfl, rfl⟩))
      have R16 := R6.w FB (fun b k e => ⟨by unfold SX; omega, by omega⟩)
      refine ⟨R6.fx.trans (FB.mono (fun b k e => by unfold SX; omega)), R16.2.1, R16.2.2, (P.rs R6 (fun _ => rfl)).fr FB (fun e => e) (by omega) (fun k => by omega) (fun k => by omega) (fun k => by omega), ⟨dSe D + 1, by omega, hI_uIs⟩, fun _ => ⟨?_, ?_⟩⟩
      · refine r.seen R16.2.1.2.2.2.2.2.2.2.2.1 FB W5 W4 ?_ ?_ hI_uIs
        · rw [hI_uIa (by omega), hI_uIa (by omega), hI_uIs]
          exact u6
        · rw [hI_uIa (by omega), hI_uIs]
      · rw [(FB.2.2.2 _ _ (by omega)).1, (R6.1.2.2.2 _ _ (by unfold SR; omega)).1]; exact e3
    · refine ok_gd R6.s (ok_bR r6 (ok_gd s6 (ok_bR L.2.1.2.2.2.2.2.2.2.1 (ok_gd (ai_of L.2.2.2.2.2.1 (by omega) (by decide)) (ok_lt ?_)))))
      rw [nI_clamp (by omega), (r.1.2.2.2.2.2.2 i g).1, nI_1]
      have b15 := wS i g
      by_cases zW : (cW X 1 99 (j2 X D a)).1 = 0
      · have u6 := (hr6 zW).1
        have tl := (cW_z zW).2.2.2.1
        rw [u6]
        refine ok_ieq (by omega) (by omega) (fun y => ?_) (fun y => ?_)
        · refine ok_gd R6.s (ok_lt (k_fail (p := (j2 X D a).2) R6 rfl (by decide) (by decide) h11 (fun h7 R7 => kk _ _ g ⟨by rw [u6], _, R7, fun z => ?_, ?_⟩)))
          · exfalso
            unfold cG at z
            split at z
            · cases z
            · next w => exact w z
          · rw [decide_eq_false (fun q => q i (by omega) y), eci]
            show cG 3 _ _ = cG 3 _ _
            split
            · rfl
            · exact cG_cG (by decide)
        · refine kk _ _ g ⟨by rw [u6], ci, R6, h11, ?_⟩
          rw [eci]
          congr 1
          refine propext ?_
          simp only [decide_eq_true_eq]
          exact ⟨fun q k hk => by
            by_cases w : k = i
            · rw [w]; exact y
            · exact q k (by omega), fun q k hk => q k (by omega)⟩
      · have ee : ∀ j, (if decide (∀ k, k < j → dSd D k ≠ tN X (j2 X D a).2) = true then cW X 1 99 (j2 X D a) else cG 3 (j2 X D a).2 (cW X 1 99 (j2 X D a))) = cW X 1 99 (j2 X D a) := fun j => by
          split
          · rfl
          · exact cG_n zW
        rw [ee] at eci
        subst eci
        refine ok_ite (fun _ => ok_gd R6.s (ok_lt (k_fail (p := (j2 X D a).2) R6 rfl (by decide) (by decide) h11 (fun h7 R7 => kk _ _ g ⟨rfl, cW X 1 99 (j2 X D a), ?_, fun z => absurd z zW, (ee _).symm⟩)))) (fun _ => kk _ _ g ⟨rfl, _, R6, h11, (ee _).symm⟩)
        rw [cG_n zW] at R7
        exact R7
  have go20 : ∀ h1 c1, RS h h1 x o X c1 → c1 = cCk (decide (dSe D ≠ 5)) 5 (0, a) → Ok (b_R_readSeen_20 (x + 2) (nI v) h1) (fun _ h' => Fr (SX x o) h h' ∧ CL h' x o X (dnJ X D a v) true N (lnJ X D a)) := by
    intro h1 c1 R1 ec
    subst ec
    obtain ⟨ob1, s1, r1⟩ := R1.2.1.ob
    have r := rD.sq (x := x) (R1.1.mono (fun _ _ e => SR_SQ e)) ob W5
    unfold b_R_readSeen_20
    refine ok_gd R1.s (ok_bR r1 (ok_gd s1 (ok_lt ?_)))
    rw [r.1.2.1.2.2.2.2.2.1]
    refine ok_ix (by omega) (fun g => k_at R1 rfl (by decide) (by decide) (fun h2 R2 => go41 h2 _ R2 ?_)) (fun g => go41 h1 _ R1 ?_)
    · rw [decide_eq_false (p := dSu D ≠ 0) (fun q => q g)]; rfl
    · rw [decide_eq_true (p := dSu D ≠ 0) g]; rfl
  unfold f_R_readSeen
  obtain ⟨ob0, s0', r0⟩ := K.ob
  refine ok_gd R.s (ok_bR r0 (ok_gd s0' (ok_lt ?_)))
  rw [eS]
  refine ok_ilt (b := 5) (by omega) (by decide) (fun g => go20 h _ R ?_) (fun g => k_at R rfl (by decide) (by decide) (fun h1 R1 => go20 h1 _ R1 ?_))
  · rw [decide_eq_true (by omega)]; rfl
  · rw [decide_eq_false (by omega)]; rfl
end L4
