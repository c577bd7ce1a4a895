/-! the reference's reader: gone, suspect, sky -/
section G4
variable {S : Nat → Nat → Prop} {h0 h h' h1 : Hp} {m q a : Nat} {X : TX} {c c' c1 : CU} {N : NN} {D : DD} {br : Bool}
theorem RdQ.gone {w t : Nat} (R : RdQ h q D br) (F : Fr (fun u j => (u = q ∧ j = 3) ∨ (u = q + 5 ∧ j = w)) h h') (hw : w < dW D) (e5 : hL h' (q + 5) w = dG D w ||| ((1 : Int64) <<< ((nI t).toInt64 &&& 63))) (e3 : hI h' q 3 = nI (sumN (dGc D) (dW D) + 1)) : RdQ h' q (goD D w t) br := by
  obtain ⟨⟨l1, l2, l3⟩, ⟨p0, p1, p2, p3, p4, p5, p6, p7, p8⟩, r1, r2, r3, r4, r5, r6, r7⟩ := R
  have ii : ∀ i j, 1 ≤ i → i ≠ 5 → hI h' (q + i) j = hI h (q + i) j := fun i j hi h5 => (F.2.2.2 _ _ (by omega)).1
  have i0 : ∀ j, j ≠ 3 → hI h' q j = hI h q j := fun j hj => (F.2.2.2 _ _ (by omega)).1
  have il : ∀ j, j ≠ w → hL h' (q + 5) j = hL h (q + 5) j := fun j hj => (F.2.2.2 _ _ (by omega)).2.1
  have ir : ∀ j, j ≠ 3 → hR h' q j = hR h q j := fun j hj => (F.2.2.2 _ _ (by omega)).2.2
  have ex : ∀ f' w', dX (goD D w t) f' w' = dX D f' w' := fun f' w' => by
    show (ds D 5 w (dGc D w + 1)).1 (6 + f') w' = D.1 (6 + f') w'
    rw [ds_n (by omega)]
  refine ⟨?_, ⟨?_, ?_, ?_, ?_, ?_, ?_, ?_, ?_, ?_⟩, fun w' hw' => ?_, fun w' h1 h2 => ?_, fun f w hf hw => ?_, fun f hf => ?_, fun f hf hz => ?_, fun k hk => ?_, fun k hk => ?_⟩
  · unfold LayQ
    rw [F.2.1]
    exact ⟨l1, fun i hi => by rw [ir _ (by omega)]; exact l2 i hi, l3⟩
  · rw [i0 _ (by decide)]; exact p0
  · rw [i0 _ (by decide)]; exact p1
  · rw [i0 _ (by decide)]; exact p2
  · rw [e3]
    refine congrArg nI ?_
    refine (sumN_u (f := dGc D) (g := dGc (goD D w t)) (w := w) ?_ (dW D) hw (fun k _ hk => ?_)).symm
    · exact ds_s
    · exact ds_n (by omega)
  · rw [i0 _ (by decide)]; exact p4
  · rw [i0 _ (by decide)]; exact p5
  · rw [i0 _ (by decide)]; exact p6
  · rw [i0 _ (by decide)]; exact p7
  · rw [i0 _ (by decide)]; exact p8
  · have q0 := r1 w' hw'
    rw [ii 1 _ (by decide) (by decide), ii 2 _ (by decide) (by decide), ii 3 _ (by decide) (by decide), ii 4 _ (by decide) (by decide)]
    refine ⟨q0.1, q0.2.1, q0.2.2.1, q0.2.2.2.1, ?_⟩
    by_cases z : w' = w
    · rw [z, e5]; exact (if_pos rfl).symm
    · rw [il w' z]; exact q0.2.2.2.2.trans (if_neg z).symm
  · have h1' : dW D ≤ w' := h1
    rw [il w' (by omega)]; exact r2 w' h1' h2
  · rw [ii 7 _ (by decide) (by decide), ii 6 _ (by decide) (by decide), ex]; exact r3 f w hf hw
  · rw [ii 8 _ (by decide) (by decide)]; exact r4 f hf
  · rw [ii 9 _ (by decide) (by decide)]; exact r5 f hf hz
  · rw [ii 10 _ (by decide) (by decide), ii 11 _ (by decide) (by decide), ii 12 _ (by decide) (by decide)]; exact r6 k hk
  · rw [ii 13 _ (by decide) (by decide), ii 14 _ (by decide) (by decide)]; exact r7 k hk
theorem lb_01 : cS X (cCk br 6 (cCk (decide ((0 : Nat) ≠ 1)) 5 (0, a))) = l0 X br a := rfl
theorem ok_m_gone (C : GL h m q X D br N (0, a)) (W : WfR D br N) (hw : isW X 5 a = true) : Ok (f_m_readGone m h) (fun _ h' => Fr (SZ m q) h h' ∧ GL h' m q X (dnG X D N br a) br N (lnG X D N br a)) := by
  have R := C.gs
  obtain ⟨P, rQ⟩ := C.2.2 rfl
  have qb := R.qb
  have hO := W.1.1.2.2.2.2.1
  have W5 := W.1.1.1
  have W4 := W.1.1.2.1
  have w7 := W.1.1.2.2.2.2.2.2.1
  unfold f_m_readGone
  refine j_begins 0 1 R rQ hO (isW_5 hw) (by decide) (by decide) rfl rfl (fun h3 R3 => ?_)
  rw [lb_01] at R3
  refine j_known 0 R3 (P.gs R3) (by decide) rfl (fun v h4 R4 hr => ?_)
  have kz : (cK X N 0 (l0 X br a)).1 = 0 → v = nI (gW X N br a) ∧ gW X N br a < dW D ∧ br = true ∧ tS X (l0 X br a).2 = 1 := fun z => by
    have z1 := cK_z z
    exact ⟨hr z, (isK_n z1.2.2.1 W).1 rfl, l0_z z1.1, isNm_w z1.2.1⟩
  have go124 : ∀ h6 (v2 : Int32), GS h h6 m q X (cCk (!gb (dG D (gW X N br a)) (gT' X D N br a)) 3 (cH X 0 (dT D (gW X N br a) - 1) (g5 X D N br a))) → ((cH X 0 (dT D (gW X N br a) - 1) (g5 X D N br a)).1 = 0 → v2 = nI (gT' X D N br a)) → Ok (b_m_readGone_124 m v v2 h6) (fun _ h' => Fr (SZ m q) h h' ∧ GL h' m q X (dnG X D N br a) br N (lnG X D N br a)) := by
    intro h6 v2 R6 hv2
    unfold b_m_readGone_124
    refine j_on R6 (fun z => ?_) (fun h7 R7 => ?_)
    · obtain ⟨z1, z2, z3⟩ := cCk_z (by decide) z
      have z4 := cH_z z1
      rw [z3, z4.2.2.2.2]
      omega
    change GS h h7 m q X (lnG X D N br a) at R7
    refine ok_gd R7.s (ok_lt (j_st R7 (fun e => ok_ret (R7.er e)) (fun e => ?_)))
    obtain ⟨z1, z2, z3⟩ := cCk_z (by decide) (cS_z e)
    have z4 := cH_z z1
    obtain ⟨y1, y2, y3⟩ := cCk_z (by decide) (cS_z z4.1)
    obtain ⟨x1, x2, x3⟩ := cCk_z (by decide) y1
    obtain ⟨u1, wl, hb, -⟩ := kz x1
    have u2 := hv2 z1
    subst u1
    subst u2
    have rQ7 := rQ.gs R7
    have L := rQ7.1
    have b1 := L.1
    have d4 : hR h7 q 14 = some (q + 5) := L.2.1 4 (by decide)
    have t4 : hS h7 (q + 5) = some (.inr (1, 5)) := L.2.2.2.1
    have w5 : gW X N br a < 5 := by omega
    refine ok_gd R7.s (ok_bR R7.h4 (ok_gd b1 (ok_bR d4 (ok_gd (ai_of t4 w5 (by decide)) (ok_lt (ok_gd (ai_of t4 w5 (by decide)) (ok_lt ?_)))))))
    rw [nI_clamp (by omega), (rQ7.2.2.1 _ wl).2.2.2.2]
    refine ok_gd (by exact R7.s) (ok_bR (by exact R7.h4) (ok_gd (by exact b1) (ok_lt (ok_gd (by exact b1) (ok_lt (ok_ret ?_))))))
    rw [hI_uL, rQ7.2.1.2.2.2.1, nI_1]
    have FB : Fr (fun u j => (u = q ∧ j = 3) ∨ (u = q + 5 ∧ j = gW X N br a)) h7 (uI (uL h7 (q + 5) (gW X N br a) (dG D (gW X N br a) ||| ((1 : Int64) <<< ((nI (gT' X D N br a)).toInt64 &&& 63)))) q 3 (nI (sumN (dGc D) (dW D) + 1))) := (fr_uL (Or.inr ⟨rfl, rfl⟩)).trans (fr_uI (Or.inl ⟨rfl, rfl⟩))
    have R8 := R7.w FB (fun b k e => by omega)
    refine ⟨R7.fx.trans (FB.mono (fun b k e => by unfold SZ; omega)), R8.2.1, R8.2.2, fun _ => ⟨(P.gs R7).fr FB (by omega) (fun k => by omega) (fun k => by omega) (fun k => by omega), rQ7.gone FB wl ?_ hI_uIs⟩⟩
    rw [hL_uI, hL_uLs]
  have go94 : ∀ h6 (s0' : Int32), GS h h6 m q X (g5 X D N br a) → ((g5 X D N br a).1 = 0 → s0' = nI (dT D (gW X N br a) - 1) ∧ dT D (gW X N br a) - 1 < 2 ^ 31) → Ok (b_m_readGone_94 m v s0' 0 m h6) (fun _ h' => Fr (SZ m q) h h' ∧ GL h' m q X (dnG X D N br a) br N (lnG X D N br a)) := by
    intro h6 s0' R6 hv
    unfold b_m_readGone_94
    refine j_hand' 0 (dT D (gW X N br a) - 1) R6 (by decide) (fun z => (hv z).2) (fun z => ⟨rfl, (hv z).1⟩) (fun v2 h7 R7 hr2 => ?_)
    refine ok_gd R7.s (ok_lt (j_st R7 (fun e => go124 h7 _ (by rw [cCk_n e]; exact R7) (fun z => absurd z e)) (fun e => ?_)))
    have u2 := hr2 e
    have z4 := cH_z e
    obtain ⟨y1, y2, y3⟩ := cCk_z (by decide) (cS_z z4.1)
    obtain ⟨x1, x2, x3⟩ := cCk_z (by decide) y1
    obtain ⟨u1, wl, hb, -⟩ := kz x1
    have rQ7 := rQ.gs R7
    rw [hb] at rQ7
    have hR := rQ7.rep W5 W4
    refine ok_gd R7.s (ok_bR R7.h4 (ok_gd rQ7.1.1 ?_))
    rw [u1, u2]
    refine ok_bde (e_n_isGone hR wl (by omega) _) ?_
    cases gg : gb (dG D (gW X N br a)) (tN X (g5 X D N br a).2) with
    | true =>
      refine ok_f (by decide) (j_flaw R7 rfl (by decide) (by decide) (fun h8 R8 => ?_))
      have := go124 h8 (nI (gT' X D N br a)) (by unfold cCk; rw [show gb (dG D (gW X N br a)) (gT' X D N br a) = true from gg]; exact R8) (fun _ => rfl)
      rw [u1] at this
      exact this
    | false =>
      refine ok_t rfl ?_
      have := go124 h7 (nI (gT' X D N br a)) (by unfold cCk; rw [show gb (dG D (gW X N br a)) (gT' X D N br a) = false from gg]; exact R7) (fun _ => rfl)
      rw [u1] at this
      exact this
  have go64 : ∀ h6, GS h h6 m q X (cCk (decide (dSu D ≠ gW X N br a + 1)) 7 (cCk (decide (dGc D (gW X N br a) ≠ 2)) 5 (cK X N 0 (l0 X br a)))) → Ok (b_m_readGone_64 m v h6) (fun _ h' => Fr (SZ m q) h h' ∧ GL h' m q X (dnG X D N br a) br N (lnG X D N br a)) := by
    intro h6 R6
    unfold b_m_readGone_64
    have cz : ∀ {c0 : CU}, c0 = (cCk (decide (dSu D ≠ gW X N br a + 1)) 7 (cCk (decide (dGc D (gW X N br a) ≠ 2)) 5 (cK X N 0 (l0 X br a)))) → c0.1 = 0 → (cK X N 0 (l0 X br a)).1 = 0 := fun e z => by
      rw [e] at z
      obtain ⟨y1, -, -⟩ := cCk_z (by decide) z
      exact (cCk_z (by decide) y1).1
    refine j_on R6 (fun z => ?_) (fun h7 R7 => ?_)
    · rw [cCk_2, cCk_2, cK_2]
      have := (kz (cz rfl z)).2.2.2
      omega
    change GS h h7 m q X (g5 X D N br a) at R7
    refine ok_gd R7.s (ok_lt (j_st R7 (fun e => go94 h7 _ R7 (fun z => absurd z e)) (fun e => ?_)))
    obtain ⟨u1, wl, hb, -⟩ := kz (cz rfl (cS_z e))
    have rQ7 := rQ.gs R7
    have L := rQ7.1
    have d1 : hR h7 q 11 = some (q + 2) := L.2.1 1 (by decide)
    have t1 : hS h7 (q + 2) = some (.inr (0, 5)) := L.2.2.1 1 (by decide)
    have hT := W.1.1.2.2.2.2.2.2.2.1 _ wl
    have w5 : gW X N br a < 5 := by omega
    rw [u1]
    refine ok_gd R7.s (ok_bR R7.h4 (ok_gd L.1 (ok_bR d1 (ok_gd (ai_of t1 w5 (by decide)) (ok_lt ?_)))))
    rw [nI_clamp (by omega), (rQ7.2.2.1 _ wl).2.1, nI_s (by omega)]
    have := go94 h7 (nI (dT D (gW X N br a) - 1)) R7 (fun _ => ⟨rfl, by omega⟩)
    rw [u1] at this
    exact this
  have go38 : ∀ h6, GS h h6 m q X (cCk (decide (dGc D (gW X N br a) ≠ 2)) 5 (cK X N 0 (l0 X br a))) → Ok (b_m_readGone_38 m v h6) (fun _ h' => Fr (SZ m q) h h' ∧ GL h' m q X (dnG X D N br a) br N (lnG X D N br a)) := by
    intro h6 R6
    unfold b_m_readGone_38
    refine ok_gd R6.s (ok_lt (j_st R6 (fun e => go64 h6 (by rw [cCk_n e]; exact R6)) (fun e => ?_)))
    obtain ⟨u1, wl, hb, -⟩ := kz (cCk_z (by decide) e).1
    have rQ6 := rQ.gs R6
    refine ok_gd R6.s (ok_bR R6.h4 (ok_gd rQ6.1.1 (ok_lt ?_)))
    rw [rQ6.2.1.2.2.2.2.2.2.2.1]
    refine ok_ite (fun g => j_flaw R6 rfl (by decide) (by decide) (fun h7 R7 => go64 h7 ?_)) (fun g => go64 h6 ?_)
    · rw [u1] at g
      have g2 := xI_inj (by omega) (by omega) g
      have : cCk (decide (dSu D ≠ gW X N br a + 1)) 7 (cCk (decide (dGc D (gW X N br a) ≠ 2)) 5 (cK X N 0 (l0 X br a))) = cF 7 (cCk (decide (dGc D (gW X N br a) ≠ 2)) 5 (cK X N 0 (l0 X br a))) := by
        rw [decide_eq_false (p := dSu D ≠ gW X N br a + 1) (fun z => z g2)]
        rfl
      rw [this]
      exact R7
    · have g2 : dSu D ≠ gW X N br a + 1 := fun z => g (by rw [u1, z, xI_s])
      have : cCk (decide (dSu D ≠ gW X N br a + 1)) 7 (cCk (decide (dGc D (gW X N br a) ≠ 2)) 5 (cK X N 0 (l0 X br a))) = cCk (decide (dGc D (gW X N br a) ≠ 2)) 5 (cK X N 0 (l0 X br a)) := by
        rw [decide_eq_true (p := dSu D ≠ gW X N br a + 1) g2]
        rfl
      rw [this]
      exact R6
  refine ok_gd R4.s (ok_lt (j_st R4 (fun e => go38 h4 (by rw [cCk_n e]; exact R4)) (fun e => ?_)))
  obtain ⟨u1, wl, hb, -⟩ := kz e
  have rQ4 := rQ.gs R4
  rw [hb] at rQ4
  have hT := W.1.1.2.2.2.2.2.2.2.1 _ wl
  refine ok_gd R4.s (ok_bR R4.h4 (ok_gd rQ4.1.1 ?_))
  rw [u1]
  refine ok_bde (e_n_manyGone (rQ4.rep W5 W4) W.1.1 wl) ?_
  rw [← W.1.2.2 _ wl]
  have g38 := go38
  rw [u1] at g38
  refine ok_ieq (b := 2) (by omega) (by decide) (fun g => j_flaw R4 rfl (by decide) (by decide) (fun h7 R7 => g38 h7 ?_)) (fun g => g38 h4 ?_)
  · unfold cCk
    rw [decide_eq_false (fun z => z g)]
    exact R7
  · unfold cCk
    rw [decide_eq_true g]
    exact R4
theorem RdQ.susp {w : Nat} (R : RdQ h q D br) (F : Fr (fun u j => u = q ∧ j = 7) h h') (e7 : hI h' q 7 = nI w) : RdQ h' q (ds D 0 5 (w + 1)) br := by
  obtain ⟨⟨l1, l2, l3⟩, ⟨p0, p1, p2, p3, p4, p5, p6, p7, p8⟩, r1, r2, r3, r4, r5, r6, r7⟩ := R
  have ii : ∀ i j, 1 ≤ i → hI h' (q + i) j = hI h (q + i) j := fun i j hi => (F.2.2.2 _ _ (by omega)).1
  have i0 : ∀ j, j ≠ 7 → hI h' q j = hI h q j := fun j hj => (F.2.2.2 _ _ (by omega)).1
  have il : ∀ j, hL h' (q + 5) j = hL h (q + 5) j := fun j => (F.2.2.2 _ _ (by omega)).2.1
  have ir : ∀ j, j ≠ 7 → hR h' q j = hR h q j := fun j hj => (F.2.2.2 _ _ (by omega)).2.2
  have ex : ∀ f' w', dX (ds D 0 5 (w + 1)) f' w' = dX D f' w' := fun f' w' => ds_n (by omega)
  refine ⟨?_, ⟨?_, ?_, ?_, ?_, ?_, ?_, ?_, ?_, ?_⟩, fun w' hw' => ?_, fun w' h1 h2 => ?_, fun f w hf hw => ?_, fun f hf => ?_, fun f hf hz => ?_, fun k hk => ?_, fun k hk => ?_⟩
  · unfold LayQ
    rw [F.2.1]
    exact ⟨l1, fun i hi => by rw [ir _ (by omega)]; exact l2 i hi, l3⟩
  · rw [i0 _ (by decide)]; exact p0
  · rw [i0 _ (by decide)]; exact p1
  · rw [i0 _ (by decide)]; exact p2
  · rw [i0 _ (by decide)]; exact p3
  · rw [i0 _ (by decide)]; exact p4
  · rw [i0 _ (by decide)]; exact p5
  · rw [i0 _ (by decide)]; exact p6
  · rw [e7]; exact (xI_s w).symm
  · rw [i0 _ (by decide)]; exact p8
  · rw [ii 1 _ (by decide), ii 2 _ (by decide), ii 3 _ (by decide), ii 4 _ (by decide), il]; exact r1 w' hw'
  · rw [il]; exact r2 w' h1 h2
  · rw [ii 7 _ (by decide), ii 6 _ (by decide), ex]; exact r3 f w hf hw
  · rw [ii 8 _ (by decide)]; exact r4 f hf
  · rw [ii 9 _ (by decide)]; exact r5 f hf hz
  · rw [ii 10 _ (by decide), ii 11 _ (by decide), ii 12 _ (by decide)]; exact r6 k hk
  · rw [ii 13 _ (by decide), ii 14 _ (by decide)]; exact r7 k hk
theorem gG0 (W : WfR D br N) {w : Nat} (hw : w < dW D) : (dG D w = 0) ↔ dGc D w = 0 := by
  have hT := W.1.1.2.2.2.2.2.2.2.1 _ hw
  constructor
  · intro e
    rw [W.1.2.2 w hw, e, cnt_0 (by omega)]
  · exact W.2.2.2.2.2.1 w hw
theorem ok_m_suspect (C : GL h m q X D br N (0, a)) (W : WfR D br N) (hw : isW X 9 a = true) : Ok (f_m_readSuspect m h) (fun _ h' => Fr (SZ m q) h h' ∧ GL h' m q X (dnU X D N br a) br N (lnU X D N br a)) := by
  have R := C.gs
  obtain ⟨P, rQ⟩ := C.2.2 rfl
  have qb := R.qb
  have hO := W.1.1.2.2.2.2.1
  have W5 := W.1.1.1
  have W4 := W.1.1.2.1
  have w7 := W.1.1.2.2.2.2.2.2.1
  have go16 : ∀ h1 c1, GS h h1 m q X c1 → c1 = cCk (decide (dSu D = 0)) 3 (0, a) → Ok (b_m_readSuspect_16 m h1) (fun _ h' => Fr (SZ m q) h h' ∧ GL h' m q X (dnU X D N br a) br N (lnU X D N br a)) := by
    intro h1 c1 R1 ec
    subst ec
    unfold b_m_readSuspect_16
    refine j_begins 0 1 R1 (rQ.gs R1) hO (by rw [cCk_2]; exact isW_5 hw) (by decide) (by decide) rfl rfl (fun h3 R3 => ?_)
    change GS h h3 m q X (s0 X D br a) at R3
    refine j_known 0 R3 (P.gs R3) (by decide) rfl (fun v h4 R4 hr => ?_)
    have kz : (cK X N 0 (s0 X D br a)).1 = 0 → v = nI (kn N (tW X (s0 X D br a).2)) ∧ kn N (tW X (s0 X D br a).2) < dW D ∧ tS X (s0 X D br a).2 = 1 := fun z => by
      have z1 := cK_z z
      exact ⟨hr z, (isK_n z1.2.2.1 W).1 rfl, isNm_w z1.2.1⟩
    have go57 : ∀ h6, GS h h6 m q X (cCk (decide (dGc D (kn N (tW X (s0 X D br a).2)) = 0)) 7 (cK X N 0 (s0 X D br a))) → Ok (b_m_readSuspect_57 m v h6) (fun _ h' => Fr (SZ m q) h h' ∧ GL h' m q X (dnU X D N br a) br N (lnU X D N br a)) := by
      intro h6 R6
      unfold b_m_readSuspect_57
      refine j_on R6 (fun z => ?_) (fun h7 R7 => ?_)
      · rw [cCk_2, cK_2]
        have := (kz (cCk_z (by decide) z).1).2.2
        omega
      change GS h h7 m q X (lnU X D N br a) at R7
      refine ok_gd R7.s (ok_lt (j_st R7 (fun e => ok_ret (R7.er e)) (fun e => ?_)))
      obtain ⟨u1, wl, -⟩ := kz (cCk_z (by decide) (cS_z e)).1
      have rQ7 := rQ.gs R7
      refine ok_gd R7.s (ok_bR R7.h4 (ok_gd rQ7.1.1 (ok_lt (ok_ret ?_))))
      have FB : Fr (fun u j => u = q ∧ j = 7) h7 (uI h7 q 7 v) := fr_uI ⟨rfl, rfl⟩
      have R8 := R7.w FB (fun b k e => by omega)
      exact ⟨R7.fx.trans (FB.mono (fun b k e => by unfold SZ; omega)), R8.2.1, R8.2.2, fun _ => ⟨(P.gs R7).fr FB (by omega) (fun k => by omega) (fun k => by omega) (fun k => by omega), rQ7.susp FB (by rw [hI_uIs, u1])⟩⟩
    refine ok_gd R4.s (ok_lt (j_st R4 (fun e => go57 h4 (by rw [cCk_n e]; exact R4)) (fun e => ?_)))
    obtain ⟨u1, wl, -⟩ := kz e
    have rQ4 := rQ.gs R4
    have L := rQ4.1
    have d4 : hR h4 q 14 = some (q + 5) := L.2.1 4 (by decide)
    have t4 : hS h4 (q + 5) = some (.inr (1, 5)) := L.2.2.2.1
    have w5 : kn N (tW X (s0 X D br a).2) < 5 := by omega
    have g57 := go57
    rw [u1] at g57 ⊢
    refine ok_gd R4.s (ok_bR R4.h4 (ok_gd L.1 (ok_bR d4 (ok_gd (ai_of t4 w5 (by decide)) (ok_lt ?_)))))
    rw [nI_clamp (by omega), (rQ4.2.2.1 _ wl).2.2.2.2]
    refine ok_ite (fun g => g57 h4 ?_) (fun g => j_flaw R4 rfl (by decide) (by decide) (fun h7 R7 => g57 h7 ?_))
    · have g2 := (gG0 W wl).mp ((lg_cmp_eq _ _).mp g)
      unfold cCk
      rw [decide_eq_true g2]
      exact R4
    · have g2 : ¬ dGc D (kn N (tW X (s0 X D br a).2)) = 0 := fun z => g ((lg_cmp_eq _ _).mpr ((gG0 W wl).mpr z))
      unfold cCk
      rw [decide_eq_false g2]
      exact R7
  unfold f_m_readSuspect
  refine ok_gd R.s (ok_bR R.h4 (ok_gd rQ.1.1 (ok_lt ?_)))
  rw [rQ.2.1.2.2.2.2.2.2.2.1]
  refine ok_ix (by omega) (fun g => go16 h _ R ?_) (fun g => j_flaw R rfl (by decide) (by decide) (fun h1 R1 => go16 h1 _ R1 ?_))
  · rw [decide_eq_true g]; rfl
  · rw [decide_eq_false g]; rfl
theorem RdQ.sky {f p r : Nat} (R : RdQ h q D br) (F : Fr (fun u j => (u = q ∧ j = 6) ∨ ((u = q + 8 ∨ u = q + 9) ∧ j = f)) h h') (hf : f < dF D) (hF : dF D ≤ 4) (h0 : dEv D f = 0) (hp : 1 ≤ p) (e8 : hI h' (q + 8) f = nI p) (e9 : hI h' (q + 9) f = nI r) (e6 : hI h' q 6 = nI (sumN (fun f => if dEv D f = 0 then 0 else 1) (dF D) + 1)) : RdQ h' q (ds (ds D 13 f p) 14 f r) br := by
  obtain ⟨⟨l1, l2, l3⟩, ⟨p0, p1, p2, p3, p4, p5, p6, p7, p8⟩, r1, r2, r3, r4, r5, r6, r7⟩ := R
  have ii : ∀ i j, 1 ≤ i → ((i ≠ 8 ∧ i ≠ 9) ∨ j ≠ f) → hI h' (q + i) j = hI h (q + i) j := fun i j hi h5 => (F.2.2.2 _ _ (by omega)).1
  have i0 : ∀ j, j ≠ 6 → hI h' q j = hI h q j := fun j hj => (F.2.2.2 _ _ (by omega)).1
  have il : ∀ j, hL h' (q + 5) j = hL h (q + 5) j := fun j => (F.2.2.2 _ _ (by omega)).2.1
  have ir : ∀ j, j ≠ 6 → hR h' q j = hR h q j := fun j hj => (F.2.2.2 _ _ (by omega)).2.2
  have ex : ∀ f' w', f' < 4 → dX (ds (ds D 13 f p) 14 f r) f' w' = dX D f' w' := fun f' w' h4 => (ds_n (by omega)).trans (ds_n (by omega))
  have ev : ∀ k, dEv (ds (ds D 13 f p) 14 f r) k = if k = f then p else dEv D k := fun k => by
    show (ds (ds D 13 f p) 14 f r).1 13 k = _
    rw [ds_n (by omega)]
    by_cases z : k = f
    · rw [z, ds_s, if_pos rfl]
    · rw [ds_n (by omega), if_neg z]
      rfl
  have fv : ∀ k, dFr (ds (ds D 13 f p) 14 f r) k = if k = f then r else dFr D k := fun k => by
    show (ds (ds D 13 f p) 14 f r).1 14 k = _
    by_cases z : k = f
    · rw [z, ds_s, if_pos rfl]
    · rw [ds_n (by omega), ds_n (by omega), if_neg z]
      rfl
  refine ⟨?_, ⟨?_, ?_, ?_, ?_, ?_, ?_, ?_, ?_, ?_⟩, fun w' hw' => ?_, fun w' h1 h2 => ?_, fun g w hg hw => ?_, fun g hg => ?_, fun g hg hz => ?_, fun k hk => ?_, fun k hk => ?_⟩
  · unfold LayQ
    rw [F.2.1]
    exact ⟨l1, fun i hi => by rw [ir _ (by omega)]; exact l2 i hi, l3⟩
  · rw [i0 _ (by decide)]; exact p0
  · rw [i0 _ (by decide)]; exact p1
  · rw [i0 _ (by decide)]; exact p2
  · rw [i0 _ (by decide)]; exact p3
  · rw [i0 _ (by decide)]; exact p4
  · rw [i0 _ (by decide)]; exact p5
  · rw [e6]
    refine congrArg nI ?_
    refine (sumN_u (f := fun f => if dEv D f = 0 then 0 else 1) (g := fun k => if dEv (ds (ds D 13 f p) 14 f r) k = 0 then 0 else 1) (w := f) ?_ (dF D) hf (fun k _ hk => ?_)).symm
    · show (if dEv (ds (ds D 13 f p) 14 f r) f = 0 then 0 else 1) = (if dEv D f = 0 then 0 else 1) + 1
      rw [ev, if_pos rfl, if_neg (by omega), if_pos h0]
    · show (if dEv (ds (ds D 13 f p) 14 f r) k = 0 then 0 else 1) = (if dEv D k = 0 then 0 else 1)
      rw [ev, if_neg hk]
  · rw [i0 _ (by decide)]; exact p7
  · rw [i0 _ (by decide)]; exact p8
  · rw [ii 1 _ (by decide) (by omega), ii 2 _ (by decide) (by omega), ii 3 _ (by decide) (by omega), ii 4 _ (by decide) (by omega), il]; exact r1 w' hw'
  · rw [il]; exact r2 w' h1 h2
  · rw [ii 7 _ (by decide) (by omega), ii 6 _ (by decide) (by omega), ex g w (Nat.lt_of_lt_of_le hg hF)]; exact r3 g w hg hw
  · rw [ev]
    by_cases z : g = f
    · rw [if_pos z, z]; exact e8
    · rw [if_neg z, ii 8 _ (by decide) (Or.inr z)]; exact r4 g hg
  · rw [ev] at hz
    rw [fv]
    by_cases z : g = f
    · rw [if_pos z, z]; exact e9
    · rw [if_neg z] at hz ⊢
      rw [ii 9 _ (by decide) (Or.inr z)]; exact r5 g hg hz
  · rw [ii 10 _ (by decide) (by omega), ii 11 _ (by decide) (by omega), ii 12 _ (by decide) (by omega)]; exact r6 k hk
  · rw [ii 13 _ (by decide) (by omega), ii 14 _ (by decide) (by omega)]; exact r7 k hk
theorem ok_m_sky (C : GL h m q X D br N (0, a)) (W : WfR D br N) (hw : isW X 8 a = true) : Ok (f_m_readSky m h) (fun _ h' => Fr (SZ m q) h h' ∧ GL h' m q X (dnY X D N br a) br N (lnY X D N br a)) := by
  have R := C.gs
  obtain ⟨P, rQ⟩ := C.2.2 rfl
  have qb := R.qb
  have hO := W.1.1.2.2.2.2.1
  have W5 := W.1.1.1
  have W4 := W.1.1.2.1
  unfold f_m_readSky
  refine j_begins 0 1 R rQ hO (isW_5 hw) (by decide) (by decide) rfl rfl (fun h3 R3 => ?_)
  rw [lb_01] at R3
  refine j_known 1 R3 (P.gs R3) (by decide) rfl (fun v h4 R4 hr => ?_)
  have kz : (cK X N 1 (l0 X br a)).1 = 0 → v = nI (gW X N br a) ∧ gW X N br a < dF D ∧ tS X (l0 X br a).2 = 1 := fun z => by
    have z1 := cK_z z
    exact ⟨hr z, (isK_n z1.2.2.1 W).2 rfl, isNm_w z1.2.1⟩
  have go38 : ∀ h6, GS h h6 m q X (cCk (decide (dEv D (gW X N br a) = 0)) 3 (cK X N 1 (l0 X br a))) → Ok (b_m_readSky_38 m v h6) (fun _ h' => Fr (SZ m q) h h' ∧ GL h' m q X (dnY X D N br a) br N (lnY X D N br a)) := by
    intro h6 R6
    unfold b_m_readSky_38
    refine j_on R6 (fun z => ?_) (fun h7 R7 => ?_)
    · rw [cCk_2, cK_2]
      have := (kz (cCk_z (by decide) z).1).2.2
      omega
    refine j_part 21 1 400 R7 (by decide) (by decide) (by decide) (by decide) (fun _ => ⟨rfl, rfl⟩) (fun v4 h8 R8 hr4 => ?_)
    refine j_part 22 0 400 R8 (by decide) (by decide) (by decide) (by decide) (fun _ => ⟨rfl, rfl⟩) (fun v6 h9 R9 hr6 => ?_)
    change GS h h9 m q X (lnY X D N br a) at R9
    refine ok_gd R9.s (ok_lt (j_st R9 (fun e => ok_ret (R9.er e)) (fun e => ?_)))
    have e8 := (cP_z (cW_z e).1).1
    have u6 := hr6 e
    have u4 := hr4 e8
    have z4 := cW_z e8
    obtain ⟨y1, y2, y3⟩ := cCk_z (by decide) (cS_z (cP_z z4.1).1)
    obtain ⟨u1, fl, -⟩ := kz y1
    have ev0 := of_decide_eq_true y2
    subst u1
    have rQ9 := rQ.gs R9
    have L := rQ9.1
    have b1 := L.1
    have d7 : hR h9 q 17 = some (q + 8) := L.2.1 7 (by decide)
    have d8 : hR h9 q 18 = some (q + 9) := L.2.1 8 (by decide)
    have t7 : hS h9 (q + 8) = some (.inr (0, 4)) := L.2.2.2.2.2.1 1 (by decide)
    have t8 : hS h9 (q + 9) = some (.inr (0, 4)) := L.2.2.2.2.2.1 2 (by decide)
    have f4 : gW X N br a < 4 := by omega
    refine ok_gd R9.s (ok_bR R9.h4 (ok_gd b1 (ok_bR d7 (ok_gd (ai_of t7 f4 (by decide)) (ok_lt ?_)))))
    rw [nI_clamp (by omega)]
    refine ok_gd (by exact R9.s) (ok_bR (by exact R9.h4) (ok_gd (by exact b1) (ok_bR (by exact d8) (ok_gd (by exact ai_of t8 f4 (by decide)) (ok_lt ?_)))))
    refine ok_gd (by exact R9.s) (ok_bR (by exact R9.h4) (ok_gd (by exact b1) (ok_lt (ok_gd (by exact b1) (ok_lt (ok_ret ?_))))))
    rw [hI_uIa (by omega), hI_uIa (by omega), rQ9.2.1.2.2.2.2.2.2.1, nI_1]
    have FB : Fr (fun u j => (u = q ∧ j = 6) ∨ ((u = q + 8 ∨ u = q + 9) ∧ j = gW X N br a)) h9 (uI (uI (uI h9 (q + 8) (gW X N br a) v4) (q + 9) (gW X N br a) v6) q 6 (nI (sumN (fun f => if dEv D f = 0 then 0 else 1) (dF D) + 1))) := ((fr_uI (Or.inr ⟨Or.inl rfl, rfl⟩)).trans (fr_uI (Or.inr ⟨Or.inr rfl, rfl⟩))).trans (fr_uI (Or.inl ⟨rfl, rfl⟩))
    have R10 := R9.w FB (fun b k e => by omega)
    refine ⟨R9.fx.trans (FB.mono (fun b k e => by unfold SZ; omega)), R10.2.1, R10.2.2, fun _ => ⟨(P.gs R9).fr FB (by omega) (fun k => by omega) (fun k => by omega) (fun k => by omega), rQ9.sky FB fl W4 ev0 z4.2.2.1 ?_ ?_ hI_uIs⟩⟩
    · rw [hI_uIa (by omega), hI_uIa (by omega), hI_uIs]; exact u4
    · rw [hI_uIa (by omega), hI_uIs]; exact u6
  refine ok_gd R4.s (ok_lt (j_st R4 (fun e => go38 h4 (by rw [cCk_n e]; exact R4)) (fun e => ?_)))
  obtain ⟨u1, fl, -⟩ := kz e
  have rQ4 := rQ.gs R4
  have L := rQ4.1
  have d7 : hR h4 q 17 = some (q + 8) := L.2.1 7 (by decide)
  have t7 : hS h4 (q + 8) = some (.inr (0, 4)) := L.2.2.2.2.2.1 1 (by decide)
  have f4 : gW X N br a < 4 := by omega
  have hev := W.1.1.2.2.2.2.2.2.2.2.2.2.2.1 _ fl
  have g38 := go38
  rw [u1] at g38 ⊢
  refine ok_gd R4.s (ok_bR R4.h4 (ok_gd L.1 (ok_bR d7 (ok_gd (ai_of t7 f4 (by decide)) (ok_lt ?_)))))
  rw [nI_clamp (by omega), rQ4.2.2.2.2.2.1 _ f4]
  refine ok_ile (b := 0) (by omega) (by decide) (fun g => g38 h4 ?_) (fun g => j_flaw R4 rfl (by decide) (by decide) (fun h7 R7 => g38 h7 ?_))
  · unfold cCk
    rw [decide_eq_true (by omega)]
    exact R4
  · unfold cCk
    rw [decide_eq_false (by omega)]
    exact R7
end G4
