/-! the reference's reader: wheel, gone, suspect -/
section G3
variable {S : Nat → Nat → Prop} {h0 h h' h1 : Hp} {m q a : Nat} {X : TX} {c c' c1 : CU} {N : NN} {D : DD} {br : Bool}
theorem RdQ.rep (R : RdQ h q D true) (hW : dW D ≤ 5) (hF : dF D ≤ 4) : RepQ h q D := by
  obtain ⟨L, ⟨p0, p1, p2, p3, p4, p5, p6, p7, p8⟩, r1, r2, r3, r4, r5, r6, r7⟩ := R
  exact ⟨L, ⟨by rw [p0, if_pos rfl], p1, p2, p3, p4, p5, p6, p7, p8⟩, r1, fun f w hf hw => r3 f w hf (by omega), fun f hf => ⟨r4 f (by omega), r5 f hf⟩, r6, r7⟩
theorem RdQ.nm (R : RdQ h q D br) (F : Fr (SNq q) h h') : RdQ h' q D br := by
  obtain ⟨⟨l1, l2, l3⟩, ⟨p0, p1, p2, p3, p4, p5, p6, p7, p8⟩, r1, r2, r3, r4, r5, r6, r7⟩ := R
  have ii : ∀ i k, i < 15 → (i = 0 → k ≠ 9) → hI h' (q + i) k = hI h (q + i) k := fun i k hi h9 => (F.2.2.2 _ _ (by unfold SNq; omega)).1
  have i0 : ∀ k, k ≠ 9 → hI h' q k = hI h q k := fun k hk => ii 0 k (by decide) (fun _ => hk)
  have il : ∀ k, hL h' (q + 5) k = hL h (q + 5) k := fun k => (F.2.2.2 _ _ (by unfold SNq; omega)).2.1
  have ir : ∀ k, k ≠ 9 → hR h' q k = hR h q k := fun k hk => (F.2.2.2 _ _ (by unfold SNq; omega)).2.2
  refine ⟨?_, ?_, fun w hw => ?_, fun w h1 h2 => ?_, fun f w hf hw => ?_, fun f hf => ?_, fun f hf hz => ?_, fun k hk => ?_, fun k hk => ?_⟩
  · unfold LayQ
    rw [F.2.1]
    exact ⟨l1, fun i hi => by rw [ir _ (by omega)]; exact l2 i hi, l3⟩
  · rw [i0 0 (by decide), i0 1 (by decide), i0 2 (by decide), i0 3 (by decide), i0 4 (by decide), i0 5 (by decide), i0 6 (by decide), i0 7 (by decide), i0 8 (by decide)]
    exact ⟨p0, p1, p2, p3, p4, p5, p6, p7, p8⟩
  · rw [ii 1 _ (by decide) (by omega), ii 2 _ (by decide) (by omega), ii 3 _ (by decide) (by omega), ii 4 _ (by decide) (by omega), il]
    exact r1 w hw
  · rw [il]; exact r2 w h1 h2
  · rw [ii 7 _ (by decide) (by omega), ii 6 _ (by decide) (by omega)]; exact r3 f w hf hw
  · rw [ii 8 _ (by decide) (by omega)]; exact r4 f hf
  · rw [ii 9 _ (by decide) (by omega)]; exact r5 f hf hz
  · rw [ii 10 _ (by decide) (by omega), ii 11 _ (by decide) (by omega), ii 12 _ (by decide) (by omega)]; exact r6 k hk
  · rw [ii 13 _ (by decide) (by omega), ii 14 _ (by decide) (by omega)]; exact r7 k hk
theorem RdQ.wheel {k t b f : Nat} (R : RdQ h q D br) (F : Fr (fun u j => (u = q ∧ j = 2) ∨ ((u = q + 1 ∨ u = q + 2 ∨ u = q + 3 ∨ u = q + 4) ∧ j = dW D)) h h') (hW : dW D < 5) (w1 : hI h' (q + 1) (dW D) = nI k) (w2 : hI h' (q + 2) (dW D) = nI t) (w3 : hI h' (q + 3) (dW D) = nI b) (w4 : hI h' (q + 4) (dW D) = nI f) (e2 : hI h' q 2 = nI (dW D + 1)) : RdQ h' q (whD D k t b f) br := by
  obtain ⟨⟨l1, l2, l3⟩, ⟨p0, p1, p2, p3, p4, p5, p6, p7, p8⟩, r1, r2, r3, r4, r5, r6, r7⟩ := R
  have ii : ∀ i j, 5 ≤ i → hI h' (q + i) j = hI h (q + i) j := fun i j hi => (F.2.2.2 _ _ (by omega)).1
  have i4 : ∀ i j, 1 ≤ i → j ≠ dW D → hI h' (q + i) j = hI h (q + i) j := fun i j hi hj => (F.2.2.2 _ _ (by omega)).1
  have i0 : ∀ j, j ≠ 2 → hI h' q j = hI h q j := fun j hj => (F.2.2.2 _ _ (by omega)).1
  have il : ∀ j, hL h' (q + 5) j = hL h (q + 5) j := fun j => (F.2.2.2 _ _ (by omega)).2.1
  have ir : ∀ j, j ≠ 2 → hR h' q j = hR h q j := fun j hj => (F.2.2.2 _ _ (by omega)).2.2
  have ex : ∀ f' w, dX (whD D k t b f) f' w = dX D f' w := fun f' w => by
    show (ds (ds (ds (ds (ds (ds D 0 0 (dW D + 1)) 1 (dW D) k) 2 (dW D) t) 3 (dW D) b) 4 (dW D) f) 5 (dW D) 0).1 (6 + f') w = D.1 (6 + f') w
    rw [ds_n (by omega), ds_n (by omega), ds_n (by omega), ds_n (by omega), ds_n (by omega), ds_n (by omega)]
  have g : ∀ i w, 1 ≤ i → i ≤ 5 → w ≠ dW D → (whD D k t b f).1 i w = D.1 i w := fun i w h1 h2 h3 => by
    show (ds (ds (ds (ds (ds (ds D 0 0 (dW D + 1)) 1 (dW D) k) 2 (dW D) t) 3 (dW D) b) 4 (dW D) f) 5 (dW D) 0).1 i w = D.1 i w
    rw [ds_n (by omega), ds_n (by omega), ds_n (by omega), ds_n (by omega), ds_n (by omega), ds_n (by omega)]
  have eW : dW (whD D k t b f) = dW D + 1 := rfl
  refine ⟨?_, ⟨?_, ?_, e2, ?_, ?_, ?_, ?_, ?_, ?_⟩, fun w hw => ?_, fun w h1 h2 => ?_, fun f w hf hw => ?_, fun f hf => ?_, fun f hf hz => ?_, fun k hk => ?_, fun k hk => ?_⟩
  · unfold LayQ
    rw [F.2.1]
    exact ⟨l1, fun i hi => by rw [ir _ (by omega)]; exact l2 i hi, l3⟩
  · rw [i0 _ (by decide)]; exact p0
  · rw [i0 _ (by decide)]; exact p1
  · rw [i0 _ (by decide), p3]
    refine congrArg nI ?_
    show _ = sumN (dGc (whD D k t b f)) (dW D) + dGc (whD D k t b f) (dW D)
    rw [show dGc (whD D k t b f) (dW D) = 0 from ds_s, sumN_c (f := dGc D) (g := dGc (whD D k t b f)) (dW D) (fun w hw => g 5 w (by decide) (by decide) (by omega))]
    rfl
  · rw [i0 _ (by decide)]; exact p4
  · rw [i0 _ (by decide)]; exact p5
  · rw [i0 _ (by decide)]; exact p6
  · rw [i0 _ (by decide)]; exact p7
  · rw [i0 _ (by decide)]; exact p8
  · rw [eW] at hw
    by_cases z : w = dW D
    · subst z
      refine ⟨w1.trans ?_, w2.trans ?_, w3.trans ?_, w4.trans ?_, ?_⟩
      · show nI k = nI ((ds (ds (ds (ds (ds (ds D 0 0 (dW D + 1)) 1 (dW D) k) 2 (dW D) t) 3 (dW D) b) 4 (dW D) f) 5 (dW D) 0).1 1 (dW D))
        rw [ds_n (by omega), ds_n (by omega), ds_n (by omega), ds_n (by omega), ds_s]
      · show nI t = nI ((ds (ds (ds (ds (ds (ds D 0 0 (dW D + 1)) 1 (dW D) k) 2 (dW D) t) 3 (dW D) b) 4 (dW D) f) 5 (dW D) 0).1 2 (dW D))
        rw [ds_n (by omega), ds_n (by omega), ds_n (by omega), ds_s]
      · show nI b = nI ((ds (ds (ds (ds (ds (ds D 0 0 (dW D + 1)) 1 (dW D) k) 2 (dW D) t) 3 (dW D) b) 4 (dW D) f) 5 (dW D) 0).1 3 (dW D))
        rw [ds_n (by omega), ds_n (by omega), ds_s]
      · show nI f = nI ((ds (ds (ds (ds (ds (ds D 0 0 (dW D + 1)) 1 (dW D) k) 2 (dW D) t) 3 (dW D) b) 4 (dW D) f) 5 (dW D) 0).1 4 (dW D))
        rw [ds_n (by omega), ds_s]
      · rw [il, r2 (dW D) (Nat.le_refl _) hW]
        exact (if_pos rfl).symm
    · have q0 := r1 w (by omega)
      rw [i4 1 _ (by decide) z, i4 2 _ (by decide) z, i4 3 _ (by decide) z, i4 4 _ (by decide) z, il]
      exact ⟨q0.1.trans (congrArg nI (g 1 w (by decide) (by decide) z).symm), q0.2.1.trans (congrArg nI (g 2 w (by decide) (by decide) z).symm), q0.2.2.1.trans (congrArg nI (g 3 w (by decide) (by decide) z).symm), q0.2.2.2.1.trans (congrArg nI (g 4 w (by decide) (by decide) z).symm), q0.2.2.2.2.trans (if_neg z).symm⟩
  · rw [eW] at h1
    rw [il]
    exact r2 w (by omega) h2
  · rw [ii 7 _ (by decide), ii 6 _ (by decide), ex]; exact r3 f w hf hw
  · rw [ii 8 _ (by decide)]; exact r4 f hf
  · rw [ii 9 _ (by decide)]; exact r5 f hf hz
  · rw [ii 10 _ (by decide), ii 11 _ (by decide), ii 12 _ (by decide)]; exact r6 k hk
  · rw [ii 13 _ (by decide), ii 14 _ (by decide)]; exact r7 k hk
theorem ok_m_wheel (C : GL h m q X D br N (0, a)) (W : WfR D br N) (hw : isW X 4 a = true) : Ok (f_m_readWheel m h) (fun _ h' => Fr (SZ m q) h h' ∧ GL h' m q X (dnW X D N br a) br (nnW X D N br a) (lnW X D N br a)) := by
  have R := C.gs
  obtain ⟨P, rQ⟩ := C.2.2 rfl
  have qb := R.qb
  have hO := W.1.1.2.2.2.2.1
  have W5 := W.1.1.1
  have W4 := W.1.1.2.1
  have WN := W.1.1.2.2.1
  have wN := W.2.1
  unfold f_m_readWheel
  refine ok_gd R.s (ok_bR R.h4 (ok_gd rQ.1.1 (ok_lt ?_)))
  rw [rQ.2.1.2.2.1]
  refine j_begins (dW D) 5 R rQ hO (isW_5 hw) (by omega) (by decide) rfl rfl (fun h3 R3 => ?_)
  change GS h h3 m q X (lb X br (dW D) 5 a) at R3
  refine j_fresh R3 (P.gs R3) (fun v6 h5 R5 hr6 => ?_)
  change GS h h5 m q X (w2 X D N br a) at R5
  have hr6' : (w2 X D N br a).1 = 0 → v6 = lN (tW X (lb X br (dW D) 5 a).2) ∧ tW X (lb X br (dW D) 5 a).2 < 32 ^ 8 ∧ dW D < 5 := fun z => by
    have zT := cS_z z
    have z2 := cT_z zT
    have z3 := lb_z z2.1
    exact ⟨hr6 zT, (tW_cv (isNm_w z2.2.1)).2, by omega⟩
  -- behind the kind
  have go118 : ∀ h6 (v3 v4 s0' : Int32), GS h h6 m q X (cW X 4 60 (w4 X D N br a)) → ((cW X 4 60 (w4 X D N br a)).1 = 0 → v3 = nI (kdn X (w2 X D N br a).2) ∧ v4 = nI (wT X D N br a) ∧ s0' = nI (min 9 (wT X D N br a - 1))) → Ok (b_m_readWheel_118 m v6 v3 v4 s0' 1 17 m h6) (fun _ h' => Fr (SZ m q) h h' ∧ GL h' m q X (dnW X D N br a) br (nnW X D N br a) (lnW X D N br a)) := by
    intro h6 v3 v4 s0' R6 hv
    unfold b_m_readWheel_118
    have z9 : (cW X 4 60 (w4 X D N br a)).1 = 0 → min 9 (wT X D N br a - 1) < 2 ^ 31 := fun _ => Nat.lt_of_le_of_lt (Nat.min_le_left _ _) (by decide)
    refine j_part' 17 1 (min 9 (wT X D N br a - 1)) R6 (by decide) (by decide) (by decide) z9 (fun z => ⟨rfl, (hv z).2.2⟩) (fun v2 h7 R7 hr2 => ?_)
    change GS h h7 m q X (cW X 1 (min 9 (wT X D N br a - 1)) (w6 X D N br a)) at R7
    have tz : (cW X 1 (min 9 (wT X D N br a - 1)) (w6 X D N br a)).1 = 0 → (cW X 4 60 (w4 X D N br a)).1 = 0 ∧ 4 ≤ wT X D N br a ∧ wT X D N br a ≤ 60 := fun z => by
      have z6 := (cP_z (cW_z z).1).1
      have z5 := cW_z z6
      exact ⟨z6, z5.2.2.1, z5.2.2.2.1⟩
    have hv8 : (cW X 1 (min 9 (wT X D N br a - 1)) (w6 X D N br a)).1 = 0 → (0 : Int32) = nI 0 ∧ v4 - 1 = nI (wT X D N br a - 1) := fun z => by
      obtain ⟨y1, y2, y3⟩ := tz z
      refine ⟨rfl, ?_⟩
      rw [(hv y1).2.1, nI_s (by omega)]
    refine j_part' 18 0 (wT X D N br a - 1) R7 (by decide) (by decide) (by decide) (fun z => by have := tz z; omega) hv8 (fun v8 h9 R9 hr8 => ?_)
    change GS h h9 m q X (lnW X D N br a) at R9
    refine ok_gd R9.s (ok_lt (j_st R9 (fun e => ok_ret (R9.er e)) (fun e => ?_)))
    have e8 := (cP_z (cW_z e).1).1
    obtain ⟨y1, y2, y3⟩ := tz e8
    obtain ⟨u3, u4, -⟩ := hv y1
    have u2 := hr2 e8
    have u8 := hr8 e
    have z4 := (cW_z y1).1
    have zd := cS_z (cP_z z4).1
    have z2 := (cCk_z (by decide) zd).1
    obtain ⟨u6, wb, l5⟩ := hr6' z2
    have rQ9 := rQ.gs R9
    refine ok_gd R9.s (ok_bR R9.h4 (ok_gd rQ9.1.1 (ok_lt ?_)))
    rw [rQ9.2.1.2.2.1, u6]
    refine ok_gd R9.s (ok_bd (ok_mono (ok_m_names (n := dW D) R9 (P.gs R9) (by omega) wb (s := 0) (by decide) rfl rfl) ?_))
    intro _ h10 hx
    obtain ⟨F10, P10⟩ := hx
    have R10 := R9.w F10 (fun b k e => by unfold SNq at e; omega)
    have rQ10 := rQ9.nm F10
    have L := rQ10.1
    have b1 := L.1
    have d0 : hR h10 q 10 = some (q + 1) := L.2.1 0 (by decide)
    have d1 : hR h10 q 11 = some (q + 2) := L.2.1 1 (by decide)
    have d2 : hR h10 q 12 = some (q + 3) := L.2.1 2 (by decide)
    have d3 : hR h10 q 13 = some (q + 4) := L.2.1 3 (by decide)
    have t0 : hS h10 (q + 1) = some (.inr (0, 5)) := L.2.2.1 0 (by decide)
    have t1 : hS h10 (q + 2) = some (.inr (0, 5)) := L.2.2.1 1 (by decide)
    have t2 : hS h10 (q + 3) = some (.inr (0, 5)) := L.2.2.1 2 (by decide)
    have t3 : hS h10 (q + 4) = some (.inr (0, 5)) := L.2.2.1 3 (by decide)
    refine ok_gd R10.s (ok_bR R10.h4 (ok_gd b1 (ok_bR d0 (ok_gd (ai_of t0 l5 (by decide)) (ok_lt ?_)))))
    rw [nI_clamp (by omega)]
    refine ok_gd (by exact R10.s) (ok_bR (by exact R10.h4) (ok_gd (by exact b1) (ok_bR (by exact d1) (ok_gd (by exact ai_of t1 l5 (by decide)) (ok_lt ?_)))))
    refine ok_gd (by exact R10.s) (ok_bR (by exact R10.h4) (ok_gd (by exact b1) (ok_bR (by exact d2) (ok_gd (by exact ai_of t2 l5 (by decide)) (ok_lt ?_)))))
    refine ok_gd (by exact R10.s) (ok_bR (by exact R10.h4) (ok_gd (by exact b1) (ok_bR (by exact d3) (ok_gd (by exact ai_of t3 l5 (by decide)) (ok_lt ?_)))))
    refine ok_gd (by exact R10.s) (ok_bR (by exact R10.h4) (ok_gd (by exact b1) (ok_lt (ok_gd (by exact b1) (ok_lt (ok_ret ?_))))))
    rw [hI_uIa (by omega), hI_uIa (by omega), hI_uIa (by omega), hI_uIa (by omega), rQ10.2.1.2.2.1, nI_1]
    have FB : Fr (fun u j => (u = q ∧ j = 2) ∨ ((u = q + 1 ∨ u = q + 2 ∨ u = q + 3 ∨ u = q + 4) ∧ j = dW D)) h10 (uI (uI (uI (uI (uI h10 (q + 1) (dW D) v3) (q + 2) (dW D) v4) (q + 3) (dW D) v2) (q + 4) (dW D) v8) q 2 (nI (dW D + 1))) := by
      refine Fr.trans (Fr.trans (Fr.trans (Fr.trans ?_ (fr_uI ?_)) (fr_uI ?_)) (fr_uI ?_)) (fr_uI ?_)
      · exact fr_uI (by omega)
      all_goals omega
    have R11 := R10.w FB (fun b k e => by omega)
    refine ⟨(R9.fx.trans (F10.mono (fun b k e => by unfold SNq at e; unfold SZ; omega))).trans (FB.mono (fun b k e => by unfold SZ; omega)), R11.2.1, R11.2.2, fun _ => ⟨P10.fr FB (by omega) (fun k => by omega) (fun k => by omega) (fun k => by omega), ?_⟩⟩
    refine rQ10.wheel FB l5 ?_ ?_ ?_ ?_ hI_uIs
    · rw [hI_uIa (by omega), hI_uIa (by omega), hI_uIa (by omega), hI_uIa (by omega), hI_uIs]; exact u3
    · rw [hI_uIa (by omega), hI_uIa (by omega), hI_uIa (by omega), hI_uIs]; exact u4
    · rw [hI_uIa (by omega), hI_uIa (by omega), hI_uIs]; exact u2
    · rw [hI_uIa (by omega), hI_uIs]; exact u8
  have go81 : ∀ h6 (v3 : Int32), GS h h6 m q X (cD X (w2 X D N br a)) → ((cD X (w2 X D N br a)).1 = 0 → v3 = nI (kdn X (w2 X D N br a).2) ∧ tS X (w2 X D N br a).2 ≠ 5) → Ok (b_m_readWheel_81 m v6 v3 h6) (fun _ h' => Fr (SZ m q) h h' ∧ GL h' m q X (dnW X D N br a) br (nnW X D N br a) (lnW X D N br a)) := by
    intro h6 v3 R6 hv
    unfold b_m_readWheel_81
    refine j_on R6 (fun z => by rw [show (cD X (w2 X D N br a)).2 = (w2 X D N br a).2 from cCk_2]; exact (hv z).2) (fun h7 R7 => ?_)
    refine j_part 16 4 60 R7 (by decide) (by decide) (by decide) (by decide) (fun _ => ⟨rfl, rfl⟩) (fun v4 h8 R8 hr4 => ?_)
    change GS h h8 m q X (cW X 4 60 (w4 X D N br a)) at R8
    have cz : (cW X 4 60 (w4 X D N br a)).1 = 0 → v3 = nI (kdn X (w2 X D N br a).2) ∧ v4 = nI (wT X D N br a) ∧ 4 ≤ wT X D N br a ∧ wT X D N br a ≤ 60 := fun z => by
      have z5 := cW_z z
      exact ⟨(hv (cS_z (cP_z z5.1).1)).1, hr4 z, z5.2.2.1, z5.2.2.2.1⟩
    by_cases e : (cW X 4 60 (w4 X D N br a)).1 = 0
    · obtain ⟨y1, y2, y3, y4⟩ := cz e
      rw [y2]
      refine ok_ile (b := 9) (by omega) (by decide) (fun g => go118 h8 _ _ _ R8 (fun _ => ⟨y1, rfl, ?_⟩)) (fun g => go118 h8 _ _ _ R8 (fun _ => ⟨y1, rfl, ?_⟩))
      · rw [nI_s (by omega), Nat.min_eq_right (by omega)]
      · rw [Nat.min_eq_left (by omega)]
        rfl
    · exact ok_ite (fun _ => go118 h8 _ _ _ R8 (fun z => absurd z e)) (fun _ => go118 h8 _ _ _ R8 (fun z => absurd z e))
  have b5 := tS_le (X := X) (a := (w2 X D N br a).2)
  have go70n : (∀ k, (w2 X D N br a).1 = 0 → k = 12 ∨ k = 13 ∨ k = 14 ∨ k = 15 → isW X k (w2 X D N br a).2 = false) → Ok (b_m_readWheel_70 m v6 (-1) h5) (fun _ h' => Fr (SZ m q) h h' ∧ GL h' m q X (dnW X D N br a) br (nnW X D N br a) (lnW X D N br a)) := by
    intro hno
    unfold b_m_readWheel_70
    have ee : cD X (w2 X D N br a) = cF 1 (w2 X D N br a) := by
      by_cases e : (w2 X D N br a).1 = 0
      · unfold cD cCk
        rw [hno 12 e (by omega), hno 13 e (by omega), hno 14 e (by omega), hno 15 e (by omega)]
        rfl
      · rw [cF_n e]
        exact cCk_n e
    refine ok_t rfl (j_flaw R5 rfl (by decide) (by decide) (fun h6 R6 => go81 h6 _ (by rw [ee]; exact R6) (fun z => absurd z (by rw [ee]; exact cF_ne (by decide)))))
  have go70y : ∀ (k n : Nat), (decide ((w2 X D N br a).1 = 0) && isW X k (w2 X D N br a).2) = true → (k = 12 ∨ k = 13 ∨ k = 14 ∨ k = 15) → kdn X (w2 X D N br a).2 = n → n ≤ 3 → Ok (b_m_readWheel_70 m v6 (nI n) h5) (fun _ h' => Fr (SZ m q) h h' ∧ GL h' m q X (dnW X D N br a) br (nnW X D N br a) (lnW X D N br a)) := by
    intro k n hk h4 hkd hn
    obtain ⟨-, k2⟩ := Bool.and_eq_true_iff.mp hk
    unfold b_m_readWheel_70
    have ee : cD X (w2 X D N br a) = w2 X D N br a := by
      unfold cD cCk
      rcases h4 with y | y | y | y <;> subst y <;> rw [k2] <;> simp
    refine ok_f (nI_nm1 (by omega)) (go81 h5 _ (by rw [ee]; exact R5) (fun z => ⟨by rw [hkd], isW_5 k2⟩))
  have wr : ∀ k, k < 24 → 0 < k → f_m_isWord m k h5 = some (bI (decide ((w2 X D N br a).1 = 0) && isW X k (w2 X D N br a).2), h5) := fun k h1 h2 => e_m_isWord R5 h1 h2
  have no2 : ∀ k, (decide ((w2 X D N br a).1 = 0) && isW X k (w2 X D N br a).2) = false → (w2 X D N br a).1 = 0 → isW X k (w2 X D N br a).2 = false := fun k hk e => by
    rw [decide_eq_true e, Bool.true_and] at hk
    exact hk
  refine ok_gd R5.s (ok_bde (wr 12 (by decide) (by decide)) (ok_ib (fun g12 => ?_) (fun g12 => go70y 12 0 g12 (by omega) ?_ (by decide))))
  · refine ok_gd R5.s (ok_bde (wr 13 (by decide) (by decide)) (ok_ib (fun g13 => ?_) (fun g13 => go70y 13 1 g13 (by omega) ?_ (by decide))))
    · refine ok_gd R5.s (ok_bde (wr 14 (by decide) (by decide)) (ok_ib (fun g14 => ?_) (fun g14 => go70y 14 2 g14 (by omega) ?_ (by decide))))
      · refine ok_gd R5.s (ok_bde (wr 15 (by decide) (by decide)) (ok_ib (fun g15 => go70n (fun k e hk => ?_)) (fun g15 => go70y 15 3 g15 (by omega) ?_ (by decide))))
        · rcases hk with y | y | y | y <;> subst y
          · exact no2 12 g12 e
          · exact no2 13 g13 e
          · exact no2 14 g14 e
          · exact no2 15 g15 e
        · obtain ⟨e, k2⟩ := Bool.and_eq_true_iff.mp g15
          have e := of_decide_eq_true e
          unfold kdn
          rw [no2 13 g13 e, no2 14 g14 e, k2]
          rfl
      · obtain ⟨e, k2⟩ := Bool.and_eq_true_iff.mp g14
        have e := of_decide_eq_true e
        unfold kdn
        rw [no2 13 g13 e, k2]
        rfl
    · obtain ⟨e, k2⟩ := Bool.and_eq_true_iff.mp g13
      unfold kdn
      rw [k2]
      rfl
  · obtain ⟨e, k2⟩ := Bool.and_eq_true_iff.mp g12
    unfold kdn
    rw [isW_ne k2 (by decide), isW_ne k2 (by decide), isW_ne k2 (by decide)]
    rfl
end G3
