/-! the reference's reader: work, seen -/
section G5
variable {S : Nat → Nat → Prop} {h0 h h' h1 : Hp} {m q a : Nat} {X : TX} {c c' c1 : CU} {N : NN} {D : DD} {br : Bool}
theorem RdQ.work {p r s : Nat} (R : RdQ h q D br) (F : Fr (fun u j => (u = q ∧ j = 5) ∨ ((u = q + 10 ∨ u = q + 11 ∨ u = q + 12) ∧ j = dN D)) h h') (hF : dF D ≤ 4) (e10 : hI h' (q + 10) (dN D) = nI p) (e11 : hI h' (q + 11) (dN D) = nI r) (e12 : hI h' (q + 12) (dN D) = nI s) (e5 : hI h' q 5 = nI (dN D + 1)) : RdQ h' q (ds (ds (ds (ds D 10 (dN D) p) 11 (dN D) r) 12 (dN D) s) 0 2 (dN D + 1)) br := by
  obtain ⟨⟨l1, l2, l3⟩, ⟨p0, p1, p2, p3, p4, p5, p6, p7, p8⟩, r1, r2, r3, r4, r5, r6, r7⟩ := R
  have ii : ∀ i j, 1 ≤ i → ((i ≠ 10 ∧ i ≠ 11 ∧ i ≠ 12) ∨ j ≠ dN D) → hI h' (q + i) j = hI h (q + i) j := fun i j hi h5 => (F.2.2.2 _ _ (by omega)).1
  have i0 : ∀ j, j ≠ 5 → hI h' q j = hI h q j := fun j hj => (F.2.2.2 _ _ (by omega)).1
  have il : ∀ j, hL h' (q + 5) j = hL h (q + 5) j := fun j => (F.2.2.2 _ _ (by omega)).2.1
  have ir : ∀ j, j ≠ 5 → hR h' q j = hR h q j := fun j hj => (F.2.2.2 _ _ (by omega)).2.2
  have ex : ∀ f' w', f' < 4 → dX (ds (ds (ds (ds D 10 (dN D) p) 11 (dN D) r) 12 (dN D) s) 0 2 (dN D + 1)) f' w' = dX D f' w' := fun f' w' h4 => (ds_n (by omega)).trans ((ds_n (by omega)).trans ((ds_n (by omega)).trans (ds_n (by omega))))
  refine ⟨?_, ⟨?_, ?_, ?_, ?_, ?_, e5, ?_, ?_, ?_⟩, fun w' hw' => ?_, fun w' h1 h2 => ?_, fun g w hg hw => ?_, fun g hg => ?_, fun g hg hz => ?_, fun k hk => ?_, fun k hk => ?_⟩
  · unfold LayQ
    rw [F.2.1]
    exact ⟨l1, fun i hi => by rw [ir _ (by omega)]; exact l2 i hi, l3⟩
  · rw [i0 _ (by decide)]; exact p0
  · rw [i0 _ (by decide)]; exact p1
  · rw [i0 _ (by decide)]; exact p2
  · rw [i0 _ (by decide)]; exact p3
  · rw [i0 _ (by decide)]; exact p4
  · rw [i0 _ (by decide)]; exact p6
  · rw [i0 _ (by decide)]; exact p7
  · rw [i0 _ (by decide)]; exact p8
  · rw [ii 1 _ (by decide) (by omega), ii 2 _ (by decide) (by omega), ii 3 _ (by decide) (by omega), ii 4 _ (by decide) (by omega), il]; exact r1 w' hw'
  · rw [il]; exact r2 w' h1 h2
  · rw [ii 7 _ (by decide) (by omega), ii 6 _ (by decide) (by omega), ex g w (Nat.lt_of_lt_of_le hg hF)]; exact r3 g w hg hw
  · rw [ii 8 _ (by decide) (by omega)]; exact r4 g hg
  · rw [ii 9 _ (by decide) (by omega)]; exact r5 g hg hz
  · have hk' : k < dN D + 1 := hk
    by_cases z : k = dN D
    · subst z
      refine ⟨e10.trans ?_, e11.trans ?_, e12.trans ?_⟩
      · show nI p = nI ((ds (ds (ds (ds D 10 (dN D) p) 11 (dN D) r) 12 (dN D) s) 0 2 (dN D + 1)).1 10 (dN D))
        rw [ds_n (by omega), ds_n (by omega), ds_n (by omega), ds_s]
      · show nI r = nI ((ds (ds (ds (ds D 10 (dN D) p) 11 (dN D) r) 12 (dN D) s) 0 2 (dN D + 1)).1 11 (dN D))
        rw [ds_n (by omega), ds_n (by omega), ds_s]
      · show nI s = nI ((ds (ds (ds (ds D 10 (dN D) p) 11 (dN D) r) 12 (dN D) s) 0 2 (dN D + 1)).1 12 (dN D))
        rw [ds_n (by omega), ds_s]
    · have g : ∀ i, 10 ≤ i → (ds (ds (ds (ds D 10 (dN D) p) 11 (dN D) r) 12 (dN D) s) 0 2 (dN D + 1)).1 i k = D.1 i k := fun i h1 => by
        rw [ds_n (by omega), ds_n (by omega), ds_n (by omega), ds_n (by omega)]
      have q0 := r6 k (by omega)
      rw [ii 10 _ (by decide) (Or.inr z), ii 11 _ (by decide) (Or.inr z), ii 12 _ (by decide) (Or.inr z)]
      exact ⟨q0.1.trans (congrArg nI (g 10 (by omega)).symm), q0.2.1.trans (congrArg nI (g 11 (by omega)).symm), q0.2.2.trans (congrArg nI (g 12 (by omega)).symm)⟩
  · rw [ii 13 _ (by decide) (by omega), ii 14 _ (by decide) (by omega)]; exact r7 k hk
theorem ok_m_work (C : GL h m q X D br N (0, a)) (W : WfR D br N) (hw : isW X 7 a = true) : Ok (f_m_readWork m h) (fun _ h' => Fr (SZ m q) h h' ∧ GL h' m q X (dnK X D N br a) br (nnK X D N br a) (lnK X D N br a)) := by
  have R := C.gs
  obtain ⟨P, rQ⟩ := C.2.2 rfl
  have qb := R.qb
  have hO := W.1.1.2.2.2.2.1
  have W5 := W.1.1.1
  have W4 := W.1.1.2.1
  have WN := W.1.1.2.2.1
  have wN := W.2.1
  unfold f_m_readWork
  refine ok_gd R.s (ok_bR R.h4 (ok_gd rQ.1.1 (ok_lt ?_)))
  rw [rQ.2.1.2.2.2.2.2.1]
  refine j_begins (dN D) 4 R rQ hO (isW_5 hw) (by omega) (by decide) rfl rfl (fun h3 R3 => ?_)
  change GS h h3 m q X (lb X br (dN D) 4 a) at R3
  refine j_fresh R3 (P.gs R3) (fun v6 h5 R5 hr6 => ?_)
  refine j_part 19 1 99 R5 (by decide) (by decide) (by decide) (by decide) (fun _ => ⟨rfl, rfl⟩) (fun v8 h7 R7 hr8 => ?_)
  refine j_part 20 0 99 R7 (by decide) (by decide) (by decide) (by decide) (fun _ => ⟨rfl, rfl⟩) (fun v10 h9 R9 hr10 => ?_)
  refine j_needs 17 R9 (by decide) (by decide) (fun h11 R11 => ?_)
  change GS h h11 m q X (k7 X D N br a) at R11
  refine j_rknown 1 R11 (P.gs R11) (by decide) rfl (fun v14 h13 R13 hr14 => ?_)
  change GS h h13 m q X (lnK X D N br a) at R13
  refine ok_gd R13.s (ok_lt (j_st R13 (fun e => ok_ret (R13.er e)) (fun e => ?_)))
  have eK := cS_z e
  have zK := cK_z eK
  have e7 := (cP_z zK.1).1
  have z7 := cW_z e7
  have e5 := (cP_z z7.1).1
  have z5 := cW_z e5
  have eT := cS_z (cP_z z5.1).1
  have zT := cT_z eT
  have zl := lb_z zT.1
  have u14 := hr14 eK
  have u10 := hr10 e7
  have u8 := hr8 e5
  have u6 := hr6 eT
  have wb := (tW_cv (isNm_w zT.2.1)).2
  have l4 : dN D < 4 := by omega
  have rQ13 := rQ.gs R13
  refine ok_gd R13.s (ok_bR R13.h4 (ok_gd rQ13.1.1 (ok_lt ?_)))
  rw [rQ13.2.1.2.2.2.2.2.1, u6]
  refine ok_gd R13.s (ok_bd (ok_mono (ok_m_names (n := dN D) R13 (P.gs R13) (by omega) wb (s := 2) (by decide) rfl rfl) ?_))
  intro _ h18 hx
  obtain ⟨F18, P18⟩ := hx
  have R18 := R13.w F18 (fun b k e => by unfold SNq at e; omega)
  have rQ18 := rQ13.nm F18
  have L := rQ18.1
  have b1 := L.1
  have d9 : hR h18 q 19 = some (q + 10) := L.2.1 9 (by decide)
  have d10 : hR h18 q 20 = some (q + 11) := L.2.1 10 (by decide)
  have d11 : hR h18 q 21 = some (q + 12) := L.2.1 11 (by decide)
  have t9 : hS h18 (q + 10) = some (.inr (0, 4)) := L.2.2.2.2.2.1 3 (by decide)
  have t10 : hS h18 (q + 11) = some (.inr (0, 4)) := L.2.2.2.2.2.1 4 (by decide)
  have t11 : hS h18 (q + 12) = some (.inr (0, 4)) := L.2.2.2.2.2.1 5 (by decide)
  have e5' := rQ18.2.1.2.2.2.2.2.1
  refine ok_gd R18.s (ok_bR R18.h4 (ok_gd b1 (ok_bR d9 (ok_gd R18.s (ok_bR R18.h4 (ok_gd b1 (ok_lt ?_)))))))
  rw [e5']
  refine ok_gd (ai_of t9 l4 (by decide)) (ok_lt ?_)
  rw [nI_clamp (by omega)]
  refine ok_gd (by exact R18.s) (ok_bR (by exact R18.h4) (ok_gd (by exact b1) (ok_bR (by exact d10) (ok_gd (by exact R18.s) (ok_bR (by exact R18.h4) (ok_gd (by exact b1) (ok_lt ?_)))))))
  rw [hI_uIa (by omega), e5']
  refine ok_gd (by exact ai_of t10 l4 (by decide)) (ok_lt ?_)
  rw [nI_clamp (by omega)]
  refine ok_gd (by exact R18.s) (ok_bR (by exact R18.h4) (ok_gd (by exact b1) (ok_bR (by exact d11) (ok_gd (by exact R18.s) (ok_bR (by exact R18.h4) (ok_gd (by exact b1) (ok_lt ?_)))))))
  rw [hI_uIa (by omega), hI_uIa (by omega), e5']
  refine ok_gd (by exact ai_of t11 l4 (by decide)) (ok_lt ?_)
  rw [nI_clamp (by omega)]
  refine ok_gd (by exact R18.s) (ok_bR (by exact R18.h4) (ok_gd (by exact b1) (ok_lt (ok_gd (by exact b1) (ok_lt (ok_ret ?_))))))
  rw [hI_uIa (by omega), hI_uIa (by omega), hI_uIa (by omega), e5', nI_1]
  have FB : Fr (fun u j => (u = q ∧ j = 5) ∨ ((u = q + 10 ∨ u = q + 11 ∨ u = q + 12) ∧ j = dN D)) h18 (uI (uI (uI (uI h18 (q + 10) (dN D) v8) (q + 11) (dN D) v10) (q + 12) (dN D) v14) q 5 (nI (dN D + 1))) := by
    refine Fr.trans (Fr.trans (Fr.trans ?_ (fr_uI ?_)) (fr_uI ?_)) (fr_uI ?_)
    · exact fr_uI (by omega)
    all_goals omega
  have R19 := R18.w FB (fun b k e => by omega)
  refine ⟨(R13.fx.trans (F18.mono (fun b k e => by unfold SNq at e; unfold SZ; omega))).trans (FB.mono (fun b k e => by unfold SZ; omega)), R19.2.1, R19.2.2, fun _ => ⟨P18.fr FB (by omega) (fun k => by omega) (fun k => by omega) (fun k => by omega), ?_⟩⟩
  refine rQ18.work FB W4 ?_ ?_ ?_ hI_uIs
  · rw [hI_uIa (by omega), hI_uIa (by omega), hI_uIa (by omega), hI_uIs]; exact u8
  · rw [hI_uIa (by omega), hI_uIa (by omega), hI_uIs]; exact u10
  · rw [hI_uIa (by omega), hI_uIs]; exact u14
theorem RdQ.seen {p v : Nat} (R : RdQ h q D br) (F : Fr (fun u j => (u = q ∧ j = 8) ∨ ((u = q + 13 ∨ u = q + 14) ∧ j = dSe D)) h h') (hF : dF D ≤ 4) (e13 : hI h' (q + 13) (dSe D) = nI p) (e14 : hI h' (q + 14) (dSe D) = nI v) (e8 : hI h' q 8 = nI (dSe D + 1)) : RdQ h' q (ds (ds (ds D 15 (dSe D) p) 16 (dSe D) v) 0 6 (dSe D + 1)) br := by
  obtain ⟨⟨l1, l2, l3⟩, ⟨p0, p1, p2, p3, p4, p5, p6, p7, p8⟩, r1, r2, r3, r4, r5, r6, r7⟩ := R
  have ii : ∀ i j, 1 ≤ i → ((i ≠ 13 ∧ i ≠ 14) ∨ j ≠ dSe D) → hI h' (q + i) j = hI h (q + i) j := fun i j hi h5 => (F.2.2.2 _ _ (by omega)).1
  have i0 : ∀ j, j ≠ 8 → hI h' q j = hI h q j := fun j hj => (F.2.2.2 _ _ (by omega)).1
  have il : ∀ j, hL h' (q + 5) j = hL h (q + 5) j := fun j => (F.2.2.2 _ _ (by omega)).2.1
  have ir : ∀ j, j ≠ 8 → hR h' q j = hR h q j := fun j hj => (F.2.2.2 _ _ (by omega)).2.2
  have ex : ∀ f' w', f' < 4 → dX (ds (ds (ds D 15 (dSe D) p) 16 (dSe D) v) 0 6 (dSe D + 1)) f' w' = dX D f' w' := fun f' w' h4 => (ds_n (by omega)).trans ((ds_n (by omega)).trans (ds_n (by omega)))
  refine ⟨?_, ⟨?_, ?_, ?_, ?_, ?_, ?_, ?_, ?_, e8⟩, fun w' hw' => ?_, fun w' h1 h2 => ?_, fun g w hg hw => ?_, fun g hg => ?_, fun g hg hz => ?_, fun k hk => ?_, fun k hk => ?_⟩
  · unfold LayQ
    rw [F.2.1]
    exact ⟨l1, fun i hi => by rw [ir _ (by omega)]; exact l2 i hi, l3⟩
  · rw [i0 _ (by decide)]; exact p0
  · rw [i0 _ (by decide)]; exact p1
  · rw [i0 _ (by decide)]; exact p2
  · rw [i0 _ (by decide)]; exact p3
  · rw [i0 _ (by decide)]; exact p4
  · rw [i0 _ (by decide)]; exact p5
  · rw [i0 _ (by decide)]; exact p6
  · rw [i0 _ (by decide)]; exact p7
  · rw [ii 1 _ (by decide) (by omega), ii 2 _ (by decide) (by omega), ii 3 _ (by decide) (by omega), ii 4 _ (by decide) (by omega), il]; exact r1 w' hw'
  · rw [il]; exact r2 w' h1 h2
  · rw [ii 7 _ (by decide) (by omega), ii 6 _ (by decide) (by omega), ex g w (Nat.lt_of_lt_of_le hg hF)]; exact r3 g w hg hw
  · rw [ii 8 _ (by decide) (by omega)]; exact r4 g hg
  · rw [ii 9 _ (by decide) (by omega)]; exact r5 g hg hz
  · rw [ii 10 _ (by decide) (by omega), ii 11 _ (by decide) (by omega), ii 12 _ (by decide) (by omega)]; exact r6 k hk
  · have hk' : k < dSe D + 1 := hk
    by_cases z : k = dSe D
    · subst z
      refine ⟨e13.trans ?_, e14.trans ?_⟩
      · show nI p = nI ((ds (ds (ds D 15 (dSe D) p) 16 (dSe D) v) 0 6 (dSe D + 1)).1 15 (dSe D))
        rw [ds_n (by omega), ds_n (by omega), ds_s]
      · show nI v = nI ((ds (ds (ds D 15 (dSe D) p) 16 (dSe D) v) 0 6 (dSe D + 1)).1 16 (dSe D))
        rw [ds_n (by omega), ds_s]
    · have g : ∀ i, 10 ≤ i → (ds (ds (ds D 15 (dSe D) p) 16 (dSe D) v) 0 6 (dSe D + 1)).1 i k = D.1 i k := fun i h1 => by
        rw [ds_n (by omega), ds_n (by omega), ds_n (by omega)]
      have q0 := r7 k (by omega)
      rw [ii 13 _ (by decide) (Or.inr z), ii 14 _ (by decide) (Or.inr z)]
      exact ⟨q0.1.trans (congrArg nI (g 15 (by omega)).symm), q0.2.trans (congrArg nI (g 16 (by omega)).symm)⟩
theorem e_n_isSeen {n : Nat} (R : RdQ h q D br) (hse : dSe D ≤ 5) (hd : ∀ k, k < dSe D → dSd D k < 2 ^ 31) (hn : n < 2 ^ 31) : f_n_isSeen q (nI n) h = some (bI (!decide (∀ k, k < dSe D → dSd D k ≠ n)), h) := by
  refine ok_eq ?_
  have L := R.1
  have b1 := L.1
  have d12 : hR h q 22 = some (q + 13) := L.2.1 12 (by decide)
  have t12 : hS h (q + 13) = some (.inr (0, 5)) := L.2.2.2.2.2.2.1
  unfold f_n_isSeen
  refine ok_lt (ok_up (dSe D) (fun i st h' => st = (q, nI n, nI i) ∧ h' = h ∧ ∀ k, k < i → dSd D k ≠ n) ?_ FU 0 _ _ (Nat.zero_le _) ⟨rfl, rfl, fun k hk => absurd hk (Nat.not_lt_zero _)⟩ (by show _ < 10000; omega))
  intro k i st h1 hi hI' kk
  obtain ⟨rfl, rfl, hno⟩ := hI'
  show Ok (b_n_isSeen_2 k q (nI n) (nI i) h1) _
  unfold b_n_isSeen_2
  refine ok_gd b1 (ok_lt ?_)
  rw [R.2.1.2.2.2.2.2.2.2.2]
  refine ok_it hi (by omega) (fun g => ok_gd zb0 (ok_ret ⟨?_, rfl⟩)) (fun g => ?_)
  · rw [decide_eq_true (by rw [← g]; exact hno)]
    rfl
  · refine ok_gd b1 (ok_bR d12 (ok_gd (ai_of t12 (by omega) (by decide)) (ok_lt ?_)))
    rw [nI_clamp (by omega), (R.2.2.2.2.2.2.2.2 i g).1]
    refine ok_ieq (hd i g) hn (fun e => ok_gd zb1 (ok_ret ⟨?_, rfl⟩)) (fun e => ?_)
    · rw [decide_eq_false (fun z => z i g e)]
      rfl
    · rw [nI_1]
      refine kk _ _ g ⟨rfl, rfl, fun k hk => ?_⟩
      by_cases z : k = i
      · rw [z]; exact e
      · exact hno k (by omega)
theorem ok_m_seen {v : Nat} (C : GL h m q X D br N (0, a)) (W : WfR D br N) (h5 : tS X a ≠ 5) : Ok (f_m_readSeen m (nI v) h) (fun _ h' => Fr (SZ m q) h h' ∧ GL h' m q X (dnJ X D a v) br N (lnJ X D a)) := by
  have R := C.gs
  obtain ⟨P, rQ⟩ := C.2.2 rfl
  have qb := R.qb
  have W4 := W.1.1.2.1
  have Wse := W.1.1.2.2.2.1
  have w7 := W.1.1.2.2.2.2.2.2.1
  have wS := W.1.1.2.2.2.2.2.2.2.2.2.2.2.2
  have W5 := W.1.1.1
  have go77 : ∀ h6 (v2 : Int32), GS h h6 m q X (cCk (decide (∀ k, k < dSe D → dSd D k ≠ tN X (j2 X D a).2)) 3 (cH X 1 99 (j2 X D a))) → ((cH X 1 99 (j2 X D a)).1 = 0 → v2 = nI (tN X (j2 X D a).2)) → Ok (b_m_readSeen_77 m (nI v) v2 h6) (fun _ h' => Fr (SZ m q) h h' ∧ GL h' m q X (dnJ X D a v) br N (lnJ X D a)) := by
    intro h6 v2 R6 hv2
    unfold b_m_readSeen_77
    refine j_on R6 (fun z => ?_) (fun h7 R7 => ?_)
    · obtain ⟨z1, z2, z3⟩ := cCk_z (by decide) z
      have z4 := cH_z z1
      rw [z3, z4.2.2.2.2]
      omega
    change GS h h7 m q X (lnJ X D a) at R7
    refine ok_gd R7.s (ok_lt (j_st R7 (fun e => ok_ret (R7.er e)) (fun e => ?_)))
    obtain ⟨z1, z2, z3⟩ := cCk_z (by decide) (cS_z e)
    have u2 := hv2 z1
    have z4 := cH_z z1
    obtain ⟨y1, y2, y3⟩ := cCk_z (by decide) (cS_z (cP_z z4.1).1)
    obtain ⟨x1, x2, x3⟩ := cCk_z (by decide) y1
    have n5 := of_decide_eq_true x2
    have l5 : dSe D < 5 := by omega
    have rQ7 := rQ.gs R7
    have L := rQ7.1
    have b1 := L.1
    have d12 : hR h7 q 22 = some (q + 13) := L.2.1 12 (by decide)
    have d13 : hR h7 q 23 = some (q + 14) := L.2.1 13 (by decide)
    have t12 : hS h7 (q + 13) = some (.inr (0, 5)) := L.2.2.2.2.2.2.1
    have t13 : hS h7 (q + 14) = some (.inr (0, 5)) := L.2.2.2.2.2.2.2.1
    have e8 := rQ7.2.1.2.2.2.2.2.2.2.2
    refine ok_gd R7.s (ok_bR R7.h4 (ok_gd b1 (ok_bR d12 (ok_gd R7.s (ok_bR R7.h4 (ok_gd b1 (ok_lt ?_)))))))
    rw [e8]
    refine ok_gd (ai_of t12 l5 (by decide)) (ok_lt ?_)
    rw [nI_clamp (by omega)]
    refine ok_gd (by exact R7.s) (ok_bR (by exact R7.h4) (ok_gd (by exact b1) (ok_bR (by exact d13) (ok_gd (by exact R7.s) (ok_bR (by exact R7.h4) (ok_gd (by exact b1) (ok_lt ?_)))))))
    rw [hI_uIa (by omega), e8]
    refine ok_gd (by exact ai_of t13 l5 (by decide)) (ok_lt ?_)
    rw [nI_clamp (by omega)]
    refine ok_gd (by exact R7.s) (ok_bR (by exact R7.h4) (ok_gd (by exact b1) (ok_lt (ok_gd (by exact b1) (ok_lt (ok_ret ?_))))))
    rw [hI_uIa (by omega), hI_uIa (by omega), e8, nI_1]
    have FB : Fr (fun u j => (u = q ∧ j = 8) ∨ ((u = q + 13 ∨ u = q + 14) ∧ j = dSe D)) h7 (uI (uI (uI h7 (q + 13) (dSe D) v2) (q + 14) (dSe D) (nI v)) q 8 (nI (dSe D + 1))) := by
      refine Fr.trans (Fr.trans ?_ (fr_uI ?_)) (fr_uI ?_)
      · exact fr_uI (by omega)
      all_goals omega
    have R8 := R7.w FB (fun b k e => by omega)
    refine ⟨R7.fx.trans (FB.mono (fun b k e => by unfold SZ; omega)), R8.2.1, R8.2.2, fun _ => ⟨(P.gs R7).fr FB (by omega) (fun k => by omega) (fun k => by omega) (fun k => by omega), rQ7.seen FB W4 ?_ ?_ hI_uIs⟩⟩
    · rw [hI_uIa (by omega), hI_uIa (by omega), hI_uIs]; exact u2
    · rw [hI_uIa (by omega), hI_uIs]
  have go33 : ∀ h1 c1, GS h h1 m q X c1 → c1 = cCk (decide (dSu D ≠ 0)) 6 (cCk (decide (dSe D ≠ 5)) 5 (0, a)) → Ok (b_m_readSeen_33 m (nI v) h1) (fun _ h' => Fr (SZ m q) h h' ∧ GL h' m q X (dnJ X D a v) br N (lnJ X D a)) := by
    intro h1 c1 R1 ec
    subst ec
    unfold b_m_readSeen_33
    refine j_on R1 (fun _ => by rw [cCk_2, cCk_2]; exact h5) (fun h2 R2 => ?_)
    refine j_needs 23 R2 (by decide) (by decide) (fun h3 R3 => ?_)
    change GS h h3 m q X (j2 X D a) at R3
    refine j_hand 1 99 R3 (by decide) (by decide) (fun _ => ⟨rfl, rfl⟩) (fun v6 h4 R4 hr6 => ?_)
    refine ok_gd R4.s (ok_lt (j_st R4 (fun e => go77 h4 _ (by rw [cCk_n e]; exact R4) (fun z => absurd z e)) (fun e => ?_)))
    have u6 := hr6 e
    have z4 := cH_z e
    have rQ4 := rQ.gs R4
    rw [u6]
    refine ok_gd R4.s (ok_bR R4.h4 (ok_gd rQ4.1.1 (ok_bde (e_n_isSeen rQ4 Wse (fun k hk => by have := wS k hk; omega) (by omega)) ?_)))
    refine ok_ib (fun g => go77 h4 _ ?_ (fun _ => rfl)) (fun g => j_flaw R4 rfl (by decide) (by decide) (fun h7 R7 => go77 h7 _ ?_ (fun _ => rfl)))
    · have : decide (∀ k, k < dSe D → dSd D k ≠ tN X (j2 X D a).2) = true := by
        cases y : decide (∀ k, k < dSe D → dSd D k ≠ tN X (j2 X D a).2) with
        | true => rfl
        | false => rw [y] at g; cases g
      unfold cCk
      rw [if_pos this]
      exact R4
    · have : decide (∀ k, k < dSe D → dSd D k ≠ tN X (j2 X D a).2) = false := by
        cases y : decide (∀ k, k < dSe D → dSd D k ≠ tN X (j2 X D a).2) with
        | false => rfl
        | true => rw [y] at g; cases g
      unfold cCk
      rw [if_neg (by rw [this]; decide)]
      exact R7
  have go16 : ∀ h1 c1, GS h h1 m q X c1 → c1 = cCk (decide (dSe D ≠ 5)) 5 (0, a) → Ok (b_m_readSeen_16 m (nI v) h1) (fun _ h' => Fr (SZ m q) h h' ∧ GL h' m q X (dnJ X D a v) br N (lnJ X D a)) := by
    intro h1 c1 R1 ec
    subst ec
    have rQ1 := rQ.gs R1
    unfold b_m_readSeen_16
    refine ok_gd R1.s (ok_bR R1.h4 (ok_gd rQ1.1.1 (ok_lt ?_)))
    rw [rQ1.2.1.2.2.2.2.2.2.2.1]
    refine ok_ix (by omega) (fun g => j_flaw R1 rfl (by decide) (by decide) (fun h2 R2 => go33 h2 _ R2 ?_)) (fun g => go33 h1 _ R1 ?_)
    · rw [decide_eq_false (p := dSu D ≠ 0) (fun z => z g)]; rfl
    · rw [decide_eq_true (p := dSu D ≠ 0) g]; rfl
  unfold f_m_readSeen
  refine ok_gd R.s (ok_bR R.h4 (ok_gd rQ.1.1 (ok_lt ?_)))
  rw [rQ.2.1.2.2.2.2.2.2.2.2]
  refine ok_ieq (b := 5) (by omega) (by decide) (fun g => j_flaw R rfl (by decide) (by decide) (fun h1 R1 => go16 h1 _ R1 ?_)) (fun g => go16 h _ R ?_)
  · rw [decide_eq_false (fun z => z g)]; rfl
  · rw [decide_eq_true g]; rfl
end G5
