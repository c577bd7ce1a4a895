/-! the reference's reader: feast -/
section G6
variable {S : Nat → Nat → Prop} {h0 h h' h1 : Hp} {m q a : Nat} {X : TX} {c c' c1 : CU} {N : NN} {D : DD} {br : Bool}
/-- the feast that is being told: its wheels as bits, its teeth in the row -/
def OfR (h : Hp) (q f : Nat) (of : Int32) (E : DD) : Prop := ∀ w, w < 5 → bt of w = decide (dX E f w ≠ 0) ∧ (dX E f w ≠ 0 → hI h (q + 6) (5 * f + w) = nI (dX E f w - 1))
theorem RdQ.row {f w : Nat} (R : RdQ h q D br) (F : Fr (fun u j => u = q + 6 ∧ j = 5 * f + w) h h') (hf : dF D ≤ f) (hw : w < 5) : RdQ h' q D br := by
  obtain ⟨⟨l1, l2, l3⟩, ⟨p0, p1, p2, p3, p4, p5, p6, p7, p8⟩, r1, r2, r3, r4, r5, r6, r7⟩ := R
  have ii : ∀ i j, i ≠ 6 → hI h' (q + i) j = hI h (q + i) j := fun i j hi => (F.2.2.2 _ _ (by omega)).1
  have i0 : ∀ j, hI h' q j = hI h q j := fun j => ii 0 j (by decide)
  have il : ∀ j, hL h' (q + 5) j = hL h (q + 5) j := fun j => (F.2.2.2 _ _ (by omega)).2.1
  have ir : ∀ j, hR h' q j = hR h q j := fun j => (F.2.2.2 _ _ (by omega)).2.2
  refine ⟨?_, ?_, fun w' hw' => ?_, fun w' h1 h2 => ?_, fun g w' hg hw' => ?_, fun g hg => ?_, fun g hg hz => ?_, fun k hk => ?_, fun k hk => ?_⟩
  · unfold LayQ
    rw [F.2.1]
    exact ⟨l1, fun i hi => by rw [ir]; exact l2 i hi, l3⟩
  · simp only [i0]
    exact ⟨p0, p1, p2, p3, p4, p5, p6, p7, p8⟩
  · rw [ii 1 _ (by decide), ii 2 _ (by decide), ii 3 _ (by decide), ii 4 _ (by decide), il]; exact r1 w' hw'
  · rw [il]; exact r2 w' h1 h2
  · rw [ii 7 _ (by decide), (F.2.2.2 (q + 6) (5 * g + w') (by omega)).1]; exact r3 g w' hg hw'
  · rw [ii 8 _ (by decide)]; exact r4 g hg
  · rw [ii 9 _ (by decide)]; exact r5 g hg hz
  · rw [ii 10 _ (by decide), ii 11 _ (by decide), ii 12 _ (by decide)]; exact r6 k hk
  · rw [ii 13 _ (by decide), ii 14 _ (by decide)]; exact r7 k hk
theorem RdQ.feast {of : Int32} {E : DD} (R : RdQ h q D br) (F : Fr (fun u j => (u = q ∧ j = 4) ∨ (u = q + 7 ∧ j = dF D)) h h') (hF : dF D < 4) (hE : ∀ i j, i ≠ 6 + dF D → E.1 i j = D.1 i j) (hG : E.2 = D.2) (O : OfR h q (dF D) of E) (h0 : dEv D (dF D) = 0) (e7 : hI h' (q + 7) (dF D) = of) (e4 : hI h' q 4 = nI (dF D + 1)) : RdQ h' q (ds E 0 1 (dF D + 1)) br := by
  obtain ⟨⟨l1, l2, l3⟩, ⟨p0, p1, p2, p3, p4, p5, p6, p7, p8⟩, r1, r2, r3, r4, r5, r6, r7⟩ := R
  have ii : ∀ i j, 1 ≤ i → (i ≠ 7 ∨ j ≠ dF D) → hI h' (q + i) j = hI h (q + i) j := fun i j hi h5 => (F.2.2.2 _ _ (by omega)).1
  have i0 : ∀ j, j ≠ 4 → hI h' q j = hI h q j := fun j hj => (F.2.2.2 _ _ (by omega)).1
  have il : ∀ j, hL h' (q + 5) j = hL h (q + 5) j := fun j => (F.2.2.2 _ _ (by omega)).2.1
  have ir : ∀ j, j ≠ 4 → hR h' q j = hR h q j := fun j hj => (F.2.2.2 _ _ (by omega)).2.2
  have g : ∀ i j, i ≠ 6 + dF D → ¬ (i = 0 ∧ j = 1) → (ds E 0 1 (dF D + 1)).1 i j = D.1 i j := fun i j h1 h2 => (ds_n h2).trans (hE i j h1)
  have eX : ∀ f w, dX (ds E 0 1 (dF D + 1)) f w = dX E f w := fun f w => ds_n (by omega)
  have eX2 : ∀ f w, f ≠ dF D → dX (ds E 0 1 (dF D + 1)) f w = dX D f w := fun f w hf => g (6 + f) w (by omega) (by omega)
  have eW : dW (ds E 0 1 (dF D + 1)) = dW D := g 0 0 (by omega) (by omega)
  have eF : dF (ds E 0 1 (dF D + 1)) = dF D + 1 := ds_s
  have eN : dN (ds E 0 1 (dF D + 1)) = dN D := g 0 2 (by omega) (by omega)
  have eSe : dSe (ds E 0 1 (dF D + 1)) = dSe D := g 0 6 (by omega) (by omega)
  have ev : ∀ f, dEv (ds E 0 1 (dF D + 1)) f = dEv D f := fun f => g 13 f (by omega) (by omega)
  refine ⟨?_, ⟨?_, ?_, ?_, ?_, e4, ?_, ?_, ?_, ?_⟩, fun w' hw' => ?_, fun w' h1 h2 => ?_, fun f w hf hw => ?_, fun f hf => ?_, fun f hf hz => ?_, fun k hk => ?_, fun k hk => ?_⟩
  · unfold LayQ
    rw [F.2.1]
    exact ⟨l1, fun i hi => by rw [ir _ (by omega)]; exact l2 i hi, l3⟩
  · rw [i0 _ (by decide), show dOil (ds E 0 1 (dF D + 1)) = dOil D from g 0 3 (by omega) (by omega)]; exact p0
  · rw [i0 _ (by decide), show dSl (ds E 0 1 (dF D + 1)) = dSl D from g 0 4 (by omega) (by omega)]; exact p1
  · rw [i0 _ (by decide), eW]; exact p2
  · rw [i0 _ (by decide), eW, p3]
    exact congrArg nI (sumN_c (dW D) (fun k _ => g 5 k (by omega) (by omega))).symm
  · rw [i0 _ (by decide), eN]; exact p5
  · rw [i0 _ (by decide), eF, p6]
    refine congrArg nI ?_
    show _ = sumN (fun f => if dEv (ds E 0 1 (dF D + 1)) f = 0 then 0 else 1) (dF D) + (if dEv (ds E 0 1 (dF D + 1)) (dF D) = 0 then 0 else 1)
    rw [ev (dF D), if_pos h0, sumN_c (f := fun f => if dEv D f = 0 then 0 else 1) (g := fun f => if dEv (ds E 0 1 (dF D + 1)) f = 0 then 0 else 1) (dF D) (fun k _ => by show (if dEv (ds E 0 1 (dF D + 1)) k = 0 then 0 else 1) = _; rw [ev])]
    rfl
  · rw [i0 _ (by decide), show dSu (ds E 0 1 (dF D + 1)) = dSu D from g 0 5 (by omega) (by omega)]; exact p7
  · rw [i0 _ (by decide), eSe]; exact p8
  · rw [eW] at hw'
    rw [ii 1 _ (by decide) (by omega), ii 2 _ (by decide) (by omega), ii 3 _ (by decide) (by omega), ii 4 _ (by decide) (by omega), il, show dK (ds E 0 1 (dF D + 1)) w' = dK D w' from g 1 w' (by omega) (by omega), show dT (ds E 0 1 (dF D + 1)) w' = dT D w' from g 2 w' (by omega) (by omega), show dB (ds E 0 1 (dF D + 1)) w' = dB D w' from g 3 w' (by omega) (by omega), show dA (ds E 0 1 (dF D + 1)) w' = dA D w' from g 4 w' (by omega) (by omega), show dG (ds E 0 1 (dF D + 1)) w' = dG D w' from congrFun hG w']
    exact r1 w' hw'
  · rw [eW] at h1
    rw [il]; exact r2 w' h1 h2
  · rw [eF] at hf
    rw [ii 6 _ (by decide) (by omega)]
    by_cases z : f = dF D
    · subst z
      rw [e7, eX]
      exact O w hw
    · rw [eX2 f w z, ii 7 _ (by decide) (Or.inr z)]
      exact r3 f w (by omega) hw
  · rw [ii 8 _ (by decide) (by omega), ev]; exact r4 f hf
  · rw [eF] at hf
    rw [ev] at hz
    rw [ii 9 _ (by decide) (by omega), show dFr (ds E 0 1 (dF D + 1)) f = dFr D f from g 14 f (by omega) (by omega)]
    by_cases z : f = dF D
    · rw [z, h0] at hz; omega
    · exact r5 f (by omega) hz
  · rw [eN] at hk
    rw [ii 10 _ (by decide) (by omega), ii 11 _ (by decide) (by omega), ii 12 _ (by decide) (by omega), show dTk (ds E 0 1 (dF D + 1)) k = dTk D k from g 10 k (by omega) (by omega), show dWo (ds E 0 1 (dF D + 1)) k = dWo D k from g 11 k (by omega) (by omega), show dTi (ds E 0 1 (dF D + 1)) k = dTi D k from g 12 k (by omega) (by omega)]
    exact r6 k hk
  · rw [eSe] at hk
    rw [ii 13 _ (by decide) (by omega), ii 14 _ (by decide) (by omega), show dSd (ds E 0 1 (dF D + 1)) k = dSd D k from g 15 k (by omega) (by omega), show dSj (ds E 0 1 (dF D + 1)) k = dSj D k from g 16 k (by omega) (by omega)]
    exact r7 k hk
theorem OfR.fr {f : Nat} {of : Int32} {E : DD} (O : OfR h q f of E) (F : Fr S h h') (h6 : ∀ k, ¬ S (q + 6) k) : OfR h' q f of E := fun w hw => ⟨(O w hw).1, fun e => by rw [(F.2.2.2 _ _ (h6 _)).1]; exact (O w hw).2 e⟩
theorem OfR.add {f w t : Nat} {of : Int32} {E : DD} (O : OfR h q f of E) (hw : w < 5) : OfR (uI h (q + 6) (5 * f + w) (nI t)) q f (of ||| ((1 : Int32) <<< (nI w &&& 31))) (ds E (6 + f) w (t + 1)) := by
  intro w' hw'
  have u : dX (ds E (6 + f) w (t + 1)) f w' = if w' = w then t + 1 else dX E f w' := by
    show (ds E (6 + f) w (t + 1)).1 (6 + f) w' = _
    rw [ds_u]
    by_cases y : w' = w
    · rw [if_pos ⟨rfl, y⟩, if_pos y]
    · rw [if_neg (fun e => y e.2), if_neg y]; rfl
  rw [u, bt_or _ _ (by omega), bt_sl (by omega) (by omega)]
  by_cases y : w' = w
  · rw [if_pos y, decide_eq_true y, Bool.or_true, decide_eq_true (by omega)]
    refine ⟨rfl, fun _ => ?_⟩
    rw [y, hI_uIs, Nat.add_sub_cancel]
  · rw [if_neg y, decide_eq_false y, Bool.or_false]
    refine ⟨(O w' hw').1, fun e => ?_⟩
    rw [hI_uIk (by omega)]
    exact (O w' hw').2 e
theorem ok_m_feast (C : GL h m q X D br N (0, a)) (W : WfR D br N) (hw : isW X 6 a = true) : Ok (f_m_readFeast m h) (fun _ h' => Fr (SZ m q) h h' ∧ GL h' m q X (dnF X D N br a) br (nnF X D N br a) (lnF X D N br a)) := by
  have R := C.gs
  obtain ⟨P, rQ⟩ := C.2.2 rfl
  have qb := R.qb
  have hO := W.1.1.2.2.2.2.1
  have W5 := W.1.1.1
  have W4 := W.1.1.2.1
  have WN := W.1.1.2.2.1
  have wN := W.2.1
  have E9 := C.1.2.2.2.2.2.1
  unfold f_m_readFeast
  refine ok_gd R.s (ok_bR R.h4 (ok_gd rQ.1.1 (ok_lt ?_)))
  rw [rQ.2.1.2.2.2.2.1]
  refine j_begins (dF D) 4 R rQ hO (isW_5 hw) (by omega) (by decide) rfl rfl (fun h3 R3 => ?_)
  change GS h h3 m q X (lb X br (dF D) 4 a) at R3
  refine j_fresh R3 (P.gs R3) (fun v6 h5 R5 hr6 => ?_)
  change GS h h5 m q X (f2 X D N br a) at R5
  have rQ5 := rQ.gs R5
  refine ok_gd R5.s (ok_bR R5.h4 (ok_gd rQ5.1.1 (ok_lt ?_)))
  rw [rQ5.2.1.2.2.2.2.1]
  have cz : (f2 X D N br a).1 = 0 → v6 = lN (tW X (lb X br (dF D) 4 a).2) ∧ tW X (lb X br (dF D) 4 a).2 < 32 ^ 8 ∧ dF D < 4 := fun z => by
    have zT := cS_z z
    have z2 := cT_z zT
    have z3 := lb_z z2.1
    exact ⟨hr6 zT, (tW_cv (isNm_w z2.2.1)).2, by omega⟩
  have fd0 : (f2 X D N br a).1 = 0 → FD D N (dF D) := fun z => ⟨W5, fun w hw => by have := W.1.1.2.2.2.2.2.2.2.1 w hw; omega, fun w hw => (isK_n hw W).1 rfl, rfl, (cz z).2.2, fun w hw => by rw [W.2.2.2.1 (dF D) w (Nat.le_refl _) (cz z).2.2]; omega⟩
  generalize hs0 : fpart X N (dF D) (D, f2 X D N br a) = s0
  have hfall : fall X D N br a = run (fnext X N (dF D)) (fmore X) 1000 s0 := by unfold fall; rw [hs0]
  have hz0 : s0.2.1 = 0 → (f2 X D N br a).1 = 0 := fun z => by rw [← hs0] at z; exact (fpart_z z).1
  have hs0b : s0.2.1 = 0 → s0.2.2 ≤ X.2 := fun z => by
    have z0 := hz0 z
    have b0 : (f2 X D N br a).2 ≤ X.2 := (R5.2.2.2.1 z0).1.1
    rw [← hs0] at z ⊢
    exact fpart_b (s := (D, f2 X D N br a)) b0 z
  -- what is left of D by the parts
  have keep : ∀ k i j, i ≠ 6 + dF D → (itn (fnext X N (dF D)) k s0).1.1 i j = D.1 i j := by
    intro k
    induction k with
    | zero =>
      intro i j hi
      show s0.1.1 i j = _
      rw [← hs0]
      exact ds_n (by show ¬ (i = 6 + dF D ∧ _); omega)
    | succ k ih =>
      intro i j hi
      show (ds (itn (fnext X N (dF D)) k s0).1 (6 + dF D) _ _).1 i j = _
      rw [ds_n (by omega)]
      exact ih i j hi
  have keepG : ∀ k, (itn (fnext X N (dF D)) k s0).1.2 = D.2 := by
    intro k
    induction k with
    | zero => show s0.1.2 = _; rw [← hs0]; rfl
    | succ k ih => exact ih
  have FD0 : s0.2.1 = 0 → FD s0.1 N (dF D) := fun z => by
    have z' := hz0 z
    rw [← hs0] at z ⊢
    exact FD.part (s := (D, f2 X D N br a)) (fd0 z') z
  have O0 : OfR h5 q (dF D) 0 D ∨ ¬ (f2 X D N br a).1 = 0 := by
    by_cases z : (f2 X D N br a).1 = 0
    · refine Or.inl (fun w hw => ?_)
      rw [W.2.2.2.1 (dF D) w (Nat.le_refl _) (cz z).2.2, bt_0 (by omega)]
      exact ⟨rfl, fun e => absurd rfl e⟩
    · exact Or.inr z
  refine ok_lt (ok_lt (ok_up (X.2 + 2) (fun i st h' => Fr (SZ m q) h h' ∧ RdQ h' q D br ∧ NmM h' q N ∧ ∃ of : Int32, (∃ p : DD × CU, st = (m, v6, nI (dF D), of, 1) ∧ fpart X N (dF D) p = itn (fnext X N (dF D)) i s0 ∧ (∀ k, k < i → fmore X (itn (fnext X N (dF D)) k s0) = true) ∧ GS h' h' m q X p.2 ∧ (p.2.1 = 0 → OfR h' q (dF D) of p.1 ∧ FD p.1 N (dF D) ∧ (f2 X D N br a).1 = 0 ∧ ∀ w, dT p.1 w = dT D w ∧ dW p.1 = dW D)) ∨ (∃ j, st = (m, v6, nI (dF D), of, 0) ∧ i = j + 1 ∧ fall X D N br a = itn (fnext X N (dF D)) j s0 ∧ (itn (fnext X N (dF D)) j s0).2.1 = 0 ∧ (f2 X D N br a).1 = 0 ∧ GS h' h' m q X (itn (fnext X N (dF D)) j s0).2 ∧ OfR h' q (dF D) of (itn (fnext X N (dF D)) j s0).1)) ?_ FU 0 _ _ (Nat.zero_le _) ⟨R5.fx, rQ5, P.gs R5, 0, Or.inl ⟨(D, f2 X D N br a), rfl, hs0, fun k hk => absurd hk (Nat.not_lt_zero _), R5.rb, fun z => ⟨O0.resolve_right (fun y => y z), fd0 z, z, fun w => ⟨rfl, rfl⟩⟩⟩⟩ (by show _ < 10000; omega)))
  intro k i st h6 hi hI' kk
  obtain ⟨F6, rQ6, P6, of, hA | hB⟩ := hI'
  · obtain ⟨p, rfl, hp, hm, R6, hof⟩ := hA
    show Ok (b_m_readFeast_31 k m v6 (nI (dF D)) of 1 h6) _
    unfold b_m_readFeast_31
    refine ok_f (by decide) ?_
    refine j_known 0 R6 P6 (by decide) rfl (fun v10 h9 R9 hr10 => ?_)
    have kz : (cK X N 0 p.2).1 = 0 → p.2.1 = 0 ∧ v10 = nI (kn N (tW X p.2.2)) ∧ kn N (tW X p.2.2) < dW D ∧ tS X p.2.2 = 1 := fun z => by
      have z1 := cK_z z
      obtain ⟨o1, o2, o3, o4⟩ := hof z1.1
      have := o2.2.2.1 _ z1.2.2.1
      rw [(o4 0).2] at this
      exact ⟨z1.1, hr10 z, this, isNm_w z1.2.1⟩
    -- a part's end
    have go101 : ∀ h10 (s0' : Int32), GS h6 h10 m q X (cS X (cCk (decide (dX p.1 (dF D) (kn N (tW X p.2.2)) = 0)) 3 (cK X N 0 p.2))) → ((cK X N 0 p.2).1 = 0 → s0' = nI (dT D (kn N (tW X p.2.2)) - 1)) → Ok (b_m_readFeast_101 k m v6 (nI (dF D)) of v10 s0' 0 18 m h10) (fun _ h' => Fr (SZ m q) h h' ∧ GL h' m q X (dnF X D N br a) br (nnF X D N br a) (lnF X D N br a)) := by
      intro h10 s0' R10 hs
      unfold b_m_readFeast_101
      have c0z : (cS X (cCk (decide (dX p.1 (dF D) (kn N (tW X p.2.2)) = 0)) 3 (cK X N 0 p.2))).1 = 0 → (cK X N 0 p.2).1 = 0 := fun z => (cCk_z (by decide) (cS_z z)).1
      have hi31 : (cS X (cCk (decide (dX p.1 (dF D) (kn N (tW X p.2.2)) = 0)) 3 (cK X N 0 p.2))).1 = 0 → dT p.1 (kn N (tW X p.2.2)) - 1 < 2 ^ 31 := fun z => by
        obtain ⟨z1, -, z3, -⟩ := kz (c0z z)
        have hT := W.1.1.2.2.2.2.2.2.2.1 _ z3
        rw [((hof z1).2.2.2 _).1]
        omega
      refine j_part' 18 0 (dT p.1 (kn N (tW X p.2.2)) - 1) R10 (by decide) (by decide) (by decide) hi31 (fun z => ⟨rfl, by rw [((hof (kz (c0z z)).1).2.2.2 _).1]; exact hs (c0z z)⟩) (fun v2 h11 R11 hr2 => ?_)
      have hR11 : GS h6 h11 m q X (fpart X N (dF D) p).2 := R11
      have hr2' : (fpart X N (dF D) p).2.1 = 0 → v2 = nI (tN X (fp4 X N (dF D) p).2) := hr2
      rw [hp] at hR11 hr2'
      refine ok_gd R11.s (ok_lt (j_st hR11 (fun e => ok_ret ?_) (fun e => ?_)))
      · -- a fault: the parts end here
        have hno : fmore X (itn (fnext X N (dF D)) i s0) = false := decide_eq_false (fun y => e y.1)
        have hi2 : i ≤ 900 ∨ i = 0 := by
          cases i with
          | zero => exact Or.inr rfl
          | succ i =>
            have zi := (of_decide_eq_true (hm i (by omega))).1
            have zs0 : s0.2.1 = 0 := (of_decide_eq_true (hm 0 (by omega))).1
            obtain ⟨b1, b2⟩ := run_ok (N := N) (f := dF D) (s := s0) i (fun k hk => hm k (by omega)) (hs0b zs0) i (Nat.le_refl _) zi
            have := tS_lt (X := X) (a := (itn (fnext X N (dF D)) i s0).2.2) (by have := (of_decide_eq_true (hm i (by omega))).2; omega)
            exact Or.inl (by omega)
        have ef : fall X D N br a = itn (fnext X N (dF D)) i s0 := by
          rw [hfall]
          exact run_it _ _ i 1000 s0 (by omega) hm hno
        unfold lnF
        rw [ef]
        exact ⟨F6.trans hR11.fx, hR11.2.1, hR11.2.2, fun z => absurd z e⟩
      · have ep : (fpart X N (dF D) p).2.1 = 0 := by rw [hp]; exact e
        obtain ⟨z1, z2, z3, z4, z5, z6, z7, z8⟩ := fpart_z ep
        have zk : (cK X N 0 p.2).1 = 0 := c0z (cP_z (cW_z ep).1).1
        obtain ⟨-, u10, wl, -⟩ := kz zk
        have u2 := hr2' e
        obtain ⟨o1, o2, o3, o4⟩ := hof z1
        have l4 := (cz o3).2.2
        have rQ11 := rQ6.gs hR11
        have L := rQ11.1
        have d5 : hR h11 q 15 = some (q + 6) := L.2.1 5 (by decide)
        have t5 : hS h11 (q + 6) = some (.inr (0, 20)) := L.2.2.2.2.1
        have w5 : kn N (tW X p.2.2) < 5 := by omega
        rw [u10, u2]
        refine ok_lt (ok_gd R11.s (ok_bR R11.h4 (ok_gd L.1 (ok_bR d5 ?_))))
        rw [nI_i5']
        refine ok_gd (ai_of t5 (by omega) (by decide)) (ok_lt ?_)
        rw [nI_clamp (by omega)]
        have FB : Fr (fun u j => u = q + 6 ∧ j = 5 * dF D + kn N (tW X p.2.2)) h11 (uI h11 (q + 6) (5 * dF D + kn N (tW X p.2.2)) (nI (tN X (fp4 X N (dF D) p).2))) := fr_uI ⟨rfl, rfl⟩
        have R12 := hR11.w FB (fun b k e => by omega)
        have O12 := (o1.fr hR11.1 (fun k => by unfold SM; omega)).add (w := kn N (tW X p.2.2)) (t := tN X (fp4 X N (dF D) p).2) w5
        have eD : ds p.1 (6 + dF D) (kn N (tW X p.2.2)) (tN X (fp4 X N (dF D) p).2 + 1) = (itn (fnext X N (dF D)) i s0).1 := by rw [← hp]; rfl
        rw [eD] at O12
        have rQ12 := rQ11.row FB (Nat.le_refl _) w5
        have P12 := (P6.gs hR11).fr FB (by omega) (fun k => by omega) (fun k => by omega) (fun k => by omega)
        have F12 : Fr (SZ m q) h (uI h11 (q + 6) (5 * dF D + kn N (tW X p.2.2)) (nI (tN X (fp4 X N (dF D) p).2))) := (F6.trans hR11.fx).trans (FB.mono (fun b k e => by unfold SZ; omega))
        have zs0 : s0.2.1 = 0 := by
          cases i with
          | zero => exact e
          | succ i => exact (of_decide_eq_true (hm 0 (by omega))).1
        obtain ⟨b1, b2⟩ := run_ok (N := N) (f := dF D) (s := s0) i hm (hs0b zs0) i (Nat.le_refl _) e
        generalize uI h11 (q + 6) (5 * dF D + kn N (tW X p.2.2)) (nI (tN X (fp4 X N (dF D) p).2)) = h12 at *
        refine j_eats 4 R12 (by decide) rfl (fun h13 y1 y2 R13 => ?_) (fun y => ?_)
        · refine kk _ _ (by omega) ⟨F12.trans R13.fx, rQ12.gs R13, P12.gs R13, _, Or.inl ⟨((itn (fnext X N (dF D)) i s0).1, cS X (itn (fnext X N (dF D)) i s0).2), rfl, rfl, fun k hk => ?_, R13.rb, fun z => ⟨O12.fr R13.1 (fun k => by unfold SM; omega), FD.run (X := X) FD0 i e, o3, fun w => ⟨keep i 2 w (by omega), keep i 0 0 (by omega)⟩⟩⟩⟩
          by_cases w : k = i
          · rw [w]; exact decide_eq_true ⟨y1, y2⟩
          · exact hm k (by omega)
        · have hno : fmore X (itn (fnext X N (dF D)) i s0) = false := decide_eq_false (fun z => y z.1 z.2)
          have ef : fall X D N br a = itn (fnext X N (dF D)) i s0 := by
            rw [hfall]
            exact run_it _ _ i 1000 s0 (by omega) hm hno
          exact kk _ _ (by omega) ⟨F12, rQ12, P12, _, Or.inr ⟨i, rfl, rfl, ef, e, o3, R12, O12⟩⟩
    have go67 : ∀ h10, GS h6 h10 m q X (cCk (decide (dX p.1 (dF D) (kn N (tW X p.2.2)) = 0)) 3 (cK X N 0 p.2)) → Ok (b_m_readFeast_67 k m v6 (nI (dF D)) of v10 h10) (fun _ h' => Fr (SZ m q) h h' ∧ GL h' m q X (dnF X D N br a) br (nnF X D N br a) (lnF X D N br a)) := by
      intro h10 R10
      unfold b_m_readFeast_67
      refine j_on R10 (fun z => ?_) (fun h11 R11 => ?_)
      · rw [cCk_2, cK_2]
        have := (kz (cCk_z (by decide) z).1).2.2.2
        omega
      by_cases zk : (cK X N 0 p.2).1 = 0
      · obtain ⟨z1, u10, wl, -⟩ := kz zk
        have hT := W.1.1.2.2.2.2.2.2.2.1 _ wl
        refine ok_gd R11.s (ok_lt (j_st R11 (fun e => ?_) (fun e => ?_)))
        · -- behind a fault the answer is of no weight
          have : ∀ s0' : Int32, Ok (b_m_readFeast_101 k m v6 (nI (dF D)) of v10 s0' 0 18 m h11) (fun _ h' => Fr (SZ m q) h h' ∧ GL h' m q X (dnF X D N br a) br (nnF X D N br a) (lnF X D N br a)) := by
            intro s0'
            unfold b_m_readFeast_101
            refine j_part' 18 0 0 R11 (by decide) (by decide) (by decide) (fun z => absurd z e) (fun z => absurd z e) (fun v2 h12 R12 hr2 => ?_)
            have ee : cW X 0 0 (cP X 18 (cS X (cCk (decide (dX p.1 (dF D) (kn N (tW X p.2.2)) = 0)) 3 (cK X N 0 p.2)))) = (fpart X N (dF D) p).2 := by
              unfold fpart fp4
              rw [cP_n e, cW_n e, cW_n e]
            rw [ee, hp] at R12
            have e2 : (itn (fnext X N (dF D)) i s0).2.1 ≠ 0 := by
              rw [← hp, ← ee, cP_n e, cW_n e]
              exact e
            refine ok_gd R12.s (ok_lt (j_st R12 (fun _ => ok_ret ?_) (fun z => absurd z e2)))
            have hno : fmore X (itn (fnext X N (dF D)) i s0) = false := decide_eq_false (fun y => e2 y.1)
            have hi2 : i ≤ 902 := by omega
            have ef : fall X D N br a = itn (fnext X N (dF D)) i s0 := by
              rw [hfall]
              exact run_it _ _ i 1000 s0 (by omega) hm hno
            unfold lnF
            rw [ef]
            exact ⟨F6.trans R12.fx, R12.2.1, R12.2.2, fun z => absurd z e2⟩
          exact this _
        · have rQ11 := rQ6.gs R11
          have L := rQ11.1
          have d1 : hR h11 q 11 = some (q + 2) := L.2.1 1 (by decide)
          have t1 : hS h11 (q + 2) = some (.inr (0, 5)) := L.2.2.1 1 (by decide)
          have w5 : kn N (tW X p.2.2) < 5 := by omega
          have g101 := go101 h11 (nI (dT D (kn N (tW X p.2.2)) - 1)) R11 (fun _ => rfl)
          rw [u10] at g101 ⊢
          refine ok_gd R11.s (ok_bR R11.h4 (ok_gd L.1 (ok_bR d1 (ok_gd (ai_of t1 w5 (by decide)) (ok_lt ?_)))))
          rw [nI_clamp (by omega), (rQ11.2.2.1 _ wl).2.1, nI_s (by omega)]
          exact g101
      · have e : (cS X (cCk (decide (dX p.1 (dF D) (kn N (tW X p.2.2)) = 0)) 3 (cK X N 0 p.2))).1 ≠ 0 := by
          rw [cCk_n zk, cS_n zk]
          exact zk
        exact ok_gd R11.s (ok_lt (j_st R11 (fun _ => go101 h11 _ R11 (fun z => absurd z zk)) (fun z => absurd z e)))
    refine ok_gd R9.s (ok_lt (j_st R9 (fun e => go67 h9 (by rw [cCk_n e]; exact R9)) (fun e => ?_)))
    obtain ⟨z1, u10, wl, -⟩ := kz e
    obtain ⟨o1, o2, o3, o4⟩ := hof z1
    have w5 : kn N (tW X p.2.2) < 5 := by omega
    have g67 := go67
    rw [u10] at g67 ⊢
    refine ok_bde (e_m_bit of _) ?_
    rw [(o1 _ w5).1]
    refine ok_ib (fun g => g67 h9 ?_) (fun g => j_flaw R9 rfl (by decide) (by decide) (fun h10 R10 => g67 h10 ?_))
    · have g2 : dX p.1 (dF D) (kn N (tW X p.2.2)) = 0 := by
        have := of_decide_eq_false g
        omega
      unfold cCk
      rw [decide_eq_true g2]
      exact R9
    · unfold cCk
      rw [decide_eq_false (of_decide_eq_true g)]
      exact R10
  · obtain ⟨j, rfl, hij, ef, e, hz, R6, O6⟩ := hB
    obtain ⟨u6, wb, l4⟩ := cz hz
    show Ok (b_m_readFeast_31 k m v6 (nI (dF D)) of 0 h6) _
    unfold b_m_readFeast_31
    rw [u6]
    refine ok_t rfl (ok_gd R6.s (ok_bd (ok_mono (ok_m_names (n := dF D) R6 P6 (by omega) wb (s := 1) (by decide) rfl rfl) ?_)))
    intro _ h7 hx
    obtain ⟨F7, P7⟩ := hx
    have R7 := R6.w F7 (fun b k e => by unfold SNq at e; omega)
    have rQ7 := rQ6.nm F7
    have O7 := O6.fr F7 (fun k => by unfold SNq; omega)
    have L := rQ7.1
    have b1 := L.1
    have d6 : hR h7 q 16 = some (q + 7) := L.2.1 6 (by decide)
    have t6 : hS h7 (q + 7) = some (.inr (0, 4)) := L.2.2.2.2.2.1 0 (by decide)
    refine ok_gd R7.s (ok_bR R7.h4 (ok_gd b1 (ok_bR d6 (ok_gd (ai_of t6 l4 (by decide)) (ok_lt ?_)))))
    rw [nI_clamp (by omega)]
    refine ok_gd (by exact R7.s) (ok_bR (by exact R7.h4) (ok_gd (by exact b1) (ok_lt (ok_gd (by exact b1) (ok_lt (ok_ret ?_))))))
    rw [hI_uIa (by omega), rQ7.2.1.2.2.2.2.1, nI_1]
    have FB : Fr (fun u j => (u = q ∧ j = 4) ∨ (u = q + 7 ∧ j = dF D)) h7 (uI (uI h7 (q + 7) (dF D) of) q 4 (nI (dF D + 1))) := (fr_uI (Or.inr ⟨rfl, rfl⟩)).trans (fr_uI (Or.inl ⟨rfl, rfl⟩))
    have R8 := R7.w FB (fun b k e => by omega)
    unfold lnF dnF
    rw [ef]
    refine ⟨(F6.trans (F7.mono (fun b k e => by unfold SNq at e; unfold SZ; omega))).trans (FB.mono (fun b k e => by unfold SZ; omega)), R8.2.1, R8.2.2, fun _ => ⟨P7.fr FB (by omega) (fun k => by omega) (fun k => by omega) (fun k => by omega), ?_⟩⟩
    refine rQ7.feast FB l4 (keep j) (keepG j) O7 (W.2.2.2.2.1 _ (Nat.le_refl _) l4).1 ?_ hI_uIs
    rw [hI_uIa (by omega), hI_uIs]
end G6
