/-! the class's reader: wheel, gone -/
theorem e_Math_min {a b : Int32} {h : Hp} : f_Math_min a b h = some (if b < a then b else a, h) := by
  unfold f_Math_min
  by_cases q : b < a
  · rw [if_pos q, if_pos q]
  · rw [if_neg q, if_neg q]
theorem min_nI {t : Nat} (ht : t < 2 ^ 31) : (if nI t < 9 then nI t else 9) = nI (min 9 t) := by
  show (if nI t < nI 9 then nI t else nI 9) = _
  by_cases q : t < 9
  · rw [if_pos (nI_lt (b := 9) q (by decide)), Nat.min_eq_right (by omega)]
  · rw [if_neg (nI_nlt (b := 9) (by omega) ht), Nat.min_eq_left (by omega)]
section KW
variable {α : Type} {h0 h : Hp} {x o m q : Nat} {X : TX} {c : CU} {Q : α → Hp → Prop}
theorem cW_n {lo hi : Nat} (h : c.1 ≠ 0) : cW X lo hi c = c := by unfold cW; rw [cH_n h, cS_n h]
theorem k_whole' {f : Int32 → Hp → Option (α × Hp)} (lo hi : Nat) {v w : Int32} (R : RS h0 h x o X c) (hlo : lo < 2 ^ 31) (hhi : c.1 = 0 → hi < 2 ^ 31) (hv : c.1 = 0 → v = nI lo ∧ w = nI hi) (kk : ∀ r h1, RS h0 h1 x o X (cW X lo hi c) → ((cW X lo hi c).1 = 0 → r = nI (tN X c.2) ∧ hI h1 (x + 2) 11 = nI c.2) → Ok (f r h1) Q) : Ok (gd (hS h (x + 2) = some (.inl 1)) (bd (f_R_readWhole (x + 2) v w h) f)) Q := by
  by_cases e : c.1 = 0
  · exact k_whole lo hi R hlo (hhi e) hv kk
  · refine k_whole lo 0 R hlo (by decide) (fun z => absurd z e) (fun r h1 R1 _ => kk r h1 ?_ (fun z => absurd (cW_z z).1 e))
    rw [cW_n e] at R1 ⊢
    exact R1
theorem j_hand' {f : Int32 → Hp → Option (α × Hp)} (lo hi : Nat) {v w : Int32} (R : GS h0 h m q X c) (hlo : lo < 2 ^ 31) (hhi : c.1 = 0 → hi < 2 ^ 31) (hv : c.1 = 0 → v = nI lo ∧ w = nI hi) (kk : ∀ r h1, GS h0 h1 m q X (cH X lo hi c) → ((cH X lo hi c).1 = 0 → r = nI (tN X c.2)) → Ok (f r h1) Q) : Ok (gd (hS h m = some (.inl 11)) (bd (f_m_wholeAtHand m v w h) f)) Q := by
  by_cases e : c.1 = 0
  · exact j_hand lo hi R hlo (hhi e) hv kk
  · refine j_hand lo 0 R hlo (by decide) (fun z => absurd z e) (fun r h1 R1 _ => kk r h1 ?_ (fun z => absurd (cH_z z).1 e))
    rw [cH_n e] at R1 ⊢
    exact R1
theorem j_part' {f : Int32 → Hp → Option (α × Hp)} (k lo hi : Nat) {v w : Int32} (R : GS h0 h m q X c) (hk : k < 24) (h0k : 0 < k) (hlo : lo < 2 ^ 31) (hhi : c.1 = 0 → hi < 2 ^ 31) (hv : c.1 = 0 → v = nI lo ∧ w = nI hi) (kk : ∀ r h1, GS h0 h1 m q X (cW X lo hi (cP X k c)) → ((cW X lo hi (cP X k c)).1 = 0 → r = nI (tN X (cP X k c).2)) → Ok (f r h1) Q) : Ok (gd (hS h m = some (.inl 11)) (bd (f_m_readPart m k v w h) f)) Q := by
  by_cases e : c.1 = 0
  · exact j_part k lo hi R hk h0k hlo (hhi e) hv kk
  · have e2 : (cP X k c).1 ≠ 0 := fun z => e (cP_z z).1
    refine j_part k lo 0 R hk h0k hlo (by decide) (fun z => absurd z e) (fun r h1 R1 _ => kk r h1 ?_ (fun z => absurd (cW_z z).1 e2))
    rw [cW_n e2] at R1 ⊢
    exact R1
end KW
/-- the reader's own cells -/
def SQ (x a k : Nat) : Prop := (a = x + 2 ∧ 3 ≤ k ∧ k ≤ 12) ∨ (x + 3 ≤ a ∧ a ≤ x + 5)
theorem SR_SQ {x a k : Nat} (e : SR (x + 2) a k) : SQ x a k := Or.inl ⟨e.1, by have := e.2; omega, by have := e.2; omega⟩
theorem SN_SQ {x a k : Nat} (e : SN x a k) : SQ x a k := by
  unfold SN at e
  unfold SQ
  omega
theorem SQ_SX {x o a k : Nat} (e : SQ x a k) : SX x o a k := by
  unfold SQ at e
  unfold SX
  omega
theorem RdO.sq {h h' : Hp} {x o : Nat} {D : DD} (R : RdO h o D) (F : Fr (SQ x) h h') (ho : x + 6 ≤ o) (hW : dW D ≤ 5) : RdO h' o D := R.fr F (fun i k hi => by unfold SQ; omega) hW
section L2
variable {S : Nat → Nat → Prop} {h0 h h' : Hp} {x o a : Nat} {X : TX} {D : DD} {br : Bool} {N : NN} {c c' : CU}
theorem RdO.wheel {k t b f : Nat} (R : RdO h o D) (L : LayO h' o) (F : Fr (fun a j => (a = o ∧ j = 2) ∨ a = o + 10 + dW D) h h') (w0 : hI h' (o + 10 + dW D) 0 = nI k) (w1 : hI h' (o + 10 + dW D) 1 = nI t) (w2 : hI h' (o + 10 + dW D) 2 = nI b) (w3 : hI h' (o + 10 + dW D) 3 = nI f) (w4 : hI h' (o + 10 + dW D) 4 = nI 0) (w5 : hL h' (o + 10 + dW D) 5 = 0) (e2 : hI h' o 2 = nI (dW D + 1)) : RdO h' o (whD D k t b f) := by
  obtain ⟨⟨-, ⟨p1, p2, p3, p4, p5, p6, p7⟩, oW, oX, oK, oE, oS⟩, r2, r3⟩ := R
  have ii : ∀ i k, (i = 0 → k ≠ 2) → i ≠ 10 + dW D → hI h' (o + i) k = hI h (o + i) k := fun i k hk h2 => (F.2.2.2 _ _ (by omega)).1
  have i0 : ∀ k, k ≠ 2 → hI h' o k = hI h o k := fun k hk => ii 0 k (fun _ => hk) (by omega)
  have il : ∀ i k, (i = 0 → k ≠ 2) → i ≠ 10 + dW D → hL h' (o + i) k = hL h (o + i) k := fun i k hk h2 => (F.2.2.2 _ _ (by omega)).2.1
  have ex : ∀ f' w, dX (whD D k t b f) f' w = dX D f' w := fun f' w => by
    show (ds (ds (ds (ds (ds (ds D 0 0 (dW D + 1)) 1 (dW D) k) 2 (dW D) t) 3 (dW D) b) 4 (dW D) f) 5 (dW D) 0).1 (6 + f') w = D.1 (6 + f') w
    rw [ds_n (by omega), ds_n (by omega), ds_n (by omega), ds_n (by omega), ds_n (by omega), ds_n (by omega)]
  refine ⟨⟨L, ⟨?_, ?_, e2, ?_, ?_, ?_, ?_⟩, fun w hw => ?_, fun f w hf hw => ?_, fun k hk => ?_, fun f hf => ?_, fun k hk => ?_⟩, fun f w hf hw => ?_, fun f hf => ?_⟩
  · rw [i0 0 (by decide)]; exact p1
  · rw [i0 1 (by decide)]; exact p2
  · rw [i0 4 (by decide)]; exact p4
  · rw [i0 6 (by decide)]; exact p5
  · rw [i0 12 (by decide)]; exact p6
  · rw [i0 13 (by decide)]; exact p7
  · have hw' : w < dW D + 1 := hw
    by_cases z : w = dW D
    · subst z
      refine ⟨w0.trans ?_, w1.trans ?_, w2.trans ?_, w3.trans ?_, w4.trans ?_, w5.trans ?_⟩
      · show nI k = nI ((ds (ds (ds (ds (ds (ds D 0 0 (dW D + 1)) 1 (dW D) k) 2 (dW D) t) 3 (dW D) b) 4 (dW D) f) 5 (dW D) 0).1 1 (dW D))
        rw [ds_n (by omega), ds_n (by omega), ds_n (by omega), ds_n (by omega), ds_s]
      · show nI t = nI ((ds (ds (ds (ds (ds (ds D 0 0 (dW D + 1)) 1 (dW D) k) 2 (dW D) t) 3 (dW D) b) 4 (dW D) f) 5 (dW D) 0).1 2 (dW D))
        rw [ds_n (by omega), ds_n (by omega), ds_n (by omega), ds_s]
      · show nI b = nI ((ds (ds (ds (ds (ds (ds D 0 0 (dW D + 1)) 1 (dW D) k) 2 (dW D) t) 3 (dW D) b) 4 (dW D) f) 5 (dW D) 0).1 3 (dW D))
        rw [ds_n (by omega), ds_n (by omega), ds_s]
      · show nI f = nI ((ds (ds (ds (ds (ds (ds D 0 0 (dW D + 1)) 1 (dW D) k) 2 (dW D) t) 3 (dW D) b) 4 (dW D) f) 5 (dW D) 0).1 4 (dW D))
        rw [ds_n (by omega), ds_s]
      · show nI 0 = nI ((ds (ds (ds (ds (ds (ds D 0 0 (dW D + 1)) 1 (dW D) k) 2 (dW D) t) 3 (dW D) b) 4 (dW D) f) 5 (dW D) 0).1 5 (dW D))
        rw [ds_s]
      · exact (if_pos rfl).symm
    · have q := oW w (by omega)
      have g : ∀ i, 1 ≤ i → i ≤ 5 → (whD D k t b f).1 i w = D.1 i w := fun i h1 h2 => by
        show (ds (ds (ds (ds (ds (ds D 0 0 (dW D + 1)) 1 (dW D) k) 2 (dW D) t) 3 (dW D) b) 4 (dW D) f) 5 (dW D) 0).1 i w = D.1 i w
        rw [ds_n (by omega), ds_n (by omega), ds_n (by omega), ds_n (by omega), ds_n (by omega), ds_n (by omega)]
      rw [show o + 10 + w = o + (10 + w) by omega, ii _ _ (by omega) (by omega), ii _ _ (by omega) (by omega), ii _ _ (by omega) (by omega), ii _ _ (by omega) (by omega), ii _ _ (by omega) (by omega), il _ _ (by omega) (by omega), show o + (10 + w) = o + 10 + w by omega]
      refine ⟨q.1.trans (congrArg nI (g 1 (by decide) (by decide)).symm), q.2.1.trans (congrArg nI (g 2 (by decide) (by decide)).symm), q.2.2.1.trans (congrArg nI (g 3 (by decide) (by decide)).symm), q.2.2.2.1.trans (congrArg nI (g 4 (by decide) (by decide)).symm), q.2.2.2.2.1.trans (congrArg nI (g 5 (by decide) (by decide)).symm), q.2.2.2.2.2.trans (if_neg z).symm⟩
  · rw [ii _ _ (by omega) (by omega), ex]
    exact oX f w hf hw
  · rw [ii _ _ (by omega) (by omega), ii _ _ (by omega) (by omega), ii _ _ (by omega) (by omega)]
    exact oK k hk
  · rw [ii _ _ (by omega) (by omega), ii _ _ (by omega) (by omega)]
    exact oE f hf
  · rw [ii _ _ (by omega) (by omega), ii _ _ (by omega) (by omega)]
    exact oS k hk
  · rw [ii _ _ (by omega) (by omega), ex]
    exact r2 f w hf hw
  · rw [ii _ _ (by omega) (by omega)]
    exact r3 f hf
theorem ok_R_wheel (C : CL h x o X D true N (0, a)) (W : WfR D true N) (hw : isW X 4 a = true) : Ok (f_R_readWheel (x + 2) h) (fun _ h' => Fr (SX x o) h h' ∧ CL h' x o X (dnW X D N true a) true (nnW X D N true a) (lnW X D N true a)) := by
  obtain ⟨K, C1, P, ⟨se, hse, e13⟩, C5⟩ := id C
  obtain ⟨rD, e3⟩ := C5 rfl
  have R := C.rs
  have ob := K.ob.1
  have W5 : dW D ≤ 5 := nB W
  have wN := W.2.1
  have eW : hI h o 2 = nI (dW D) := rD.1.2.1.2.2.1
  have go : ∀ h1 c1, RS h h1 x o X c1 → c1 = cCk (decide (dW D ≠ 5)) 5 (0, a) → Ok (b_R_readWheel_20 (x + 2) h1) (fun _ h' => Fr (SX x o) h h' ∧ CL h' x o X (dnW X D N true a) true (nnW X D N true a) (lnW X D N true a)) := by
    intro h1 c1 R1 ec
    unfold b_R_readWheel_20
    refine k_pass 4 R1 (by decide) (by decide) (fun h2 R3 => ?_)
    rw [cP_w (by rw [ec, cCk_2]; exact hw), ec] at R3
    change RS h h2 x o X (lb X true (dW D) 5 a) at R3
    obtain ⟨ob3, s3, r3⟩ := R3.2.1.ob
    have lz : (lb X true (dW D) 5 a).1 = 0 → dW D < 5 := fun z => by
      obtain ⟨z1, z2, z3⟩ := cCk_z (by decide) (cS_z z)
      obtain ⟨z4, z5, z6⟩ := cCk_z (by decide) z1
      have := of_decide_eq_true z5
      omega
    have F3 : Fr (SQ x) h h2 := R3.1.mono (fun _ _ e => SR_SQ e)
    have eW3 : hI h2 o 2 = nI (dW D) := by rw [(F3.2.2.2 _ _ (by unfold SQ; omega)).1]; exact eW
    refine ok_gd R3.s (ok_bR r3 (ok_gd s3 (ok_lt (k_tell 0 (dW D) R3 (P.rs R3 (fun _ => rfl)) (by decide) (fun z => ?_) rfl (fun _ => eW3) (fun h5 F5 R5 P5 => ?_)))))
    · have := lz z
      have := W.1.1.2.1
      have := W.1.1.2.2.1
      omega
    refine k_kind R5 (fun v8 h7 R7 hr8 => ?_)
    refine k_pass 16 R7 (by decide) (by decide) (fun h9 R9 => ?_)
    refine k_whole 4 60 R9 (by decide) (by decide) (fun _ => ⟨rfl, rfl⟩) (fun v12 h11 R11 hr12 => ?_)
    change RS h5 h11 x o X (cW X 4 60 (w4 X D N true a)) at R11
    change (cW X 4 60 (w4 X D N true a)).1 = 0 → v12 = nI (wT X D N true a) ∧ _ at hr12
    refine k_pass 17 R11 (by decide) (by decide) (fun h13 R13 => ?_)
    change RS h5 h13 x o X (w6 X D N true a) at R13
    refine ok_bde e_Math_min ?_
    have tz : (w6 X D N true a).1 = 0 → v12 = nI (wT X D N true a) ∧ 4 ≤ wT X D N true a ∧ wT X D N true a ≤ 60 := fun z => by
      have z1 := cP_z z
      have z2 := cW_z z1.1
      exact ⟨(hr12 z1.1).1, z2.2.2.1, z2.2.2.2.1⟩
    have z60 : min 9 (wT X D N true a - 1) < 2 ^ 31 := Nat.lt_of_le_of_lt (Nat.min_le_left _ _) (by decide)
    have hmin : (w6 X D N true a).1 = 0 → (1 : Int32) = nI 1 ∧ (if v12 - 1 < 9 then v12 - 1 else 9) = nI (min 9 (wT X D N true a - 1)) := fun z => by
      obtain ⟨q1, q2, q3⟩ := tz z
      refine ⟨rfl, ?_⟩
      rw [q1, nI_s (by omega)]
      exact min_nI (by omega)
    refine k_whole 1 (min 9 (wT X D N true a - 1)) R13 (by decide) z60 hmin (fun v18 h17 R17 hr18 => ?_)
    refine k_pass 18 R17 (by decide) (by decide) (fun h19 R19 => ?_)
    change RS h5 h19 x o X (w8 X D N true a) at R19
    have tz8 : (w8 X D N true a).1 = 0 → v12 = nI (wT X D N true a) ∧ 4 ≤ wT X D N true a ∧ wT X D N true a ≤ 60 := fun z => tz (cW_z (cP_z z).1).1
    have hi9 : (w8 X D N true a).1 = 0 → wT X D N true a - 1 < 2 ^ 31 := fun z => by
      have := tz8 z
      omega
    have hv9 : (w8 X D N true a).1 = 0 → (0 : Int32) = nI 0 ∧ v12 - 1 = nI (wT X D N true a - 1) := fun z => by
      obtain ⟨q1, q2, q3⟩ := tz8 z
      refine ⟨rfl, ?_⟩
      rw [q1, nI_s (by omega)]
    refine k_whole' 0 (wT X D N true a - 1) R19 (by decide) hi9 hv9 (fun v22 h21 R21 hr22 => ?_)
    change RS h5 h21 x o X (lnW X D N true a) at R21
    have F21 : Fr (SQ x) h h21 := (F3.trans (F5.mono (fun _ _ e => SN_SQ e))).trans (R21.1.mono (fun _ _ e => SR_SQ e))
    have wz : (lnW X D N true a).1 = 0 → (w8 X D N true a).1 = 0 ∧ (w6 X D N true a).1 = 0 ∧ (w4 X D N true a).1 = 0 ∧ (cD X (w2 X D N true a)).1 = 0 ∧ (cT X N (lb X true (dW D) 5 a)).1 = 0 ∧ (cW X 1 (min 9 (wT X D N true a - 1)) (w6 X D N true a)).1 = 0 := fun z => by
      have z8 := (cW_z z).1
      have z7 := (cP_z z8).1
      have z6 := (cW_z z7).1
      have z4 := (cW_z (cP_z z6).1).1
      have zd := cS_z (cP_z z4).1
      have z2 := (cCk_z (by decide) zd).1
      exact ⟨z8, z6, z4, zd, cS_z z2, z7⟩
    have P21 : NC h21 x (nnW X D N true a) (lnW X D N true a) := P5.rs R21 (fun z => (wz z).2.2.2.2.1)
    refine ok_gd R21.s (ok_lt (k_ft R21 (fun z => ?_) (fun z => ok_ret ?_)))
    · obtain ⟨z8, z6, z4, zd, zT, z7⟩ := wz z
      have l5 := lz (cT_z zT).1
      have rD21 := rD.sq F21 ob W5
      obtain ⟨ob21, s21, r21⟩ := R21.2.1.ob
      have L21 := R21.2.1.2.2.2.2.2.2.2.2.1
      have m1 := L21.2.1.1
      have eW21 : hI h21 o 2 = nI (dW D) := rD21.1.2.1.2.2.1
      obtain ⟨lw1, lw2⟩ := L21.2.2.2.2.2.2.2 (dW D) l5
      refine ok_gd R21.s (ok_bR r21 (ok_gd s21 (ok_bR m1 (ok_gd R21.s (ok_bR r21 (ok_gd s21 (ok_lt ?_)))))))
      rw [eW21]
      refine ok_gd (ai_of L21.2.2.1 l5 (by decide)) ?_
      rw [nI_clamp (by omega)]
      refine ok_bR lw1 (ok_gd lw2 (ok_bd (ok_mono (ok_W_tell lw2) ?_)))
      intro _ h29 hx
      obtain ⟨F29', t0, t1, t2, t3, t4, t5⟩ := hx
      have F29 := F29'.r
      have R29 := R21.w F29 (fun a k e => ⟨Or.inr (Or.inr (Or.inr (by omega))), by omega⟩)
      obtain ⟨ob29, s29, r29⟩ := R29.2.1.ob
      refine ok_gd R29.s (ok_bR r29 (ok_gd s29 (ok_lt (ok_gd s29 (ok_lt (ok_ret ?_))))))
      have e29 : hI h29 o 2 = nI (dW D) := by rw [(F29.2.2.2 _ _ (by omega)).1]; exact eW21
      rw [e29, nI_1]
      have F33 : Fr (fun a k => a = o ∧ k = 2) h29 (uI h29 o 2 (nI (dW D + 1))) := fr_uI ⟨rfl, rfl⟩
      have R33 := R29.w F33 (fun a k e => ⟨Or.inr (Or.inr (Or.inl ⟨e.1, by omega⟩)), by omega⟩)
      have FB : Fr (fun a j => (a = o ∧ j = 2) ∨ a = o + 10 + dW D) h21 (uI h29 o 2 (nI (dW D + 1))) := (F29.mono (fun a k e => Or.inr e)).trans (F33.mono (fun a k e => Or.inl e))
      refine ⟨(F21.mono (fun _ _ e => SQ_SX e)).trans (FB.mono (fun a k e => by unfold SX; omega)), R33.2.1, R33.2.2, P21.fr FB (fun _ => z) (by omega) (fun k => by omega) (fun k => by omega) (fun k => by omega), ⟨se, hse, ?_⟩, fun _ => ⟨?_, ?_⟩⟩
      · rw [(FB.2.2.2 _ _ (by omega)).1, (F21.2.2.2 _ _ (by unfold SQ; omega)).1]; exact e13
      · have k8 := hr8 zd
        refine rD21.wheel R33.2.1.2.2.2.2.2.2.2.2.1 FB ?_ ?_ ?_ ?_ ?_ ?_ hI_uIs
        · rw [hI_uIa (by omega), t0, k8]; rfl
        · rw [hI_uIa (by omega), t1]; exact (tz z6).1
        · rw [hI_uIa (by omega), t2]; exact (hr18 z7).1
        · rw [hI_uIa (by omega), t3]; exact (hr22 z).1
        · rw [hI_uIa (by omega), t4]; rfl
        · rw [hL_uI, t5]
      · rw [(FB.2.2.2 _ _ (by omega)).1, (R21.1.2.2.2 _ _ (by unfold SR; omega)).1, (F5.2.2.2 _ _ (by unfold SN; omega)).1, (R3.1.2.2.2 _ _ (by unfold SR; omega)).1]
        exact e3
    · refine ⟨F21.mono (fun _ _ e => SQ_SX e), R21.2.1, R21.2.2, P21, ⟨se, hse, ?_⟩, fun y => absurd y z⟩
      rw [(F21.2.2.2 _ _ (by unfold SQ; omega)).1]; exact e13
  unfold f_R_readWheel
  obtain ⟨ob0, s0, r0⟩ := K.ob
  refine ok_gd R.s (ok_bR r0 (ok_gd s0 (ok_lt ?_)))
  rw [eW]
  refine ok_ilt (b := 5) (by omega) (by decide) (fun g => go h _ R ?_) (fun g => k_at R rfl (by decide) (by decide) (fun h1 R1 => go h1 _ R1 ?_))
  · rw [decide_eq_true (by omega)]; rfl
  · rw [decide_eq_false (by omega)]; rfl
end L2
