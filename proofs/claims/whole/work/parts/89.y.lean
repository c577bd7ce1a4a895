/-! the reference's reader: lines -/
def SZ (m q a k : Nat) : Prop := (a = m ∧ 8 ≤ k ∧ k ≤ 14) ∨ (a = q ∧ k < 10) ∨ (q + 1 ≤ a ∧ a ≤ q + 17)
def RdQ (h : Hp) (q : Nat) (D : DD) (br : Bool) : Prop := LayQ h q ∧ (hI h q 0 = (if br = true then nI (dOil D) else -1) ∧ hI h q 1 = nI (dSl D) ∧ hI h q 2 = nI (dW D) ∧ hI h q 3 = nI (sumN (dGc D) (dW D)) ∧ hI h q 4 = nI (dF D) ∧ hI h q 5 = nI (dN D) ∧ hI h q 6 = nI (sumN (fun f => if dEv D f = 0 then 0 else 1) (dF D)) ∧ hI h q 7 = xI (dSu D) ∧ hI h q 8 = nI (dSe D)) ∧
  (∀ w, w < dW D → hI h (q + 1) w = nI (dK D w) ∧ hI h (q + 2) w = nI (dT D w) ∧ hI h (q + 3) w = nI (dB D w) ∧ hI h (q + 4) w = nI (dA D w) ∧ hL h (q + 5) w = dG D w) ∧ (∀ w, dW D ≤ w → w < 5 → hL h (q + 5) w = 0) ∧
  (∀ f w, f < dF D → w < 5 → bt (hI h (q + 7) f) w = decide (dX D f w ≠ 0) ∧ (dX D f w ≠ 0 → hI h (q + 6) (5 * f + w) = nI (dX D f w - 1))) ∧
  (∀ f, f < 4 → hI h (q + 8) f = nI (dEv D f)) ∧ (∀ f, f < dF D → 0 < dEv D f → hI h (q + 9) f = nI (dFr D f)) ∧ (∀ k, k < dN D → hI h (q + 10) k = nI (dTk D k) ∧ hI h (q + 11) k = nI (dWo D k) ∧ hI h (q + 12) k = nI (dTi D k)) ∧
  ∀ k, k < dSe D → hI h (q + 13) k = nI (dSd D k) ∧ hI h (q + 14) k = nI (dSj D k)
def GL (h : Hp) (m q : Nat) (X : TX) (D : DD) (br : Bool) (N : NN) (c : CU) : Prop := GK h m q X ∧ GC h m X c ∧ (c.1 = 0 → NmM h q N ∧ RdQ h q D br)
theorem sumN_c {f g : Nat → Nat} : ∀ n, (∀ k, k < n → g k = f k) → sumN g n = sumN f n := by
  intro n
  induction n with
  | zero => intro _; rfl
  | succ n ih =>
    intro h
    show sumN g n + g n = sumN f n + f n
    rw [ih (fun k hk => h k (by omega)), h n (by omega)]
theorem sumN_u {f g : Nat → Nat} {w : Nat} (hw : g w = f w + 1) : ∀ n, w < n → (∀ k, k < n → k ≠ w → g k = f k) → sumN g n = sumN f n + 1 := by
  intro n
  induction n with
  | zero => intro h _; omega
  | succ n ih =>
    intro h he
    show sumN g n + g n = sumN f n + f n + 1
    by_cases z : w = n
    · subst z
      rw [sumN_c w (fun k hk => he k (by omega) (by omega)), hw]
      omega
    · rw [ih (by omega) (fun k hk => he k (by omega)), he n (by omega) (fun e => z e.symm)]
      omega
theorem RdQ.fr {S : Nat → Nat → Prop} {h h' : Hp} {q : Nat} {D : DD} {br : Bool} (R : RdQ h q D br) (F : Fr S h h') (hS' : ∀ i k, i < 18 → ¬ S (q + i) k) : RdQ h' q D br := by
  obtain ⟨⟨l1, l2, l3⟩, ⟨p0, p1, p2, p3, p4, p5, p6, p7, p8⟩, r1, r2, r3, r4, r5, r6, r7⟩ := R
  have ii : ∀ i k, i < 18 → hI h' (q + i) k = hI h (q + i) k := fun i k hi => (F.2.2.2 _ _ (hS' i k hi)).1
  have i0 : ∀ k, hI h' q k = hI h q k := fun k => ii 0 k (by decide)
  have il : ∀ i k, i < 18 → hL h' (q + i) k = hL h (q + i) k := fun i k hi => (F.2.2.2 _ _ (hS' i k hi)).2.1
  have ir : ∀ k, hR h' q k = hR h q k := fun k => (F.2.2.2 _ _ (hS' 0 k (by decide))).2.2
  refine ⟨?_, ?_, fun w hw => ?_, fun w h1 h2 => ?_, fun f w hf hw => ?_, fun f hf => ?_, fun f hf hz => ?_, fun k hk => ?_, fun k hk => ?_⟩
  · unfold LayQ
    rw [F.2.1]
    exact ⟨l1, fun i hi => by rw [ir]; exact l2 i hi, l3⟩
  · simp only [i0]
    exact ⟨p0, p1, p2, p3, p4, p5, p6, p7, p8⟩
  · rw [ii 1 _ (by decide), ii 2 _ (by decide), ii 3 _ (by decide), ii 4 _ (by decide), il 5 _ (by decide)]
    exact r1 w hw
  · rw [il 5 _ (by decide)]; exact r2 w h1 h2
  · rw [ii 7 _ (by decide), ii 6 _ (by decide)]; exact r3 f w hf hw
  · rw [ii 8 _ (by decide)]; exact r4 f hf
  · rw [ii 9 _ (by decide)]; exact r5 f hf hz
  · rw [ii 10 _ (by decide), ii 11 _ (by decide), ii 12 _ (by decide)]; exact r6 k hk
  · rw [ii 13 _ (by decide), ii 14 _ (by decide)]; exact r7 k hk
section G2
variable {S : Nat → Nat → Prop} {α : Type} {h0 h h' h1 : Hp} {m q a : Nat} {X : TX} {c c' c1 : CU} {N : NN} {D : DD} {br : Bool} {Q : α → Hp → Prop}
theorem RdQ.gs (P : RdQ h0 q D br) (R : GS h0 h m q X c) : RdQ h q D br := by
  have := R.2.1.2.2.2.2.2.2.2.2.2
  exact P.fr R.1 (fun i k hi => by unfold SM; omega)
theorem RdQ.mv (P : RdQ h q D br) (R : GS h0 h m q X c) (R1 : GS h0 h1 m q X c1) : RdQ h1 q D br := by
  have := R.2.1.2.2.2.2.2.2.2.2.2
  exact (P.fr R.1.sy (fun i k hi => by unfold SM; omega)).gs R1
theorem GL.gs (C : GL h m q X D br N c) : GS h h m q X c := ⟨Fr.rf, C.1, C.2.1⟩
theorem GS.qb (R : GS h0 h m q X c) : m + 15 ≤ q := R.2.1.2.2.2.2.2.2.2.2.2
theorem GS.lq (R : GS h0 h m q X c) : LayQ h q := R.2.1.2.2.2.2.2.2.2.2.1
theorem GS.h4 (R : GS h0 h m q X c) : hR h m 4 = some q := R.2.1.2.1
theorem GS.w (R : GS h0 h m q X c) (F : Fr S h h') (hS' : ∀ a k, S a k → (a = q ∧ k < 10) ∨ (q + 1 ≤ a ∧ a ≤ q + 17)) : GS h' h' m q X c := by
  have qb := R.qb
  obtain ⟨R1, R2, C1, C2, C3⟩ := R
  have no : ∀ k, ¬ S m k := fun k e => by have := hS' _ _ e; omega
  refine ⟨Fr.rf, R2.fr F (fun a k e => Or.inr (hS' a k e)), C1, fun z => ⟨(C2 z).1.fr F (fun k _ => no k), by rw [(F.2.2.2 _ _ (no 12)).1]; exact (C2 z).2⟩, fun z => ⟨by rw [(F.2.2.2 _ _ (no 9)).1]; exact (C3 z).1, by rw [(F.2.2.2 _ _ (no 12)).1]; exact (C3 z).2.1, by rw [(F.2.2.2 _ _ (no 13)).1]; exact (C3 z).2.2⟩⟩
theorem GS.fx (R : GS h0 h m q X c) : Fr (SZ m q) h0 h := R.1.mono (fun a k e => by unfold SM at e; unfold SZ; omega)
theorem GS.er {D' : DD} {br' : Bool} {N' : NN} (R : GS h0 h m q X c) (e : c.1 ≠ 0) : Fr (SZ m q) h0 h ∧ GL h m q X D' br' N' c := ⟨R.fx, R.2.1, R.2.2, fun z => absurd z e⟩
theorem j_begins {f : Unit → Hp → Option (α × Hp)} (n most : Nat) {v w : Int32} (R : GS h0 h m q X c) (P : RdQ h q D br) (hO : dOil D ≤ 99) (h5 : tS X c.2 ≠ 5) (hn : n < 2 ^ 31) (hm : most < 2 ^ 31) (hv : v = nI n) (hw : w = nI most) (kk : ∀ h1, GS h0 h1 m q X (cS X (cCk br 6 (cCk (decide (n ≠ most)) 5 c))) → Ok (f () h1) Q) : Ok (gd (hS h m = some (.inl 11)) (bd (f_m_lineBegins m v w h) f)) Q := by
  refine ok_gd R.s (ok_bd ?_)
  subst hv
  subst hw
  have go27 : ∀ h3 c3, GS h0 h3 m q X c3 → c3 = cCk br 6 (cCk (decide (n ≠ most)) 5 c) → Ok (b_m_lineBegins_27 m h3) (fun r h => Ok (f r h) Q) := by
    intro h3 c3 R3 e3
    unfold b_m_lineBegins_27
    subst e3
    exact j_on R3 (fun _ => by rw [cCk_2, cCk_2]; exact h5) (fun h4 R4 => ok_ret (kk h4 R4))
  have go10 : ∀ h2 c2, GS h0 h2 m q X c2 → c2 = cCk (decide (n ≠ most)) 5 c → Ok (b_m_lineBegins_10 m h2) (fun r h => Ok (f r h) Q) := by
    intro h2 c2 R2 e2
    have P2 := P.mv R R2
    unfold b_m_lineBegins_10
    refine ok_gd R2.s (ok_bR R2.h4 (ok_gd P2.1.1 (ok_lt ?_)))
    rw [P2.2.1.1]
    cases br with
    | true =>
      refine ok_f (by rw [if_pos rfl]; exact nI_nm1 (by omega)) (go27 h2 _ R2 ?_)
      rw [e2]
      rfl
    | false =>
      refine ok_t (by rw [if_neg (by decide)]) (j_flaw R2 rfl (by decide) (by decide) (fun h3 R3 => go27 h3 _ R3 ?_))
      rw [e2]
      rfl
  unfold f_m_lineBegins
  refine ok_ieq hn hm (fun e => j_flaw R rfl (by decide) (by decide) (fun h2 R2 => go10 h2 _ R2 ?_)) (fun e => go10 h _ R ?_)
  · unfold cCk
    rw [decide_eq_false (fun z => z e)]
    rfl
  · unfold cCk
    rw [decide_eq_true e]
    rfl
theorem j_eats {f : Int32 → Hp → Option (α × Hp)} (n : Nat) {v : Int32} (R : GS h0 h m q X c) (hn : n < 5) (hv : v = nI (n + 1)) (k1 : ∀ h1, c.1 = 0 → tS X c.2 = n → GS h0 h1 m q X (cS X c) → Ok (f 1 h1) Q) (k0 : (c.1 = 0 → tS X c.2 ≠ n) → Ok (f 0 h) Q) : Ok (gd (hS h m = some (.inl 11)) (bd (f_m_eats m v h) f)) Q := by
  refine ok_gd R.s (ok_bd ?_)
  unfold f_m_eats b_m_eats_13
  refine ok_gd R.s (ok_lt (j_so R hn hv (fun e t => ok_f (by decide) ?_) (fun e => ok_t rfl (ok_gd zb0 (ok_ret (k0 e))))))
  exact j_on R (fun _ => by omega) (fun h1 R1 => ok_gd zb1 (ok_ret (k1 h1 e t R1)))
def SNq (q a k : Nat) : Prop := (a = q ∧ k = 9) ∨ a = q + 15 ∨ a = q + 16 ∨ a = q + 17
theorem ok_m_names {w s n : Nat} {v1 v2 : Int32} (R : GS h0 h m q X c) (P : NmM h q N) (hN : N.1 < 13) (hw : w < 32 ^ 8) (hs : s < 3) (e1 : v1 = nI s) (e2 : v2 = nI n) : Ok (f_m_names m (lN w) v1 v2 h) (fun _ h' => Fr (SNq q) h h' ∧ NmM h' q (nadd N w s n)) := by
  have k1 := R.s
  have k2 := R.h4
  have L := R.lq
  obtain ⟨p1, p2, p3⟩ := P
  have b1 := L.1
  have d14 : hR h q 24 = some (q + 1 + 14) := L.2.1 14 (by decide)
  have b15 : hS h (q + 1 + 14) = some (.inr (1, 13)) := L.2.2.2.2.2.2.2.2.1
  have d15 : hR h q 25 = some (q + 1 + 15) := L.2.1 15 (by decide)
  have b16 : hS h (q + 1 + 15) = some (.inr (0, 13)) := L.2.2.2.2.2.2.2.2.2.1
  have d16 : hR h q 26 = some (q + 1 + 16) := L.2.1 16 (by decide)
  have b17 : hS h (q + 1 + 16) = some (.inr (0, 13)) := L.2.2.2.2.2.2.2.2.2.2
  unfold f_m_names
  refine ok_gd k1 (ok_bR k2 (ok_gd b1 (ok_bR d14 (ok_gd k1 (ok_bR k2 (ok_gd b1 (ok_lt ?_)))))))
  rw [p1]
  refine ok_gd (ai_of b15 hN (by decide)) (ok_lt ?_)
  rw [nI_clamp (by omega)]
  refine ok_gd (by exact k1) (ok_bR (by exact k2) (ok_gd (by exact b1) (ok_bR (by exact d15) (ok_gd (by exact k1) (ok_bR (by exact k2) (ok_gd (by exact b1) (ok_lt ?_)))))))
  rw [hI_uL, p1]
  refine ok_gd (by exact ai_of b16 hN (by decide)) (ok_lt ?_)
  rw [nI_clamp (by omega)]
  refine ok_gd (by exact k1) (ok_bR (by exact k2) (ok_gd (by exact b1) (ok_bR (by exact d16) (ok_gd (by exact k1) (ok_bR (by exact k2) (ok_gd (by exact b1) (ok_lt ?_)))))))
  rw [hI_uIa (by omega), hI_uL, p1]
  refine ok_gd (by exact ai_of b17 hN (by decide)) (ok_lt ?_)
  rw [nI_clamp (by omega)]
  refine ok_gd (by exact k1) (ok_bR (by exact k2) (ok_gd (by exact b1) (ok_lt (ok_gd (by exact b1) (ok_lt (ok_ret ?_))))))
  rw [hI_uIa (by omega), hI_uIa (by omega), hI_uL, p1, nI_1, e1, e2]
  refine ⟨?_, hI_uIs, by show N.1 + 1 ≤ 13; omega, fun k hk => ?_⟩
  · refine Fr.trans (Fr.trans (Fr.trans ?_ (fr_uI ?_)) (fr_uI ?_)) (fr_uI ?_)
    · exact fr_uL (by unfold SNq; omega)
    all_goals (unfold SNq; omega)
  · have hk' : k < N.1 + 1 := hk
    rw [hL_uI, hL_uI, hL_uI, hI_uIa (a := q) (by omega), hI_uIa (a := q) (by omega), hI_uIa (a := q + 1 + 16) (b := q + 16) (by omega)]
    rw [hI_uI (a := q + 1 + 16) (b := q + 17), hI_uI (a := q + 1 + 15) (b := q + 16), hI_uIa (a := q + 1 + 15) (b := q + 17) (by omega), hL_uL, hI_uL]
    dsimp only [nadd]
    by_cases z : k = N.1
    · refine ⟨?_, ?_, ?_, ?_, ?_⟩
      · rw [if_pos (c := q + 15 = q + 1 + 14 ∧ k = N.1) ⟨by omega, z⟩, if_pos z]
      · rw [if_pos z]; exact hw
      · rw [if_pos (c := q + 16 = q + 1 + 15 ∧ k = N.1) ⟨by omega, z⟩, if_pos z]
      · rw [if_pos z]; exact hs
      · rw [if_pos (c := q + 17 = q + 1 + 16 ∧ k = N.1) ⟨by omega, z⟩, if_pos z]
    · obtain ⟨q1, q2, q3, q4, q5⟩ := p3 k (by omega)
      refine ⟨?_, ?_, ?_, ?_, ?_⟩
      · rw [if_neg (c := q + 15 = q + 1 + 14 ∧ k = N.1) (fun y => z y.2), if_neg z]; exact q1
      · rw [if_neg z]; exact q2
      · rw [if_neg (c := q + 16 = q + 1 + 15 ∧ k = N.1) (fun y => z y.2), if_neg z]; exact q3
      · rw [if_neg z]; exact q4
      · rw [if_neg (c := q + 17 = q + 1 + 16 ∧ k = N.1) (fun y => z y.2), if_neg z]; exact q5
theorem isW_5 {k : Nat} (hw : isW X k a = true) : tS X a ≠ 5 := by
  have := (of_decide_eq_true hw).1
  omega
theorem RdQ.brass {p r : Nat} (R : RdQ h q D br) (F : Fr (fun b k => b = q ∧ k ≤ 1) h h') (e0 : hI h' q 0 = nI p) (e1 : hI h' q 1 = nI r) : RdQ h' q (ds (ds D 0 3 p) 0 4 r) true := by
  obtain ⟨⟨l1, l2, l3⟩, ⟨p0, p1, p2, p3, p4, p5, p6, p7, p8⟩, r1, r2, r3, r4, r5, r6, r7⟩ := R
  have ii : ∀ i k, 1 ≤ i → hI h' (q + i) k = hI h (q + i) k := fun i k hi => (F.2.2.2 _ _ (by omega)).1
  have i0 : ∀ k, 2 ≤ k → hI h' q k = hI h q k := fun k hk => (F.2.2.2 _ _ (by omega)).1
  have il : ∀ i k, 1 ≤ i → hL h' (q + i) k = hL h (q + i) k := fun i k hi => (F.2.2.2 _ _ (by omega)).2.1
  have ir : ∀ k, 2 ≤ k → hR h' q k = hR h q k := fun k hk => (F.2.2.2 _ _ (by omega)).2.2
  have ex : ∀ f' w', dX (ds (ds D 0 3 p) 0 4 r) f' w' = dX D f' w' := fun f' w' => (ds_n (by omega)).trans (ds_n (by omega))
  refine ⟨?_, ⟨?_, e1, ?_, ?_, ?_, ?_, ?_, ?_, ?_⟩, fun w hw => ?_, fun w h1 h2 => ?_, fun f w hf hw => ?_, fun f hf => ?_, fun f hf hz => ?_, fun k hk => ?_, fun k hk => ?_⟩
  · unfold LayQ
    rw [F.2.1]
    exact ⟨l1, fun i hi => by rw [ir _ (by omega)]; exact l2 i hi, l3⟩
  · rw [if_pos rfl]; exact e0
  · rw [i0 _ (by decide)]; exact p2
  · rw [i0 _ (by decide)]; exact p3
  · rw [i0 _ (by decide)]; exact p4
  · rw [i0 _ (by decide)]; exact p5
  · rw [i0 _ (by decide)]; exact p6
  · rw [i0 _ (by decide)]; exact p7
  · rw [i0 _ (by decide)]; exact p8
  · rw [ii 1 _ (by decide), ii 2 _ (by decide), ii 3 _ (by decide), ii 4 _ (by decide), il 5 _ (by decide)]
    exact r1 w hw
  · rw [il 5 _ (by decide)]; exact r2 w h1 h2
  · rw [ii 7 _ (by decide), ii 6 _ (by decide), ex]; exact r3 f w hf hw
  · rw [ii 8 _ (by decide)]; exact r4 f hf
  · rw [ii 9 _ (by decide)]; exact r5 f hf hz
  · rw [ii 10 _ (by decide), ii 11 _ (by decide), ii 12 _ (by decide)]; exact r6 k hk
  · rw [ii 13 _ (by decide), ii 14 _ (by decide)]; exact r7 k hk
theorem ok_m_brass (C : GL h m q X D br N (0, a)) (W : WfR D br N) (hw : isW X 1 a = true) : Ok (f_m_readBrass m h) (fun _ h' => Fr (SZ m q) h h' ∧ GL h' m q X (dnB X D br a) true N (lnB X br a)) := by
  have R := C.gs
  obtain ⟨P, rQ⟩ := C.2.2 rfl
  have qb := R.qb
  have hO := W.1.1.2.2.2.2.1
  have go : ∀ h1 c1, GS h h1 m q X c1 → c1 = cCk (!br) 3 (0, a) → Ok (b_m_readBrass_16 m h1) (fun _ h' => Fr (SZ m q) h h' ∧ GL h' m q X (dnB X D br a) true N (lnB X br a)) := by
    intro h1 c1 R1 ec
    subst ec
    unfold b_m_readBrass_16
    refine j_on R1 (fun _ => by rw [cCk_2]; exact isW_5 hw) (fun h2 R2 => ?_)
    refine j_part 2 0 99 R2 (by decide) (by decide) (by decide) (by decide) (fun _ => ⟨rfl, rfl⟩) (fun v4 h3 R3 hr4 => ?_)
    refine j_part 3 0 100 R3 (by decide) (by decide) (by decide) (by decide) (fun _ => ⟨rfl, rfl⟩) (fun v6 h5 R5 hr6 => ?_)
    change GS h h5 m q X (lnB X br a) at R5
    refine ok_gd R5.s (ok_lt (j_st R5 (fun e => ok_ret (R5.er e)) (fun e => ?_)))
    have u6 := hr6 e
    have u4 := hr4 (cP_z (cW_z e).1).1
    have rQ5 := rQ.gs R5
    have b1 := rQ5.1.1
    refine ok_gd R5.s (ok_bR R5.h4 (ok_gd b1 (ok_lt (ok_gd (by exact R5.s) (ok_bR (by exact R5.h4) (ok_gd (by exact b1) (ok_lt (ok_ret ?_))))))))
    have FB : Fr (fun b k => b = q ∧ k ≤ 1) h5 (uI (uI h5 q 0 v4) q 1 v6) := (fr_uI ⟨rfl, by omega⟩).trans (fr_uI ⟨rfl, by omega⟩)
    have R6 := R5.w FB (fun b k e => Or.inl ⟨e.1, by omega⟩)
    refine ⟨R5.fx.trans (FB.mono (fun b k e => by unfold SZ; omega)), R6.2.1, R6.2.2, fun _ => ⟨(P.gs R5).fr FB (by omega) (fun k => by omega) (fun k => by omega) (fun k => by omega), rQ5.brass FB ?_ ?_⟩⟩
    · rw [hI_uIk (by decide), hI_uIs]
      exact u4
    · rw [hI_uIs]
      exact u6
  unfold f_m_readBrass
  refine ok_gd R.s (ok_bR R.h4 (ok_gd rQ.1.1 (ok_lt ?_)))
  rw [rQ.2.1.1]
  cases br with
  | true => exact ok_f (by rw [if_pos rfl]; exact nI_nm1 (by omega)) (j_flaw R rfl (by decide) (by decide) (fun h1 R1 => go h1 _ R1 rfl))
  | false => exact ok_t (by rw [if_neg (by decide)]) (go h _ R rfl)
end G2
