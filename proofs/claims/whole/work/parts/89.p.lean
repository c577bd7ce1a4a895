/-! the class's reader: lines -/
def SX (x o a k : Nat) : Prop := (a = x + 2 ∧ 3 ≤ k ∧ k ≤ 12) ∨ (x + 3 ≤ a ∧ a ≤ x + 5) ∨ (a = o ∧ (k ≤ 2 ∨ k = 4 ∨ k = 6 ∨ k = 12 ∨ k = 13)) ∨ (o + 2 ≤ a ∧ a ≤ o + 14)
theorem SR_SX {x o a k : Nat} (e : SR (x + 2) a k) : SX x o a k := Or.inl ⟨e.1, by have := e.2; omega, by have := e.2; omega⟩
theorem SN_SX {x o a k : Nat} (e : SN x a k) : SX x o a k := by
  unfold SN at e
  unfold SX
  omega
/-- the draft: what was told so far, and nothing of what wasn't -/
def RdO (h : Hp) (o : Nat) (D : DD) : Prop := RepO h o D ∧ (∀ f w, f < 4 → w < 5 → hI h (o + 2) (5 * f + w) = xI (dX D f w)) ∧ ∀ f, f < 4 → hI h (o + 6) f = nI (dEv D f)
theorem RdO.fr {S : Nat → Nat → Prop} {h h' : Hp} {o : Nat} {D : DD} (R : RdO h o D) (F : Fr S h h') (hS' : ∀ i k, i < 15 → ¬ S (o + i) k) (hW : dW D ≤ 5) : RdO h' o D := by
  obtain ⟨r1, r2, r3⟩ := R
  refine ⟨r1.fr F hS' hW, fun f w hf hw => ?_, fun f hf => ?_⟩
  · rw [(F.2.2.2 _ _ (hS' 2 _ (by decide))).1]
    exact r2 f w hf hw
  · rw [(F.2.2.2 _ _ (hS' 6 _ (by decide))).1]
    exact r3 f hf
/-- what is so of all that was told so far -/
def WfR (D : DD) (br : Bool) (N : NN) : Prop := WfX D ∧ N.1 = dW D + dF D + dN D ∧ (∀ k, k < N.1 → (N.2.2.1 k = 0 → N.2.2.2 k < dW D) ∧ (N.2.2.1 k = 1 → N.2.2.2 k < dF D)) ∧ (∀ f w, dF D ≤ f → f < 4 → dX D f w = 0) ∧ (∀ f, dF D ≤ f → f < 4 → dEv D f = 0 ∧ dFr D f = 0) ∧ (∀ w, w < dW D → dGc D w = 0 → dG D w = 0) ∧ (br = false → dW D = 0 ∧ dF D = 0 ∧ dN D = 0 ∧ dSu D = 0 ∧ dSe D = 0)
def CL (h : Hp) (x o : Nat) (X : TX) (D : DD) (br : Bool) (N : NN) (c : CU) : Prop := RK h x o X ∧ RC h x X c ∧ NC h x N c ∧ (∃ se, se ≤ 5 ∧ hI h o 13 = nI se) ∧ (c.1 = 0 → RdO h o D ∧ hI h (x + 2) 3 = bI br)
theorem RC.fr {S : Nat → Nat → Prop} {h h' : Hp} {x : Nat} {X : TX} {c : CU} (P : RC h x X c) (F : Fr S h h') (hs : ∀ k, 4 ≤ k → k ≤ 10 → ¬ S (x + 2) k) : RC h' x X c := by
  obtain ⟨a, b, d, i, t, e⟩ := P
  exact ⟨by rw [(F.2.2.2 _ _ (hs 4 (by decide) (by decide))).1]; exact a, b, fun z => by rw [(F.2.2.2 _ _ (hs 5 (by decide) (by decide))).1]; exact d z, i, t.fr F (fun k h1 h2 => hs k (by omega) h2), e⟩
section LN
variable {S : Nat → Nat → Prop} {h0 h h' : Hp} {x o a : Nat} {X : TX} {D : DD} {br : Bool} {N : NN} {c c' : CU}
/-- a write beside the token -/
theorem RS.w (R : RS h0 h x o X c) (F : Fr S h h') (hS' : ∀ a k, S a k → SX x o a k ∧ ¬ (a = x + 2 ∧ 4 ≤ k ∧ k ≤ 11)) : RS h' h' x o X c :=
  ⟨Fr.rf, R.2.1.fr F (fun a k e => (hS' a k e).1), R.2.2.fr F (fun k h1 h2 e => (hS' _ _ e).2 ⟨rfl, h1, by omega⟩)⟩
theorem RS.fx (R : RS h0 h x o X c) : Fr (SX x o) h0 h := R.1.mono (fun _ _ e => SR_SX e)
theorem CL.rs (C : CL h x o X D br N c) : RS h h x o X c := ⟨Fr.rf, C.1, C.2.1⟩
theorem isK_n {s w : Nat} (P : isK N s w = true) (W : WfR D br N) : (s = 0 → kn N w < dW D) ∧ (s = 1 → kn N w < dF D) := by
  obtain ⟨h1, h2⟩ := of_decide_eq_true P
  have := W.2.2.1 _ h1
  exact ⟨fun e => this.1 (h2.trans e), fun e => this.2 (h2.trans e)⟩
/-- brass -/
theorem RdO.brass {p q : Nat} (R : RdO h o D) (F : Fr (fun a k => (a = x + 2 ∧ k ≤ 12) ∨ (a = o ∧ k ≤ 1)) h h') (hx : o ≠ x + 2) (h2 : x + 2 < o) (e0 : hI h' o 0 = nI p) (e1 : hI h' o 1 = nI q) (hW : dW D ≤ 5) : RdO h' o (ds (ds D 0 3 p) 0 4 q) := by
  obtain ⟨⟨L, ⟨p1, p2, p3, p4, p5, p6, p7⟩, oW, oX, oK, oE, oS⟩, r2, r3⟩ := R
  have no : ∀ i k, (i = 0 → 2 ≤ k) → ¬ ((o + i = x + 2 ∧ k ≤ 12) ∨ (o + i = o ∧ k ≤ 1)) := fun i k hk => by omega
  have ii : ∀ i k, (i = 0 → 2 ≤ k) → hI h' (o + i) k = hI h (o + i) k := fun i k hk => (F.2.2.2 _ _ (no i k hk)).1
  have i0 : ∀ k, 2 ≤ k → hI h' o k = hI h o k := fun k hk => ii 0 k (fun _ => hk)
  have il : ∀ i k, (i = 0 → 2 ≤ k) → hL h' (o + i) k = hL h (o + i) k := fun i k hk => (F.2.2.2 _ _ (no i k hk)).2.1
  have ir : ∀ i k, (i = 0 → 2 ≤ k) → hR h' (o + i) k = hR h (o + i) k := fun i k hk => (F.2.2.2 _ _ (no i k hk)).2.2
  have L' : LayO h' o := by
    obtain ⟨l1, ⟨m1, m2, m3, m4, m5, m6, m7, m8, m9⟩, l3, l4, l5, l6, l7, l8⟩ := L
    have j0 : ∀ k, 2 ≤ k → hR h' o k = hR h o k := fun k hk => ir 0 k (fun _ => hk)
    unfold LayO
    rw [F.2.1, j0 3 (by decide), j0 5 (by decide), j0 7 (by decide), j0 8 (by decide), j0 9 (by decide), j0 10 (by decide), j0 11 (by decide), j0 14 (by decide), j0 15 (by decide)]
    exact ⟨l1, ⟨m1, m2, m3, m4, m5, m6, m7, m8, m9⟩, l3, l4, l5, l6, l7, fun w hw => by rw [ir 1 w (by omega)]; exact l8 w hw⟩
  refine ⟨⟨L', ⟨e0, e1, ?_, ?_, ?_, ?_, ?_⟩, fun w hw => ?_, fun f w hf hw => ?_, fun k hk => ?_, fun f hf => ?_, fun k hk => ?_⟩, fun f w hf hw => ?_, fun f hf => ?_⟩
  · rw [i0 2 (by decide)]; exact p3
  · rw [i0 4 (by decide)]; exact p4
  · rw [i0 6 (by decide)]; exact p5
  · rw [i0 12 (by decide)]; exact p6
  · rw [i0 13 (by decide)]; exact p7
  · rw [show o + 10 + w = o + (10 + w) by omega, ii _ _ (by omega), ii _ _ (by omega), ii _ _ (by omega), ii _ _ (by omega), ii _ _ (by omega), il _ _ (by omega), show o + (10 + w) = o + 10 + w by omega]
    exact oW w hw
  · rw [ii _ _ (by omega)]
    rw [show dX (ds (ds D 0 3 p) 0 4 q) f w = dX D f w from (ds_n (by omega)).trans (ds_n (by omega))]
    exact oX f w hf hw
  · rw [ii _ _ (by omega), ii _ _ (by omega), ii _ _ (by omega)]
    exact oK k hk
  · rw [ii _ _ (by omega), ii _ _ (by omega)]
    exact oE f hf
  · rw [ii _ _ (by omega), ii _ _ (by omega)]
    exact oS k hk
  · rw [ii _ _ (by omega)]
    rw [show dX (ds (ds D 0 3 p) 0 4 q) f w = dX D f w from (ds_n (by omega)).trans (ds_n (by omega))]
    exact r2 f w hf hw
  · rw [ii _ _ (by omega)]
    exact r3 f hf
theorem nB (hW : WfR D br N) : dW D ≤ 5 := hW.1.1.1
theorem RK.ob {h : Hp} (K : RK h x o X) : x + 6 ≤ o ∧ hS h o = some (.inl 2) ∧ hR h (x + 2) 2 = some o := by
  obtain ⟨-, -, -, -, -, -, -, k14, k15, k16⟩ := K
  exact ⟨by omega, k15.1, k14⟩
theorem ok_R_brass (C : CL h x o X D br N (0, a)) (W : WfR D br N) (hw : isW X 1 a = true) : Ok (f_R_readBrass (x + 2) h) (fun _ h' => Fr (SX x o) h h' ∧ CL h' x o X (dnB X D br a) true N (lnB X br a)) := by
  obtain ⟨K, C1, P, ⟨se, hse, e13⟩, C5⟩ := id C
  obtain ⟨rD, e3⟩ := C5 rfl
  have R := C.rs
  have ob := K.ob.1
  -- behind the first test
  have go : ∀ h1 c1, RS h h1 x o X c1 → c1 = cCk (!br) 3 (0, a) → Ok (b_R_readBrass_16 (x + 2) h1) (fun _ h' => Fr (SX x o) h h' ∧ CL h' x o X (dnB X D br a) true N (lnB X br a)) := by
    intro h1 c1 R1 ec
    unfold b_R_readBrass_16
    refine ok_gd ⟨zb1, R1.s⟩ (ok_lt ?_)
    have F1 : Fr (fun a k => a = x + 2 ∧ k = 3) h1 (uI h1 (x + 2) 3 1) := fr_uI ⟨rfl, rfl⟩
    have R2 := R1.w F1 (fun a k e => ⟨Or.inl ⟨e.1, by omega, by omega⟩, by omega⟩)
    refine k_pass 1 R2 (by decide) (by decide) (fun h2 R3 => ?_)
    rw [cP_w (by rw [ec, cCk_2]; exact hw), ec] at R3
    refine k_pass 2 R3 (by decide) (by decide) (fun h4 R4 => ?_)
    obtain ⟨ob4, s4, r4⟩ := R4.2.1.ob
    refine ok_gd R4.s (ok_bR r4 (k_whole 0 99 R4 (by decide) (by decide) (fun _ => ⟨rfl, rfl⟩) (fun v8 h7 R7 hr8 => ?_)))
    obtain ⟨ob7, s7, r7⟩ := R7.2.1.ob
    refine ok_gd s7 (ok_lt ?_)
    have F7 : Fr (fun a k => a = o ∧ k ≤ 1) h7 (uI h7 o 0 v8) := fr_uI ⟨rfl, by omega⟩
    have R8 := R7.w F7 (fun a k e => ⟨Or.inr (Or.inr (Or.inl ⟨e.1, by omega⟩)), by omega⟩)
    refine k_pass 3 R8 (by decide) (by decide) (fun h10 R10 => ?_)
    obtain ⟨ob10, s10, r10⟩ := R10.2.1.ob
    refine ok_gd R10.s (ok_bR r10 (k_whole 0 100 R10 (by decide) (by decide) (fun _ => ⟨rfl, rfl⟩) (fun v14 h13 R13 hr14 => ?_)))
    obtain ⟨ob13, s13, r13⟩ := R13.2.1.ob
    refine ok_gd s13 (ok_lt (ok_ret ?_))
    have F13 : Fr (fun a k => a = o ∧ k ≤ 1) h13 (uI h13 o 1 v14) := fr_uI ⟨rfl, by omega⟩
    have R14 := R13.w F13 (fun a k e => ⟨Or.inr (Or.inr (Or.inl ⟨e.1, by omega⟩)), by omega⟩)
    have FA : Fr (fun a k => (a = x + 2 ∧ 3 ≤ k ∧ k ≤ 11) ∨ (a = o ∧ k ≤ 1)) h (uI h13 o 1 v14) := by
      refine ((((R1.1.mono ?_).trans (F1.mono ?_)).trans (R7.1.mono ?_)).trans (F7.mono ?_)).trans ((R13.1.mono ?_).trans (F13.mono ?_))
      all_goals (intro a k e; unfold SR at *; omega)
    have FX : Fr (SX x o) h (uI h13 o 1 v14) := FA.mono (fun a k e => by unfold SX; omega)
    have e3' : hI (uI h13 o 1 v14) (x + 2) 3 = 1 := by
      rw [hI_uIa (by omega), (R13.1.2.2.2 _ _ (by unfold SR; omega)).1, hI_uIa (by omega), (R7.1.2.2.2 _ _ (by unfold SR; omega)).1, hI_uIs]
    refine ⟨FX, R14.2.1, R14.2.2, P.fr FA (fun _ => rfl) (by omega) (fun k => by omega) (fun k => by omega) (fun k => by omega), ⟨se, hse, ?_⟩, fun z => ⟨?_, e3'⟩⟩
    · rw [(FA.2.2.2 _ _ (by omega)).1]; exact e13
    · have z1 := cW_z z
      have z2 := cP_z z1.1
      have z3 := cW_z z2.1
      refine rD.brass (x := x) (FA.mono (fun a k e => by omega)) (by omega) (by omega) ?_ ?_ (nB W)
      · rw [hI_uIk (by decide), (R13.1.2.2.2 _ _ (by unfold SR; omega)).1, hI_uIs]
        exact (hr8 z2.1).1
      · rw [hI_uIs]
        exact (hr14 z).1
  unfold f_R_readBrass
  refine ok_gd R.s (ok_lt ?_)
  rw [e3]
  refine ok_ib (fun g => go h _ R ?_) (fun g => k_at R rfl (by decide) (by decide) (fun h1 R1 => go h1 _ R1 ?_))
  · rw [g]; rfl
  · rw [g]; rfl
end LN
