/-! what a line tells is well told -/
theorem cnt_up {P Q : Nat → Bool} {t : Nat} (hP : P t = false) (hQ : Q t = true) : ∀ n, (∀ k, k < n → k ≠ t → Q k = P k) → cntN Q n = cntN P n + if t < n then 1 else 0 := by
  intro n
  induction n with
  | zero => intro _; rfl
  | succ n ih =>
    intro he
    have i := ih (fun k hk => he k (by omega))
    show cntN Q n + (if Q n = true then 1 else 0) = cntN P n + (if P n = true then 1 else 0) + (if t < n + 1 then 1 else 0)
    by_cases z : n = t
    · subst z
      rw [i, if_pos hQ, hP, if_neg (by omega), if_neg (by decide), if_pos (by omega)]
    · rw [i, he n (by omega) z]
      by_cases y : t < n
      · rw [if_pos y, if_pos (show t < n + 1 by omega)]; omega
      · rw [if_neg y, if_neg (show ¬ t < n + 1 by omega), Nat.add_zero, Nat.add_zero]
theorem cnt_3 {P : Nat → Bool} {a b c n : Nat} (ha : a < n) (hb : b < n) (hc : c < n) (hab : a ≠ b) (hac : a ≠ c) (hbc : b ≠ c) (pa : P a = true) (pb : P b = true) (pc : P c = true) : 3 ≤ cntN P n := by
  have e1 := cnt_up (P := fun k => if k = a then false else P k) (Q := P) (t := a) (by show (if a = a then false else P a) = false; rw [if_pos rfl]) pa n (fun k _ h => (if_neg h).symm)
  have e2 := cnt_up (P := fun k => if k = b then false else if k = a then false else P k) (Q := fun k => if k = a then false else P k) (t := b) (by show (if b = b then false else _) = false; rw [if_pos rfl]) (by show (if b = a then false else P b) = true; rw [if_neg (fun q => hab q.symm)]; exact pb) n (fun k _ h => (if_neg h).symm)
  have e3 := cnt_up (P := fun k => if k = c then false else if k = b then false else if k = a then false else P k) (Q := fun k => if k = b then false else if k = a then false else P k) (t := c) (by show (if c = c then false else _) = false; rw [if_pos rfl]) (by show (if c = b then false else if c = a then false else P c) = true; rw [if_neg (fun q => hbc q.symm), if_neg (fun q => hac q.symm)]; exact pc) n (fun k _ h => (if_neg h).symm)
  rw [e1, e2, e3, if_pos ha, if_pos hb, if_pos hc]
  omega
theorem nx_1 {n t : Nat} {fw : Bool} (hn : 4 ≤ n) (ht : t < n) : nx n fw 1 t < n ∧ nx n fw 1 t ≠ t ∧ nx n fw 1 (nx n fw 1 t) < n ∧ nx n fw 1 (nx n fw 1 t) ≠ t ∧ nx n fw 1 (nx n fw 1 t) ≠ nx n fw 1 t := by
  unfold nx
  cases fw with
  | true =>
    rw [if_pos rfl]
    by_cases q : t + 1 < n
    · rw [if_pos q, if_pos rfl]
      by_cases q2 : t + 1 + 1 < n
      · rw [if_pos q2]; omega
      · rw [if_neg q2]; omega
    · rw [if_neg q, if_pos rfl, if_pos (by omega)]; omega
  | false =>
    rw [if_neg (by decide)]
    by_cases q : 1 ≤ t
    · rw [if_pos q, if_neg (by decide)]
      by_cases q2 : 1 ≤ t - 1
      · rw [if_pos q2]; omega
      · rw [if_neg q2]; omega
    · rw [if_neg q, if_neg (by decide), if_pos (by omega)]; omega
theorem rs_ok {g : Int64} {n t : Nat} {fw : Bool} (hn : 4 ≤ n) (ht : t < n) (hc : cntN (gb g) n ≤ 2) : gb g (rs n g fw 2 t) = false := by
  obtain ⟨a1, a2, a3, a4, a5⟩ := nx_1 (fw := fw) hn ht
  show gb g (if gb g t = true then (if gb g (nx n fw 1 t) = true then nx n fw 1 (nx n fw 1 t) else nx n fw 1 t) else t) = false
  cases q1 : gb g t with
  | false => rw [if_neg (by decide)]; exact q1
  | true =>
    rw [if_pos rfl]
    cases q2 : gb g (nx n fw 1 t) with
    | false => rw [if_neg (by decide)]; exact q2
    | true =>
      rw [if_pos rfl]
      cases q3 : gb g (nx n fw 1 (nx n fw 1 t)) with
      | false => rfl
      | true =>
        have := cnt_3 ht a1 a3 (fun q => a2 q.symm) (fun q => a4 q.symm) (fun q => a5 q.symm) q1 q2 q3
        omega
theorem cnt_0 {n : Nat} (hn : n ≤ 64) : cntN (gb 0) n = 0 := by
  induction n with
  | zero => rfl
  | succ n ih =>
    show cntN (gb 0) n + (if gb 0 n = true then 1 else 0) = 0
    rw [ih (by omega), gb_0 (by omega)]
    rfl
theorem cnt_or {g : Int64} {t n : Nat} (hn : n ≤ 64) (ht : t < n) (h0 : gb g t = false) : cntN (gb (g ||| ((1 : Int64) <<< ((nI t).toInt64 &&& 63)))) n = cntN (gb g) n + 1 := by
  have e := cnt_up (P := gb g) (Q := gb (g ||| ((1 : Int64) <<< ((nI t).toInt64 &&& 63)))) (t := t) h0 (by rw [gb_or _ _ (by omega), gb_sl (by omega) (by omega), decide_eq_true rfl, Bool.or_true]) n (fun k hk hne => by rw [gb_or _ _ (by omega), gb_sl (by omega) (by omega), decide_eq_false hne, Bool.or_false])
  rw [e, if_pos ht]
section WR
variable {X : TX} {D : DD} {br : Bool} {N : NN} {a : Nat}
theorem lb_z {n most : Nat} (z : (lb X br n most a).1 = 0) : br = true ∧ n ≠ most := by
  obtain ⟨z1, z2, z3⟩ := cCk_z (by decide) (cS_z z)
  obtain ⟨z4, z5, z6⟩ := cCk_z (by decide) z1
  exact ⟨z2, of_decide_eq_true z5⟩
theorem l0_z (z : (l0 X br a).1 = 0) : br = true := (cCk_z (by decide) (cS_z z)).2.1
theorem nadd_wf {w s n W F K : Nat} (h : ∀ k, k < N.1 → (N.2.2.1 k = 0 → N.2.2.2 k < W) ∧ (N.2.2.1 k = 1 → N.2.2.2 k < F)) (h0 : s = 0 → n < W) (h1 : s = 1 → n < F) : ∀ k, k < (nadd N w s n).1 → ((nadd N w s n).2.2.1 k = 0 → (nadd N w s n).2.2.2 k < W) ∧ ((nadd N w s n).2.2.1 k = 1 → (nadd N w s n).2.2.2 k < F) := by
  intro k hk
  have hk' : k < N.1 + 1 := hk
  show ((if k = N.1 then s else N.2.2.1 k) = 0 → (if k = N.1 then n else N.2.2.2 k) < W) ∧ ((if k = N.1 then s else N.2.2.1 k) = 1 → (if k = N.1 then n else N.2.2.2 k) < F)
  by_cases z : k = N.1
  · rw [if_pos z, if_pos z]
    exact ⟨h0, h1⟩
  · rw [if_neg z, if_neg z]
    exact h k (by omega)
theorem wf_brass (W : WfR D br N) (z : (lnB X br a).1 = 0) : WfR (dnB X D br a) true N := by
  have z1 := cW_z z
  have z2 := cW_z (cP_z z1.1).1
  obtain ⟨⟨⟨a1, a2, a3, a4, a5, a6, a7, a8, a9, a10, a11, a12, a13⟩, b2, b3⟩, c2, c3, c4, c5, c6, c7⟩ := W
  have ex : ∀ f w, dX (dnB X D br a) f w = dX D f w := fun f w => (ds_n (by omega)).trans (ds_n (by omega))
  refine ⟨⟨⟨a1, a2, a3, a4, z2.2.2.2.1, z1.2.2.2.1, a7, a8, fun f w hf hw => ?_, fun f w hf hw => ?_, a11, a12, a13⟩, b2, b3⟩, c2, c3, fun f w h1 h2 => ?_, c5, c6, fun e => by cases e⟩
  · rw [ex]; exact a9 f w hf hw
  · rw [ex]; exact a10 f w hf hw
  · rw [ex]; exact c4 f w h1 h2
theorem wf_wheel0 {k t b f w : Nat} (W : WfR D br N) (hb : br = true) (hn : dW D ≠ 5) (kd : k ≤ 3) (t4 : 4 ≤ t) (t60 : t ≤ 60) (b1 : 1 ≤ b) (bm : b ≤ min 9 (t - 1)) (f1 : f ≤ t - 1) : WfR (whD D k t b f) br (nadd N w 0 (dW D)) := by
  obtain ⟨⟨⟨a1, a2, a3, a4, a5, a6, a7, a8, a9, a10, a11, a12, a13⟩, b2, b3⟩, c2, c3, c4, c5, c6, c7⟩ := W
  have ex : ∀ f' w, dX (whD D k t b f) f' w = dX D f' w := fun f' w => by
    show (ds (ds (ds (ds (ds (ds D 0 0 (dW D + 1)) 1 (dW D) k) 2 (dW D) t) 3 (dW D) b) 4 (dW D) f) 5 (dW D) 0).1 (6 + f') w = D.1 (6 + f') w
    rw [ds_n (by omega), ds_n (by omega), ds_n (by omega), ds_n (by omega), ds_n (by omega), ds_n (by omega)]
  have g : ∀ i w, 1 ≤ i → i ≤ 5 → w ≠ dW D → (whD D k t b f).1 i w = D.1 i w := fun i w h1 h2 h3 => by
    show (ds (ds (ds (ds (ds (ds D 0 0 (dW D + 1)) 1 (dW D) k) 2 (dW D) t) 3 (dW D) b) 4 (dW D) f) 5 (dW D) 0).1 i w = D.1 i w
    rw [ds_n (by omega), ds_n (by omega), ds_n (by omega), ds_n (by omega), ds_n (by omega), ds_n (by omega)]
  have gk : dK (whD D k t b f) (dW D) = k := by
    show (ds (ds (ds (ds (ds (ds D 0 0 (dW D + 1)) 1 (dW D) k) 2 (dW D) t) 3 (dW D) b) 4 (dW D) f) 5 (dW D) 0).1 1 (dW D) = k
    rw [ds_n (by omega), ds_n (by omega), ds_n (by omega), ds_n (by omega), ds_s]
  have gt : dT (whD D k t b f) (dW D) = t := by
    show (ds (ds (ds (ds (ds (ds D 0 0 (dW D + 1)) 1 (dW D) k) 2 (dW D) t) 3 (dW D) b) 4 (dW D) f) 5 (dW D) 0).1 2 (dW D) = t
    rw [ds_n (by omega), ds_n (by omega), ds_n (by omega), ds_s]
  have gB : dB (whD D k t b f) (dW D) = b := by
    show (ds (ds (ds (ds (ds (ds D 0 0 (dW D + 1)) 1 (dW D) k) 2 (dW D) t) 3 (dW D) b) 4 (dW D) f) 5 (dW D) 0).1 3 (dW D) = b
    rw [ds_n (by omega), ds_n (by omega), ds_s]
  have gA : dA (whD D k t b f) (dW D) = f := by
    show (ds (ds (ds (ds (ds (ds D 0 0 (dW D + 1)) 1 (dW D) k) 2 (dW D) t) 3 (dW D) b) 4 (dW D) f) 5 (dW D) 0).1 4 (dW D) = f
    rw [ds_n (by omega), ds_s]
  have gc : dGc (whD D k t b f) (dW D) = 0 := ds_s
  have gG : dG (whD D k t b f) (dW D) = 0 := if_pos rfl
  have oT : ∀ w, w ≠ dW D → dT (whD D k t b f) w = dT D w := fun w h => g 2 w (by decide) (by decide) h
  have oG : ∀ w, w ≠ dW D → dG (whD D k t b f) w = dG D w := fun w h => if_neg h
  have oc : ∀ w, w ≠ dW D → dGc (whD D k t b f) w = dGc D w := fun w h => g 5 w (by decide) (by decide) h
  have eW : dW (whD D k t b f) = dW D + 1 := rfl
  have bt9 : b ≤ 9 ∧ b ≤ t - 1 := ⟨Nat.le_trans bm (Nat.min_le_left _ _), Nat.le_trans bm (Nat.min_le_right _ _)⟩
  refine ⟨⟨⟨by rw [eW]; omega, a2, a3, a4, a5, a6, by show dSu D ≤ dW D + 1; omega, fun w hw => ?_, fun f' w hf hw => ?_, fun f' w hf hw => ?_, a11, a12, a13⟩, fun h => ?_, fun w hw => ?_⟩, ?_, ?_, fun f' w h1 h2 => by rw [ex]; exact c4 f' w h1 h2, c5, fun w hw hz => ?_, fun e => by rw [hb] at e; cases e⟩
  · rw [eW] at hw
    by_cases y : w = dW D
    · rw [y, gk, gt, gB, gA, gG, gc]
      refine ⟨kd, t4, t60, b1, bt9.1, by omega, by omega, fun u fw hu => ?_, by omega⟩
      exact rs_ok t4 hu (by rw [cnt_0 (by omega)]; omega)
    · rw [show dK (whD D k t b f) w = dK D w from g 1 w (by decide) (by decide) y, oT w y, show dB (whD D k t b f) w = dB D w from g 3 w (by decide) (by decide) y, show dA (whD D k t b f) w = dA D w from g 4 w (by decide) (by decide) y, oG w y, oc w y]
      exact a8 w (by omega)
  · rw [ex]
    rw [eW] at hw
    by_cases y : w = dW D
    · rw [a10 f' w hf (by omega)]; omega
    · rw [oT w y]
      exact a9 f' w hf (by omega)
  · rw [ex]
    rw [eW] at hw
    exact a10 f' w hf (by omega)
  · have h' : 0 < dSu D := h
    have e : suW (whD D k t b f) = suW D := rfl
    rw [e, oG _ (by unfold suW; omega)]
    exact b2 h'
  · rw [eW] at hw
    by_cases y : w = dW D
    · rw [y, gc, gG, gt, cnt_0 (by omega)]
    · rw [oc w y, oG w y, oT w y]
      exact b3 w (by omega)
  · show N.1 + 1 = dW D + 1 + dF D + dN D
    omega
  · rw [eW]
    exact nadd_wf (W := dW D + 1) (F := dF D) (K := 0) (fun k hk => ⟨fun e => by have := (c3 k hk).1 e; omega, (c3 k hk).2⟩) (fun _ => by omega) (fun e => by cases e)
  · rw [eW] at hw
    by_cases y : w = dW D
    · rw [y]; exact gG
    · rw [oc w y] at hz
      rw [oG w y]
      exact c6 w (by omega) hz
theorem wf_wheel (W : WfR D br N) (z : (lnW X D N br a).1 = 0) : WfR (dnW X D N br a) br (nnW X D N br a) := by
  have z9 := cW_z z
  have z8 := cP_z z9.1
  have z7 := cW_z z8.1
  have z6 := cP_z z7.1
  have z5 := cW_z z6.1
  have z3 := cS_z (cP_z z5.1).1
  have z2 := (cCk_z (by decide) z3).1
  have z1 := (cT_z (cS_z z2)).1
  obtain ⟨hb, hn⟩ := lb_z z1
  exact wf_wheel0 W hb hn kdn_le z5.2.2.1 z5.2.2.2.1 z7.2.2.1 z7.2.2.2.1 z9.2.2.2.1
theorem wf_gone (W : WfR D br N) (z : (lnG X D N br a).1 = 0) : WfR (dnG X D N br a) br N := by
  obtain ⟨z1, z2, z3⟩ := cCk_z (by decide) (cS_z z)
  have z4 := cH_z z1
  obtain ⟨y1, y2, y3⟩ := cCk_z (by decide) (cS_z z4.1)
  obtain ⟨x1, x2, x3⟩ := cCk_z (by decide) y1
  have x4 := cK_z x1
  have wl : gW X N br a < dW D := (isK_n x4.2.2.1 W).1 rfl
  obtain ⟨⟨⟨a1, a2, a3, a4, a5, a6, a7, a8, a9, a10, a11, a12, a13⟩, b2, b3⟩, c2, c3, c4, c5, c6, c7⟩ := W
  have hT := a8 _ wl
  have n2 : dGc D (gW X N br a) ≠ 2 := of_decide_eq_true x2
  have ns : dSu D ≠ gW X N br a + 1 := of_decide_eq_true y2
  have tl : gT' X D N br a ≤ dT D (gW X N br a) - 1 := z4.2.2.2.1
  have g0 : gb (dG D (gW X N br a)) (gT' X D N br a) = false := by
    cases q : gb (dG D (gW X N br a)) (gT' X D N br a) with
    | false => rfl
    | true => rw [q] at z2; cases z2
  unfold dnG
  generalize gW X N br a = w at *
  generalize gT' X D N br a = t at *
  have cn := cnt_or (g := dG D w) (t := t) (n := dT D w) (by omega) (by omega) g0
  have cw := b3 w wl
  have ex : ∀ f' w', dX (goD D w t) f' w' = dX D f' w' := fun f' w' => by
    show (ds D 5 w (dGc D w + 1)).1 (6 + f') w' = D.1 (6 + f') w'
    rw [ds_n (by omega)]
  have gc : ∀ w', dGc (goD D w t) w' = if w' = w then dGc D w + 1 else dGc D w' := fun w' => by
    show (ds D 5 w (dGc D w + 1)).1 5 w' = _
    rw [ds_u]
    by_cases q : w' = w
    · rw [if_pos ⟨rfl, q⟩, if_pos q]
    · rw [if_neg (fun e => q e.2), if_neg q]
      rfl
  have gG : ∀ w', dG (goD D w t) w' = if w' = w then dG D w ||| ((1 : Int64) <<< ((nI t).toInt64 &&& 63)) else dG D w' := fun w' => rfl
  refine ⟨⟨⟨a1, a2, a3, a4, a5, a6, a7, fun w' hw' => ?_, fun f' w' hf hw => by rw [ex]; exact a9 f' w' hf hw, fun f' w' hf hw => by rw [ex]; exact a10 f' w' hf hw, a11, a12, a13⟩, fun h => ?_, fun w' hw' => ?_⟩, c2, c3, fun f' w' h1 h2 => by rw [ex]; exact c4 f' w' h1 h2, c5, fun w' hw' hz => ?_, c7⟩
  · have q := a8 w' hw'
    refine ⟨q.1, q.2.1, q.2.2.1, q.2.2.2.1, q.2.2.2.2.1, q.2.2.2.2.2.1, q.2.2.2.2.2.2.1, fun u fw hu => ?_, ?_⟩
    · rw [gG]
      by_cases y : w' = w
      · rw [if_pos y]
        subst y
        exact rs_ok q.2.1 hu (by rw [show dT (goD D w' t) w' = dT D w' from rfl, cn]; omega)
      · rw [if_neg y]
        exact q.2.2.2.2.2.2.2.1 u fw hu
    · rw [gc]
      split
      · omega
      · exact q.2.2.2.2.2.2.2.2
  · have e : suW (goD D w t) = suW D := rfl
    have h' : 0 < dSu D := h
    rw [e, gG, if_neg (by unfold suW; omega)]
    exact b2 h'
  · rw [gc, gG]
    by_cases y : w' = w
    · rw [if_pos y, if_pos y, y]
      show _ = cntN _ (dT D w)
      rw [cn]
      omega
    · rw [if_neg y, if_neg y]
      exact b3 w' hw'
  · rw [gc] at hz
    rw [gG]
    by_cases y : w' = w
    · rw [if_pos y] at hz; omega
    · rw [if_neg y] at hz ⊢
      exact c6 w' hw' hz
theorem wf_work0 {p q r w : Nat} (W : WfR D br N) (hb : br = true) (hn : dN D ≠ 4) (fl : r < dF D) (p1 : 1 ≤ p) (p2 : p ≤ 99) (p3 : q ≤ 99) : WfR (ds (ds (ds (ds D 10 (dN D) p) 11 (dN D) q) 12 (dN D) r) 0 2 (dN D + 1)) br (nadd N w 2 (dN D)) := by
  obtain ⟨⟨⟨a1, a2, a3, a4, a5, a6, a7, a8, a9, a10, a11, a12, a13⟩, b2, b3⟩, c2, c3, c4, c5, c6, c7⟩ := W
  have ex : ∀ f' w', f' < 4 → dX (ds (ds (ds (ds D 10 (dN D) p) 11 (dN D) q) 12 (dN D) r) 0 2 (dN D + 1)) f' w' = dX D f' w' := fun f' w' h4 => (ds_n (by omega)).trans ((ds_n (by omega)).trans ((ds_n (by omega)).trans (ds_n (by omega))))
  refine ⟨⟨⟨a1, a2, by show dN D + 1 ≤ 4; omega, a4, a5, a6, a7, a8, fun f' w' hf hw => ?_, fun f' w' hf hw => ?_, fun k hk => ?_, a12, a13⟩, b2, b3⟩, ?_, ?_, fun f' w' h1 h2 => by rw [ex f' w' h2]; exact c4 f' w' h1 h2, c5, c6, fun e => by rw [hb] at e; cases e⟩
  · rw [ex f' w' (Nat.lt_of_lt_of_le hf a2)]; exact a9 f' w' hf hw
  · rw [ex f' w' (Nat.lt_of_lt_of_le hf a2)]; exact a10 f' w' hf hw
  · have hk' : k < dN D + 1 := hk
    show 1 ≤ (ds (ds (ds (ds D 10 (dN D) p) 11 (dN D) q) 12 (dN D) r) 0 2 (dN D + 1)).1 10 k ∧ (ds (ds (ds (ds D 10 (dN D) p) 11 (dN D) q) 12 (dN D) r) 0 2 (dN D + 1)).1 10 k ≤ 99 ∧ (ds (ds (ds (ds D 10 (dN D) p) 11 (dN D) q) 12 (dN D) r) 0 2 (dN D + 1)).1 11 k ≤ 99 ∧ (ds (ds (ds (ds D 10 (dN D) p) 11 (dN D) q) 12 (dN D) r) 0 2 (dN D + 1)).1 12 k < dF D
    have e10 : (ds (ds (ds (ds D 10 (dN D) p) 11 (dN D) q) 12 (dN D) r) 0 2 (dN D + 1)).1 10 k = if k = dN D then p else dTk D k := by
      rw [ds_n (by omega), ds_n (by omega), ds_n (by omega), ds_u]
      by_cases y : k = dN D
      · rw [if_pos ⟨rfl, y⟩, if_pos y]
      · rw [if_neg (fun e => y e.2), if_neg y]; rfl
    have e11 : (ds (ds (ds (ds D 10 (dN D) p) 11 (dN D) q) 12 (dN D) r) 0 2 (dN D + 1)).1 11 k = if k = dN D then q else dWo D k := by
      rw [ds_n (by omega), ds_n (by omega), ds_u]
      by_cases y : k = dN D
      · rw [if_pos ⟨rfl, y⟩, if_pos y]
      · rw [if_neg (fun e => y e.2), if_neg y, ds_n (by omega)]; rfl
    have e12 : (ds (ds (ds (ds D 10 (dN D) p) 11 (dN D) q) 12 (dN D) r) 0 2 (dN D + 1)).1 12 k = if k = dN D then r else dTi D k := by
      rw [ds_n (by omega), ds_u]
      by_cases y : k = dN D
      · rw [if_pos ⟨rfl, y⟩, if_pos y]
      · rw [if_neg (fun e => y e.2), if_neg y, ds_n (by omega), ds_n (by omega)]; rfl
    rw [e10, e11, e12]
    by_cases y : k = dN D
    · rw [if_pos y, if_pos y, if_pos y]
      exact ⟨p1, p2, p3, fl⟩
    · rw [if_neg y, if_neg y, if_neg y]
      exact a11 k (by omega)
  · show N.1 + 1 = dW D + dF D + (dN D + 1)
    omega
  · exact nadd_wf (W := dW D) (F := dF D) (K := 0) c3 (fun e => by cases e) (fun e => by cases e)
theorem wf_work (W : WfR D br N) (z : (lnK X D N br a).1 = 0) : WfR (dnK X D N br a) br (nnK X D N br a) := by
  have zK := cK_z (cS_z z)
  have z7 := cW_z (cP_z zK.1).1
  have z5 := cW_z (cP_z z7.1).1
  have z1 := (cT_z (cS_z (cP_z z5.1).1)).1
  obtain ⟨hb, hn⟩ := lb_z z1
  exact wf_work0 W hb hn ((isK_n zK.2.2.1 W).2 rfl) z5.2.2.1 z5.2.2.2.1 z7.2.2.2.1
theorem wf_sky0 {f p q : Nat} (W : WfR D br N) (fl : f < dF D) (p2 : p ≤ 400) (p3 : q ≤ 400) : WfR (ds (ds D 13 f p) 14 f q) br N := by
  obtain ⟨⟨⟨a1, a2, a3, a4, a5, a6, a7, a8, a9, a10, a11, a12, a13⟩, b2, b3⟩, c2, c3, c4, c5, c6, c7⟩ := W
  have ex : ∀ f' w', f' < 4 → dX (ds (ds D 13 f p) 14 f q) f' w' = dX D f' w' := fun f' w' h4 => (ds_n (by omega)).trans (ds_n (by omega))
  have ev : ∀ k, dEv (ds (ds D 13 f p) 14 f q) k = if k = f then p else dEv D k := fun k => by
    show (ds (ds D 13 f p) 14 f q).1 13 k = _
    rw [ds_n (by omega)]
    by_cases z : k = f
    · rw [z, ds_s, if_pos rfl]
    · rw [ds_n (by omega), if_neg z]
      rfl
  have fv : ∀ k, dFr (ds (ds D 13 f p) 14 f q) k = if k = f then q else dFr D k := fun k => by
    show (ds (ds D 13 f p) 14 f q).1 14 k = _
    by_cases z : k = f
    · rw [z, ds_s, if_pos rfl]
    · rw [ds_n (by omega), ds_n (by omega), if_neg z]
      rfl
  refine ⟨⟨⟨a1, a2, a3, a4, a5, a6, a7, a8, fun f' w' hf hw => ?_, fun f' w' hf hw => ?_, a11, fun k hk => ?_, a13⟩, b2, b3⟩, c2, c3, fun f' w' h1 h2 => by rw [ex f' w' h2]; exact c4 f' w' h1 h2, fun k h1 h2 => ?_, c6, c7⟩
  · rw [ex f' w' (Nat.lt_of_lt_of_le hf a2)]; exact a9 f' w' hf hw
  · rw [ex f' w' (Nat.lt_of_lt_of_le hf a2)]; exact a10 f' w' hf hw
  · rw [ev, fv]
    have := a12 k hk
    by_cases y : k = f
    · rw [if_pos y, if_pos y]; exact ⟨p2, p3⟩
    · rw [if_neg y, if_neg y]; exact this
  · have h1' : dF D ≤ k := h1
    rw [ev, fv, if_neg (by omega), if_neg (by omega)]
    exact c5 k h1' h2
theorem wf_sky (W : WfR D br N) (z : (lnY X D N br a).1 = 0) : WfR (dnY X D N br a) br N := by
  have z6 := cW_z z
  have z4 := cW_z (cP_z z6.1).1
  have z3 := (cCk_z (by decide) (cS_z (cP_z z4.1).1)).1
  have zK := cK_z z3
  exact wf_sky0 W ((isK_n zK.2.2.1 W).2 rfl) z4.2.2.2.1 z6.2.2.2.1
theorem wf_susp (W : WfR D br N) (z : (lnU X D N br a).1 = 0) : WfR (dnU X D N br a) br N := by
  obtain ⟨z1, z2, z3⟩ := cCk_z (by decide) (cS_z z)
  have zK := cK_z z1
  have wl := (isK_n zK.2.2.1 W).1 rfl
  obtain ⟨y1, y2, y3⟩ := cCk_z (by decide) (cS_z zK.1)
  have g0 := of_decide_eq_true z2
  obtain ⟨⟨⟨a1, a2, a3, a4, a5, a6, a7, a8, a9, a10, a11, a12, a13⟩, b2, b3⟩, c2, c3, c4, c5, c6, c7⟩ := W
  unfold dnU
  generalize kn N (tW X (s0 X D br a).2) = w at *
  have ex : ∀ f' w', dX (ds D 0 5 (w + 1)) f' w' = dX D f' w' := fun f' w' => ds_n (by omega)
  refine ⟨⟨⟨a1, a2, a3, a4, a5, a6, by show w + 1 ≤ dW D; omega, a8, fun f' w' hf hw => by rw [ex]; exact a9 f' w' hf hw, fun f' w' hf hw => by rw [ex]; exact a10 f' w' hf hw, a11, a12, a13⟩, fun _ => ?_, b3⟩, c2, c3, fun f' w' h1 h2 => by rw [ex]; exact c4 f' w' h1 h2, c5, c6, fun e => by rw [y2] at e; cases e⟩
  exact c6 w wl g0
theorem wf_seen {v : Nat} (hv : v ≤ 1) (W : WfR D br N) (z : (lnJ X D a).1 = 0) : WfR (dnJ X D a v) br N := by
  obtain ⟨z1, z2, z3⟩ := cCk_z (by decide) (cS_z z)
  have z4 := cH_z z1
  obtain ⟨y1, y2, y3⟩ := cCk_z (by decide) (cS_z (cP_z z4.1).1)
  obtain ⟨x1, x2, x3⟩ := cCk_z (by decide) y1
  have n5 := of_decide_eq_true x2
  have n0 := of_decide_eq_true y2
  obtain ⟨⟨⟨a1, a2, a3, a4, a5, a6, a7, a8, a9, a10, a11, a12, a13⟩, b2, b3⟩, c2, c3, c4, c5, c6, c7⟩ := W
  have p1 : 1 ≤ tN X (j2 X D a).2 := z4.2.2.1
  have p2 : tN X (j2 X D a).2 ≤ 99 := z4.2.2.2.1
  unfold dnJ
  generalize tN X (j2 X D a).2 = p at *
  have ex : ∀ f' w', f' < 4 → dX (ds (ds (ds D 15 (dSe D) p) 16 (dSe D) v) 0 6 (dSe D + 1)) f' w' = dX D f' w' := fun f' w' h4 => (ds_n (by omega)).trans ((ds_n (by omega)).trans (ds_n (by omega)))
  refine ⟨⟨⟨a1, a2, a3, by show dSe D + 1 ≤ 5; omega, a5, a6, a7, a8, fun f' w' hf hw => ?_, fun f' w' hf hw => ?_, a11, a12, fun k hk => ?_⟩, b2, b3⟩, c2, c3, fun f' w' h1 h2 => by rw [ex f' w' h2]; exact c4 f' w' h1 h2, c5, c6, fun e => absurd (c7 e).2.2.2.1 n0⟩
  · rw [ex f' w' (Nat.lt_of_lt_of_le hf a2)]; exact a9 f' w' hf hw
  · rw [ex f' w' (Nat.lt_of_lt_of_le hf a2)]; exact a10 f' w' hf hw
  · have hk' : k < dSe D + 1 := hk
    have e15 : dSd (ds (ds (ds D 15 (dSe D) p) 16 (dSe D) v) 0 6 (dSe D + 1)) k = if k = dSe D then p else dSd D k := by
      show (ds (ds (ds D 15 (dSe D) p) 16 (dSe D) v) 0 6 (dSe D + 1)).1 15 k = _
      rw [ds_n (by omega), ds_n (by omega), ds_u]
      by_cases y : k = dSe D
      · rw [if_pos ⟨rfl, y⟩, if_pos y]
      · rw [if_neg (fun e => y e.2), if_neg y]; rfl
    have e16 : dSj (ds (ds (ds D 15 (dSe D) p) 16 (dSe D) v) 0 6 (dSe D + 1)) k = if k = dSe D then v else dSj D k := by
      show (ds (ds (ds D 15 (dSe D) p) 16 (dSe D) v) 0 6 (dSe D + 1)).1 16 k = _
      rw [ds_n (by omega), ds_u]
      by_cases y : k = dSe D
      · rw [if_pos ⟨rfl, y⟩, if_pos y]
      · rw [if_neg (fun e => y e.2), if_neg y, ds_n (by omega)]; rfl
    rw [e15, e16]
    by_cases y : k = dSe D
    · rw [if_pos y, if_pos y]; exact ⟨p1, p2, hv⟩
    · rw [if_neg y, if_neg y]; exact a13 k (by omega)
/-- the feast that is being told -/
def FQ (D : DD) (f : Nat) : Prop := (∀ w, w < dW D → dX D f w ≤ dT D w) ∧ ∀ w, dW D ≤ w → dX D f w = 0
theorem FQ.part {f : Nat} {s : DD × CU} (P : FD s.1 N f) (Q : FQ s.1 f) (z : (fpart X N f s).2.1 = 0) : FQ (fpart X N f s).1 f := by
  obtain ⟨z1, z2, z3, z4, z5, z6, z7, z8⟩ := fpart_z z
  have wl := P.2.2.1 _ z3
  have hT := P.2.1 _ wl
  unfold fpart
  have u : ∀ w v t, dX (ds s.1 (6 + f) v t) f w = if w = v then t else dX s.1 f w := fun w v t => by
    show (ds s.1 (6 + f) v t).1 (6 + f) w = _
    rw [ds_u]
    by_cases y : w = v
    · rw [if_pos ⟨rfl, y⟩, if_pos y]
    · rw [if_neg (fun e => y e.2), if_neg y]; rfl
  refine ⟨fun w hw => ?_, fun w hw => ?_⟩
  · rw [ds_dW (by omega)] at hw
    rw [u, ds_dT (by omega)]
    split
    · next y => rw [y]; omega
    · exact Q.1 w hw
  · rw [ds_dW (by omega)] at hw
    rw [u, if_neg (by omega)]
    exact Q.2 w hw
theorem run_ex {σ : Type} (F : σ → σ) (p : σ → Bool) (B : Nat) : ∀ s, ∃ n, n ≤ B ∧ run F p B s = itn F n s ∧ ∀ k, k < n → p (itn F k s) = true := by
  induction B with
  | zero => intro s; exact ⟨0, Nat.le_refl _, rfl, fun k hk => absurd hk (Nat.not_lt_zero _)⟩
  | succ B ih =>
    intro s
    by_cases q : p s = true
    · obtain ⟨n, h1, h2, h3⟩ := ih (F s)
      refine ⟨n + 1, by omega, ?_, fun k hk => ?_⟩
      · show (if p s = true then run F p B (F s) else s) = _
        rw [if_pos q, h2, itn_s]
        rfl
      · cases k with
        | zero => exact q
        | succ k =>
          have := h3 k (by omega)
          rw [itn_s] at this
          exact this
    · exact ⟨0, by omega, by show (if p s = true then run F p B (F s) else s) = s; rw [if_neg q], fun k hk => absurd hk (Nat.not_lt_zero _)⟩
theorem wf_feast (W : WfR D br N) (z : (lnF X D N br a).1 = 0) : WfR (dnF X D N br a) br (nnF X D N br a) := by
  unfold lnF at z
  unfold dnF nnF
  obtain ⟨n, hn1, hn2, hn3⟩ := run_ex (fnext X N (dF D)) (fmore X) 1000 (fpart X N (dF D) (D, f2 X D N br a))
  have ef : fall X D N br a = itn (fnext X N (dF D)) n (fpart X N (dF D) (D, f2 X D N br a)) := hn2
  rw [ef] at z ⊢
  have zs0 : (fpart X N (dF D) (D, f2 X D N br a)).2.1 = 0 := by
    cases n with
    | zero => exact z
    | succ n => exact (of_decide_eq_true (hn3 0 (by omega))).1
  have zf := (fpart_z zs0).1
  have zT := cT_z (cS_z zf)
  obtain ⟨hb, hn⟩ := lb_z zT.1
  obtain ⟨⟨⟨a1, a2, a3, a4, a5, a6, a7, a8, a9, a10, a11, a12, a13⟩, b2, b3⟩, c2, c3, c4, c5, c6, c7⟩ := id W
  have l4 : dF D < 4 := by omega
  have fd0 : FD D N (dF D) := ⟨a1, fun w hw => by have := a8 w hw; omega, fun w hw => (isK_n hw W).1 rfl, rfl, l4, fun w hw => by rw [c4 _ _ (Nat.le_refl _) l4]; omega⟩
  have fq0 : FQ D (dF D) := ⟨fun w hw => by rw [c4 _ _ (Nat.le_refl _) l4]; omega, fun w hw => c4 _ _ (Nat.le_refl _) l4⟩
  have key : ∀ k, k ≤ n → (itn (fnext X N (dF D)) k (fpart X N (dF D) (D, f2 X D N br a))).2.1 = 0 → FD (itn (fnext X N (dF D)) k (fpart X N (dF D) (D, f2 X D N br a))).1 N (dF D) ∧ FQ (itn (fnext X N (dF D)) k (fpart X N (dF D) (D, f2 X D N br a))).1 (dF D) ∧ ∀ i j, i ≠ 6 + dF D → (itn (fnext X N (dF D)) k (fpart X N (dF D) (D, f2 X D N br a))).1.1 i j = D.1 i j := by
    intro k
    induction k with
    | zero =>
      intro _ y
      exact ⟨FD.part (s := (D, f2 X D N br a)) fd0 y, FQ.part (s := (D, f2 X D N br a)) fd0 fq0 y, fun i j hi => ds_n (by show ¬ (i = 6 + dF D ∧ _); omega)⟩
    | succ k ih =>
      intro hk y
      have y0 := cS_z (fpart_z (s := ((itn (fnext X N (dF D)) k (fpart X N (dF D) (D, f2 X D N br a))).1, cS X (itn (fnext X N (dF D)) k (fpart X N (dF D) (D, f2 X D N br a))).2)) y).1
      obtain ⟨i1, i2, i3⟩ := ih (by omega) y0
      refine ⟨FD.part (s := ((itn (fnext X N (dF D)) k (fpart X N (dF D) (D, f2 X D N br a))).1, cS X (itn (fnext X N (dF D)) k (fpart X N (dF D) (D, f2 X D N br a))).2)) i1 y, FQ.part (s := ((itn (fnext X N (dF D)) k (fpart X N (dF D) (D, f2 X D N br a))).1, cS X (itn (fnext X N (dF D)) k (fpart X N (dF D) (D, f2 X D N br a))).2)) i1 i2 y, fun i j hi => ?_⟩
      show (ds (itn (fnext X N (dF D)) k (fpart X N (dF D) (D, f2 X D N br a))).1 (6 + dF D) _ _).1 i j = _
      rw [ds_n (by omega)]
      exact i3 i j hi
  obtain ⟨k1, k2, k3⟩ := key n (Nat.le_refl _) z
  have hG : (itn (fnext X N (dF D)) n (fpart X N (dF D) (D, f2 X D N br a))).1.2 = D.2 := by
    clear key k1 k2 k3 z ef hn2 hn3 hn1
    induction n with
    | zero => rfl
    | succ n ih => exact ih
  generalize (itn (fnext X N (dF D)) n (fpart X N (dF D) (D, f2 X D N br a))).1 = E at *
  have g : ∀ i j, i ≠ 6 + dF D → ¬ (i = 0 ∧ j = 1) → (ds E 0 1 (dF D + 1)).1 i j = D.1 i j := fun i j h1 h2 => (ds_n h2).trans (k3 i j h1)
  have eT : ∀ w, dT (ds E 0 1 (dF D + 1)) w = dT D w := fun w => g 2 w (by omega) (by omega)
  have eG : ∀ w, dG (ds E 0 1 (dF D + 1)) w = dG D w := fun w => congrFun hG w
  have ec : ∀ w, dGc (ds E 0 1 (dF D + 1)) w = dGc D w := fun w => g 5 w (by omega) (by omega)
  have eW : dW (ds E 0 1 (dF D + 1)) = dW D := g 0 0 (by omega) (by omega)
  have eF : dF (ds E 0 1 (dF D + 1)) = dF D + 1 := ds_s
  have eN : dN (ds E 0 1 (dF D + 1)) = dN D := g 0 2 (by omega) (by omega)
  have eSu : dSu (ds E 0 1 (dF D + 1)) = dSu D := g 0 5 (by omega) (by omega)
  have eSe : dSe (ds E 0 1 (dF D + 1)) = dSe D := g 0 6 (by omega) (by omega)
  have eX : ∀ f w, dX (ds E 0 1 (dF D + 1)) f w = dX E f w := fun f w => ds_n (by omega)
  have eX2 : ∀ f w, f ≠ dF D → dX (ds E 0 1 (dF D + 1)) f w = dX D f w := fun f w hf => g (6 + f) w (by omega) (by omega)
  have dWE : dW E = dW D := k3 0 0 (by omega)
  have dTE : ∀ w, dT E w = dT D w := fun w => k3 2 w (by omega)
  refine ⟨⟨⟨by rw [eW]; exact a1, by rw [eF]; omega, by rw [eN]; exact a3, by rw [eSe]; exact a4, by rw [show dOil (ds E 0 1 (dF D + 1)) = dOil D from g 0 3 (by omega) (by omega)]; exact a5, by rw [show dSl (ds E 0 1 (dF D + 1)) = dSl D from g 0 4 (by omega) (by omega)]; exact a6, by rw [eSu, eW]; exact a7, fun w hw => ?_, fun f w hf hw => ?_, fun f w hf hw => ?_, fun k hk => ?_, fun f hf => ?_, fun k hk => ?_⟩, fun h => ?_, fun w hw => ?_⟩, ?_, ?_, fun f w h1 h2 => ?_, fun f h1 h2 => ?_, fun w hw hz => ?_, fun e => by rw [hb] at e; cases e⟩
  · rw [eW] at hw
    rw [show dK (ds E 0 1 (dF D + 1)) w = dK D w from g 1 w (by omega) (by omega), eT, show dB (ds E 0 1 (dF D + 1)) w = dB D w from g 3 w (by omega) (by omega), show dA (ds E 0 1 (dF D + 1)) w = dA D w from g 4 w (by omega) (by omega), eG, ec]
    exact a8 w hw
  · rw [eF] at hf
    rw [eW] at hw
    rw [eT]
    by_cases y : f = dF D
    · rw [eX, y, ← dTE w]
      exact k2.1 w (by rw [dWE]; exact hw)
    · rw [eX2 f w y]
      exact a9 f w (by omega) hw
  · rw [eF] at hf
    rw [eW] at hw
    by_cases y : f = dF D
    · rw [eX, y]
      exact k2.2 w (by rw [dWE]; exact hw)
    · rw [eX2 f w y]
      exact a10 f w (by omega) hw
  · rw [eN] at hk
    rw [show dTk (ds E 0 1 (dF D + 1)) k = dTk D k from g 10 k (by omega) (by omega), show dWo (ds E 0 1 (dF D + 1)) k = dWo D k from g 11 k (by omega) (by omega), show dTi (ds E 0 1 (dF D + 1)) k = dTi D k from g 12 k (by omega) (by omega), eF]
    have := a11 k hk
    omega
  · rw [eF] at hf
    rw [show dEv (ds E 0 1 (dF D + 1)) f = dEv D f from g 13 f (by omega) (by omega), show dFr (ds E 0 1 (dF D + 1)) f = dFr D f from g 14 f (by omega) (by omega)]
    by_cases y : f = dF D
    · rw [y, (c5 _ (Nat.le_refl _) l4).1, (c5 _ (Nat.le_refl _) l4).2]
      omega
    · exact a12 f (by omega)
  · rw [eSe] at hk
    rw [show dSd (ds E 0 1 (dF D + 1)) k = dSd D k from g 15 k (by omega) (by omega), show dSj (ds E 0 1 (dF D + 1)) k = dSj D k from g 16 k (by omega) (by omega)]
    exact a13 k hk
  · rw [eSu] at h
    have e : suW (ds E 0 1 (dF D + 1)) = suW D := by unfold suW; rw [eSu]
    rw [e, eG]
    exact b2 h
  · rw [eW] at hw
    rw [ec, eT, b3 w hw]
    have : gb (dG (ds E 0 1 (dF D + 1)) w) = gb (dG D w) := by rw [eG]
    rw [this]
  · rw [eW, eF, eN]
    show N.1 + 1 = _
    omega
  · rw [eW, eF]
    exact nadd_wf (W := dW D) (F := dF D + 1) (K := 0) (fun k hk => ⟨(c3 k hk).1, fun e => by have := (c3 k hk).2 e; omega⟩) (fun e => by cases e) (fun _ => by omega)
  · rw [eF] at h1
    rw [eX2 f w (by omega)]
    exact c4 f w (by omega) h2
  · rw [eF] at h1
    rw [show dEv (ds E 0 1 (dF D + 1)) f = dEv D f from g 13 f (by omega) (by omega), show dFr (ds E 0 1 (dF D + 1)) f = dFr D f from g 14 f (by omega) (by omega)]
    exact c5 f (by omega) h2
  · rw [eW] at hw
    rw [ec] at hz
    rw [eG]
    exact c6 w hw hz
theorem wf_line {s : LSt} (W : WfR s.1 s.2.1 s.2.2.1) (z : (line X s).2.2.2.1 = 0) : WfR (line X s).1 (line X s).2.1 (line X s).2.2.1 := by
  unfold line at z ⊢
  by_cases q0 : s.2.2.2.1 ≠ 0
  · rw [if_pos q0] at z ⊢; exact W
  rw [if_neg q0] at z ⊢
  by_cases q1 : isW X 1 s.2.2.2.2 = true
  · rw [if_pos q1] at z ⊢; exact wf_brass W z
  rw [if_neg q1] at z ⊢
  by_cases q2 : isW X 4 s.2.2.2.2 = true
  · rw [if_pos q2] at z ⊢; exact wf_wheel W z
  rw [if_neg q2] at z ⊢
  by_cases q3 : isW X 5 s.2.2.2.2 = true
  · rw [if_pos q3] at z ⊢; exact wf_gone W z
  rw [if_neg q3] at z ⊢
  by_cases q4 : isW X 6 s.2.2.2.2 = true
  · rw [if_pos q4] at z ⊢; exact wf_feast W z
  rw [if_neg q4] at z ⊢
  by_cases q5 : isW X 7 s.2.2.2.2 = true
  · rw [if_pos q5] at z ⊢; exact wf_work W z
  rw [if_neg q5] at z ⊢
  by_cases q6 : isW X 8 s.2.2.2.2 = true
  · rw [if_pos q6] at z ⊢; exact wf_sky W z
  rw [if_neg q6] at z ⊢
  by_cases q7 : isW X 9 s.2.2.2.2 = true
  · rw [if_pos q7] at z ⊢; exact wf_susp W z
  rw [if_neg q7] at z ⊢
  by_cases q8 : isW X 10 s.2.2.2.2 = true
  · rw [if_pos q8] at z ⊢; exact wf_seen (by decide) W z
  rw [if_neg q8] at z ⊢
  by_cases q9 : isW X 11 s.2.2.2.2 = true
  · rw [if_pos q9] at z ⊢; exact wf_seen (by decide) W z
  rw [if_neg q9] at z ⊢
  exact W
end WR
