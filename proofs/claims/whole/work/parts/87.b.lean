/-! the suspicion at the class: who is against, which day, all weighed -/
section SV
variable {h : Hp} {s o t : Nat} {D : DD}
theorem e_S_firstAgainst (L : LayS h s) (rO : RepO h o D) (W : Wf D) (ht : t ≤ 60) (hb : ∀ d, 1 ≤ d → d ≤ 99 → suB h s t d = suJ D t d) : f_S_firstAgainst s o (nI t) h = some (oI (suAg D t), h) := by
  have w4 := W.2.2.2.1
  obtain ⟨⟨o1, ⟨o2, o3, o4, o5, o6, o7, o8, o9, o10⟩, o11, o12, o13, o14, o15, o16⟩, ⟨p1, p2, p3, p4, p5, p6, p7⟩, oW, oX, oK, oE, oS⟩ := id rO
  refine ok_eq ?_
  unfold f_S_firstAgainst
  refine ok_lt (ok_up (dSe D) (fun i st h' => st = (s, o, nI t, nI i) ∧ h' = h ∧ ∀ e, e < i → (suJ D t (dSd D e) != decide (dSj D e = 1)) = false) ?_ FU 0 _ _ (Nat.zero_le _) ⟨rfl, rfl, fun e he => absurd he (Nat.not_lt_zero _)⟩ (by show _ < 10000; omega))
  intro k i st h' hi hI' kk
  obtain ⟨rfl, rfl, hno⟩ := hI'
  show Ok (b_S_firstAgainst_2 k s o (nI t) (nI i) h') _
  unfold b_S_firstAgainst_2
  (try unfold QB); (try unfold QM); repeat (first | (with_reducible refine ok_lt ?_) | ((with_reducible refine ok_gd ?_ ?_); first | assumption | exact zb0 | exact zb1 | ((with_reducible apply ai_of) <;> first | assumption | omega | decide) | exact ai_lit (by assumption) (by decide) (by decide) (by decide)) | (refine ok_bR (by assumption) ?_))
  rw [p7]
  refine ok_it hi (by omega) (fun e => ok_ret ⟨?_, rfl⟩) (fun hl => ?_)
  · unfold suAg
    rw [fd_none _ _ (fun e _ h2 => hno e (by omega))]
    rfl
  · have hS := W.2.2.2.2.2.2.2.2.2.2.2.2 i hl
    have hi5 : i < 5 := by omega
    have os := oS i hl
    (try unfold QB); (try unfold QM); repeat (first | (with_reducible refine ok_lt ?_) | ((with_reducible refine ok_gd ?_ ?_); first | assumption | exact zb0 | exact zb1 | ((with_reducible apply ai_of) <;> first | assumption | omega | decide) | exact ai_lit (by assumption) (by decide) (by decide) (by decide)) | (refine ok_bR (by assumption) ?_))
    (try simp (disch := omega) only [nI_clamp, cl0, cl1, cl2, cl3, cl4, cl5, cl6, cl7, cl8])
    rw [os.1]
    refine ok_gd L.1 (ok_bde (e_S_jerkedOn L ht (by omega)) ?_)
    rw [hb _ hS.1 (by omega)]
    (try unfold QB); (try unfold QM); repeat (first | (with_reducible refine ok_lt ?_) | ((with_reducible refine ok_gd ?_ ?_); first | assumption | exact zb0 | exact zb1 | ((with_reducible apply ai_of) <;> first | assumption | omega | decide) | exact ai_lit (by assumption) (by decide) (by decide) (by decide)) | (refine ok_bR (by assumption) ?_))
    (try simp (disch := omega) only [nI_clamp, cl0, cl1, cl2, cl3, cl4, cl5, cl6, cl7, cl8])
    rw [os.2]
    have hcmp : (bI (suJ D t (dSd D i)) = nI (dSj D i)) ↔ (suJ D t (dSd D i) != decide (dSj D i = 1)) = false := by
      have e : dSj D i = 0 ∨ dSj D i = 1 := by omega
      rcases e with e | e
      · rw [e]
        cases suJ D t (dSd D i) <;> decide
      · rw [e]
        cases suJ D t (dSd D i) <;> decide
    refine ok_ite (fun c => kk _ _ hl ⟨by rw [nI_1], rfl, fun e he => ?_⟩) (fun c => ok_ret ⟨?_, rfl⟩)
    · by_cases q : e = i
      · rw [q]
        exact hcmp.mp c
      · exact hno e (by omega)
    · have c2 : (suJ D t (dSd D i) != decide (dSj D i = 1)) = true := by
        cases e : (suJ D t (dSd D i) != decide (dSj D i = 1)) with
        | true => rfl
        | false => exact absurd (hcmp.mpr e) c
      unfold suAg
      rw [fd_some _ 0 i (Nat.zero_le _) (by omega) c2 (fun e _ h2 => hno e h2)]
      rfl
theorem suC_le {a b : Nat} (h : a ≤ b) : suC D a ≤ suC D b := cnt_mono _ h
theorem suC_s (t : Nat) : suC D (t + 1) = suC D t + (if suF D t = true then 1 else 0) := rfl
theorem suC_ex (n : Nat) : ∀ j, j < suC D n → ∃ t, t < n ∧ suF D t = true ∧ suC D t = j := by
  induction n with
  | zero => intro j hj; exact absurd hj (Nat.not_lt_zero _)
  | succ n ih =>
    intro j hj
    rw [suC_s] at hj
    by_cases q : j < suC D n
    · obtain ⟨t, h1, h2, h3⟩ := ih j q
      exact ⟨t, by omega, h2, h3⟩
    · cases e : suF D n with
      | true =>
        rw [e, if_pos rfl] at hj
        exact ⟨n, by omega, e, by omega⟩
      | false =>
        rw [e] at hj
        have hj : j < suC D n + 0 := hj
        omega
/-- no fit between: nothing counted between -/
theorem suC_const {P : Nat → Bool} {a b : Nat} (h : a ≤ b) (e : suC D a = suC D b) : cntN (fun t => suF D t && P t) a = cntN (fun t => suF D t && P t) b := by
  refine (cnt_gap h (fun u h1 h2 => ?_)).symm
  cases q : suF D u with
  | false => rfl
  | true =>
    have h3 := suC_s (D := D) u
    rw [q, if_pos rfl] at h3
    have h4 := suC_le (D := D) h1
    have h5 := suC_le (D := D) (show u + 1 ≤ b from h2)
    omega
theorem suM_le (d : Nat) : suM D d ≤ suN D := by
  have h : ∀ n, cntN (fun t => suF D t && suJ D t d) n ≤ suC D n := by
    intro n
    induction n with
    | zero => exact Nat.le_refl _
    | succ n ih =>
      rw [suC_s]
      show cntN _ n + (if (suF D n && suJ D n d) = true then 1 else 0) ≤ _
      cases suF D n <;> cases suJ D n d <;> simp <;> omega
  have := h (dT D (suW D) + 1)
  unfold suM suN
  unfold suN at *
  omega
theorem suL_le (d : Nat) : (suL D d).1 ≤ d ∧ (suL D d).2 ≤ suN D := by
  induction d with
  | zero => exact ⟨Nat.le_refl _, Nat.zero_le _⟩
  | succ d ih =>
    have hm := suM_le (D := D) (d + 1)
    unfold suL
    split
    · exact ⟨Nat.zero_le _, Nat.zero_le _⟩
    · split
      · exact ⟨Nat.le_refl _, hm⟩
      · omega
theorem suL_0 (hz : suN D = 0) (d : Nat) : suL D d = (0, 0) := by
  cases d with
  | zero => rfl
  | succ d => exact if_pos hz
theorem suA_eq {p : Nat × Nat} (hp : p.2 < 2 ^ 31) : (suA p p.2 = -2) ↔ p.1 = 0 := by
  unfold suA
  by_cases q : p.1 = 0
  · rw [if_pos q]
    exact ⟨fun _ => q, fun _ => rfl⟩
  · rw [if_neg q]
    exact ⟨fun g => absurd g (oI_ne hp), fun g => absurd g q⟩
/-- what weighing has found so far: arrays and fits -/
def WgA (h : Hp) (s : Nat) (D : DD) (n : Nat) : Prop := (∀ t d, t < n → 1 ≤ d → d ≤ 99 → suB h s t d = suJ D t d) ∧ hI h s 4 = nI (suC D n) ∧ ∀ t, t < n → suF D t = true → hI h (s + 4) (suC D t) = nI t
theorem ok_S_chooseDay (L : LayS h s) (hT60 : dT D (suW D) ≤ 60) (A : WgA h s D (dT D (suW D) + 1)) : Ok (f_S_chooseDay s h) (fun _ h' => Fk (fun a k => a = s ∧ (k = 5 ∨ k = 6)) h h' ∧ hI h' s 5 = suA (suL D 99) (suL D 99).1 ∧ hI h' s 6 = suA (suL D 99) (suL D 99).2) := by
  obtain ⟨l1, l2, l3, l4, l5, l6, l7, l8, l9⟩ := id L
  obtain ⟨A1, A2, A3⟩ := A
  have hn61 : suN D ≤ 61 := by
    have := cnt_le (suF D) (dT D (suW D) + 1)
    unfold suN suC
    omega
  have A2 : hI h s 4 = nI (suN D) := A2
  have fk : ∀ {h' : Hp}, Fk (fun a k => a = s ∧ (k = 5 ∨ k = 6)) h h' → LayS h' s ∧ hI h' s 4 = nI (suN D) ∧ (∀ t d, suB h' s t d = suB h s t d) ∧ ∀ j, hI h' (s + 4) j = hI h (s + 4) j := fun F => by
    refine ⟨L.fr F.r (fun k hk e => by omega), by rw [(F.2.2.2.2 s 4 (by omega)).1]; exact A2, fun t d => ?_, fun j => (F.2.2.2.2 (s + 4) j (by omega)).1⟩
    unfold suB
    rw [(F.2.2.2.2 (s + 2) t (by omega)).2, (F.2.2.2.2 (s + 3) t (by omega)).2]
  unfold f_S_chooseDay
  refine ok_gd l1 (ok_lt (ok_gd l1 (ok_lt (ok_lt ?_))))
  refine ok_up 99 (fun i st h' => st = (s, nI (i + 1)) ∧ Fk (fun a k => a = s ∧ (k = 5 ∨ k = 6)) h h' ∧ hI h' s 5 = suA (suL D i) (suL D i).1 ∧ hI h' s 6 = suA (suL D i) (suL D i).2) ?_ FU 0 _ _ (Nat.zero_le _) ⟨rfl, (fk_uI ⟨rfl, Or.inl rfl⟩).trans (fk_uI ⟨rfl, Or.inr rfl⟩), by rw [hI_uIk (by decide), hI_uIs]; rfl, by rw [hI_uIs]; rfl⟩ (by show _ < 10000; decide)
  intro k i st h' hi hI' kk
  obtain ⟨rfl, hF, h5, h6⟩ := hI'
  obtain ⟨L', q4, qb, q9⟩ := fk hF
  obtain ⟨m1, m2, m3, m4, m5, m6, m7, m8, m9⟩ := id L'
  show Ok (b_S_chooseDay_14 k s (nI (i + 1)) h') _
  unfold b_S_chooseDay_14
  refine ok_ilt (a := 99) (by decide) (by omega) (fun c => ?_) (fun c => ?_)
  · rw [show i = 99 by omega] at h5 h6
    exact ok_ret ⟨hF, h5, h6⟩
  · (try unfold QB); (try unfold QM); repeat (first | (with_reducible refine ok_lt ?_) | ((with_reducible refine ok_gd ?_ ?_); first | assumption | exact zb0 | exact zb1 | ((with_reducible apply ai_of) <;> first | assumption | omega | decide) | exact ai_lit (by assumption) (by decide) (by decide) (by decide)) | (refine ok_bR (by assumption) ?_))
    rw [q4]
    refine ok_ile (b := 0) (by omega) (by decide) (fun z => ?_) (fun z => ?_)
    · have hz : suN D = 0 := by omega
      rw [suL_0 hz] at h5 h6
      rw [suL_0 hz]
      exact ok_ret ⟨hF, h5, h6⟩
    · refine ok_lt (ok_lt ?_)
      refine ok_up (suN D) (fun j st h2 => h2 = h' ∧ ∃ τ, τ ≤ dT D (suW D) + 1 ∧ suC D τ = j ∧ st = (s, nI (i + 1), nI (cntN (fun t => suF D t && suJ D t (i + 1)) τ), nI j)) ?_ FU 0 _ _ (Nat.zero_le _) ⟨rfl, 0, Nat.zero_le _, rfl, rfl⟩ (by show _ < 10000; omega)
      intro k2 j st h2 hj hI2 kk2
      obtain ⟨rfl, τ, hτ, hτj, rfl⟩ := hI2
      have hcl := cnt_le (fun t => suF D t && suJ D t (i + 1)) τ
      show Ok (b_S_chooseDay_31 k k2 s (nI (i + 1)) (nI (cntN (fun t => suF D t && suJ D t (i + 1)) τ)) (nI j) h2) _
      unfold b_S_chooseDay_31 b_S_chooseDay_90 b_S_chooseDay_100 b_S_chooseDay_56
      (try unfold QB); (try unfold QM); repeat (first | (with_reducible refine ok_lt ?_) | ((with_reducible refine ok_gd ?_ ?_); first | assumption | exact zb0 | exact zb1 | ((with_reducible apply ai_of) <;> first | assumption | omega | decide) | exact ai_lit (by assumption) (by decide) (by decide) (by decide)) | (refine ok_bR (by assumption) ?_))
      rw [q4]
      refine ok_it hj (by omega) (fun e => ?_) (fun hl => ?_)
      · have hcn : cntN (fun t => suF D t && suJ D t (i + 1)) τ = cntN (fun t => suF D t && suJ D t (i + 1)) (dT D (suW D) + 1) := suC_const hτ (by rw [hτj, e]; rfl)
        rw [hcn]
        have hcle : cntN (fun t => suF D t && suJ D t (i + 1)) (dT D (suW D) + 1) ≤ suN D := by
          have h : ∀ n, cntN (fun t => suF D t && suJ D t (i + 1)) n ≤ suC D n := by
            intro n
            induction n with
            | zero => exact Nat.le_refl _
            | succ n ih =>
              rw [suC_s]
              show cntN _ n + (if (suF D n && suJ D n (i + 1)) = true then 1 else 0) ≤ _
              cases suF D n <;> cases suJ D n (i + 1) <;> simp <;> omega
          exact h _
        (try unfold QB); (try unfold QM); repeat (first | (with_reducible refine ok_lt ?_) | ((with_reducible refine ok_gd ?_ ?_); first | assumption | exact zb0 | exact zb1 | ((with_reducible apply ai_of) <;> first | assumption | omega | decide) | exact ai_lit (by assumption) (by decide) (by decide) (by decide)) | (refine ok_bR (by assumption) ?_))
        rw [pk_sub hcle]
        refine ok_bde (e_max (by omega) (by omega)) ?_
        have hM : max (cntN (fun t => suF D t && suJ D t (i + 1)) (dT D (suW D) + 1)) (suN D - cntN (fun t => suF D t && suJ D t (i + 1)) (dT D (suW D) + 1)) = suM D (i + 1) := rfl
        rw [hM]
        have hml := suM_le (D := D) (i + 1)
        have hll := suL_le (D := D) i
        have hs : suL D (i + 1) = if (suL D i).1 = 0 ∨ suM D (i + 1) < (suL D i).2 then (i + 1, suM D (i + 1)) else suL D i := if_neg (by omega)
        (try unfold QB); (try unfold QM); repeat (first | (with_reducible refine ok_lt ?_) | ((with_reducible refine ok_gd ?_ ?_); first | assumption | exact zb0 | exact zb1 | ((with_reducible apply ai_of) <;> first | assumption | omega | decide) | exact ai_lit (by assumption) (by decide) (by decide) (by decide)) | (refine ok_bR (by assumption) ?_))
        rw [h6]
        have take : ((suL D i).1 = 0 ∨ suM D (i + 1) < (suL D i).2) → Ok (gd (hS h2 s = some (.inl 8)) (lt (uI h2 s 5 (nI (i + 1))) fun h1 => gd (hS h1 s = some (.inl 8)) (lt (uI h1 s 6 (nI (suM D (i + 1)))) fun h2 => k (s, nI (i + 1) + 1) h2))) (fun _ h' => Fk (fun a k => a = s ∧ (k = 5 ∨ k = 6)) h h' ∧ hI h' s 5 = suA (suL D 99) (suL D 99).1 ∧ hI h' s 6 = suA (suL D 99) (suL D 99).2) := by
          intro hc
          rw [if_pos hc] at hs
          refine ok_gd m1 (ok_lt (ok_gd m1 (ok_lt (kk _ _ (by omega) ⟨by rw [nI_1], (hF.trans (fk_uI ⟨rfl, Or.inl rfl⟩)).trans (fk_uI ⟨rfl, Or.inr rfl⟩), ?_, ?_⟩))))
          · rw [hI_uIk (by decide), hI_uIs, hs]
            show _ = if i + 1 = 0 then -2 else nI (i + 1)
            rw [if_neg (by omega)]
          · rw [hI_uIs, hs]
            show _ = if i + 1 = 0 then -2 else nI (suM D (i + 1))
            rw [if_neg (by omega)]
        refine ok_ite (fun c1 => take (Or.inl ((suA_eq (by omega)).mp c1))) (fun c1 => ?_)
        have n1 : (suL D i).1 ≠ 0 := fun g => c1 ((suA_eq (by omega)).mpr g)
        have e6 : suA (suL D i) (suL D i).2 = nI (suL D i).2 := if_neg n1
        (try unfold QB); (try unfold QM); repeat (first | (with_reducible refine ok_lt ?_) | ((with_reducible refine ok_gd ?_ ?_); first | assumption | exact zb0 | exact zb1 | ((with_reducible apply ai_of) <;> first | assumption | omega | decide) | exact ai_lit (by assumption) (by decide) (by decide) (by decide)) | (refine ok_bR (by assumption) ?_))
        rw [e6]
        refine ok_ile (by omega) (by omega) (fun c2 => kk _ _ (by omega) ⟨by rw [nI_1], hF, ?_, ?_⟩) (fun c2 => take (Or.inr c2))
        · rw [hs, if_neg (by omega)]
          exact h5
        · rw [hs, if_neg (by omega)]
          exact h6
      · obtain ⟨t, ht1, ht2, ht3⟩ := suC_ex (D := D) (dT D (suW D) + 1) j hl
        have hj61 : j < 61 := by omega
        (try unfold QB); (try unfold QM); repeat (first | (with_reducible refine ok_lt ?_) | ((with_reducible refine ok_gd ?_ ?_); first | assumption | exact zb0 | exact zb1 | ((with_reducible apply ai_of) <;> first | assumption | omega | decide) | exact ai_lit (by assumption) (by decide) (by decide) (by decide)) | (refine ok_bR (by assumption) ?_))
        (try simp (disch := omega) only [nI_clamp, cl0, cl1, cl2, cl3, cl4, cl5, cl6, cl7, cl8])
        have g9 : hI h2 (s + 4) j = nI t := by
          rw [q9, ← ht3]
          exact A3 t ht1 ht2
        rw [g9]
        refine ok_bde (e_S_jerkedOn L' (t := t) (d := i + 1) (by omega) (by omega)) ?_
        rw [qb, A1 t (i + 1) ht1 (by omega) (by omega)]
        have hcon : cntN (fun t => suF D t && suJ D t (i + 1)) τ = cntN (fun t => suF D t && suJ D t (i + 1)) t := by
          rcases Nat.le_total τ t with g | g
          · exact suC_const g (by omega)
          · exact (suC_const g (by omega)).symm
        have hs1 : suC D (t + 1) = j + 1 := by rw [suC_s, ht2, ht3]; rfl
        have hcs : cntN (fun t => suF D t && suJ D t (i + 1)) (t + 1) = cntN (fun t => suF D t && suJ D t (i + 1)) t + (if (suF D t && suJ D t (i + 1)) = true then 1 else 0) := rfl
        refine ok_ib (fun c1 => kk2 _ _ hl ⟨rfl, t + 1, by omega, hs1, ?_⟩) (fun c1 => kk2 _ _ hl ⟨rfl, t + 1, by omega, hs1, ?_⟩)
        · rw [hcs, c1, hcon, nI_1, Bool.and_false]
          rfl
        · rw [hcs, c1, hcon, nI_1, nI_1, ht2]
          rfl
theorem ok_W_loseTooth {a : Nat} (ha : hS h a = some (.inl 3)) : Ok (f_W_loseTooth a (nI t) h) (fun _ h' => Fk (fun x k => x = a ∧ (k = 4 ∨ k = 5)) h h' ∧ hL h' a 5 = hL h a 5 ||| ((1 : Int64) <<< ((nI t).toInt64 &&& 63))) := by
  unfold f_W_loseTooth
  refine ok_gd ha (ok_lt (ok_gd ha (ok_lt (ok_gd ha (ok_lt (ok_gd ha (ok_lt (ok_ret ⟨?_, ?_⟩))))))))
  · refine Fk.trans ?_ (fk_uI ⟨rfl, Or.inl rfl⟩)
    exact fk_uL ⟨rfl, Or.inr rfl⟩
  · rw [hL_uI, hL_uLs]
set_option maxHeartbeats 1000000 in
theorem ok_S_weigh (L : LayS h s) (rO : RepO h o D) (W : WfX D) (hso : o + 15 ≤ s) (hsu : 0 < dSu D) (P : Sus h s D) : Ok (f_S_weigh s o h) (fun _ h' => Fk (sSw s) h h' ∧ SusK h' s D) := by
  obtain ⟨l1, l2, l3, l4, l5, l6, l7, l8, l9⟩ := id L
  have w1 := W.1.1
  have w7 := W.1.2.2.2.2.2.2.1
  have hsw : suW D < dW D := by unfold suW; omega
  have hT := W.1.2.2.2.2.2.2.2.1 (suW D) hsw
  unfold f_S_weigh
  refine ok_gd l1 (ok_lt ?_)
  rcases P with P | P
  · rw [P]
    refine ok_t rfl (ok_gd ⟨zb1, l1⟩ (ok_lt (ok_gd l1 (ok_lt ?_))))
    generalize hH : uI (uI h s 7 1) s 4 0 = H
    have hFH : Fk (sSw s) h H := by
      rw [← hH]
      exact (fk_uI (Or.inl ⟨rfl, by decide⟩)).trans (fk_uI (Or.inl ⟨rfl, by decide⟩))
    have fk : ∀ {h' : Hp}, Fk (sSw s) h h' → LayS h' s ∧ RepO h' o D := fun F => ⟨L.fr F.r (fun k hk e => by unfold sSw at e; omega), rO.fk F (fun i k hi e => by unfold sSw at e; omega) w1⟩
    have rOH := (fk hFH).2
    obtain ⟨o1, ⟨o2, -⟩, o11, o12, o13, o14, o15, o16⟩ := id rOH.1
    obtain ⟨o17, o18⟩ := o16 (suW D) (by omega)
    have p6 : hI H o 12 = nI (suW D) := by
      rw [rOH.2.1.2.2.2.2.2.1]
      exact if_neg (by omega)
    have h5 : suW D < 5 := by omega
    (try unfold QB); (try unfold QM); repeat (first | (with_reducible refine ok_lt ?_) | ((with_reducible refine ok_gd ?_ ?_); first | assumption | exact zb0 | exact zb1 | ((with_reducible apply ai_of) <;> first | assumption | omega | decide) | exact ai_lit (by assumption) (by decide) (by decide) (by decide)) | (refine ok_bR (by assumption) ?_))
    rw [p6]
    (try unfold QB); (try unfold QM); repeat (first | (with_reducible refine ok_lt ?_) | ((with_reducible refine ok_gd ?_ ?_); first | assumption | exact zb0 | exact zb1 | ((with_reducible apply ai_of) <;> first | assumption | omega | decide) | exact ai_lit (by assumption) (by decide) (by decide) (by decide)) | (refine ok_bR (by assumption) ?_))
    (try simp (disch := omega) only [nI_clamp, cl0, cl1, cl2, cl3, cl4, cl5, cl6, cl7, cl8])
    (try unfold QB); (try unfold QM); repeat (first | (with_reducible refine ok_lt ?_) | ((with_reducible refine ok_gd ?_ ?_); first | assumption | exact zb0 | exact zb1 | ((with_reducible apply ai_of) <;> first | assumption | omega | decide) | exact ai_lit (by assumption) (by decide) (by decide) (by decide)) | (refine ok_bR (by assumption) ?_))
    refine ok_up (dT D (suW D) + 1) (fun i st h' => st = (s, o, o + 10 + suW D, nI i) ∧ Fk (sSw s) h h' ∧ hI h' s 7 = 1 ∧ WgA h' s D i) ?_ FU 0 _ _ (Nat.zero_le _) ⟨rfl, hFH, by rw [← hH, hI_uIk (by decide), hI_uIs], ⟨fun t d ht => absurd ht (Nat.not_lt_zero _), by rw [← hH, hI_uIs]; rfl, fun t ht => absurd ht (Nat.not_lt_zero _)⟩⟩ (by show _ < 10000; omega)
    intro k i st h' hi hI' kk
    obtain ⟨rfl, hF, h7, hA⟩ := hI'
    obtain ⟨L', rO'⟩ := fk hF
    obtain ⟨m1, m2, m3, m4, m5, m6, m7, m8, m9⟩ := id L'
    obtain ⟨v1, ⟨v2, -⟩, v11, v12, v13, v14, v15, v16⟩ := id rO'.1
    obtain ⟨v17, v18⟩ := v16 (suW D) (by omega)
    have ow := rO'.2.2.1 (suW D) hsw
    show Ok (b_S_weigh_30 k s o (o + 10 + suW D) (nI i) h') _
    unfold b_S_weigh_30
    refine ok_gd v18 (ok_lt ?_)
    rw [ow.2.1]
    refine ok_ilt (by omega) (by omega) (fun c => ?_) (fun c => ?_)
    · have ei : i = dT D (suW D) + 1 := by omega
      subst ei
      refine ok_gd m1 (ok_bd (ok_mono (ok_S_chooseDay L' (by omega) hA) ?_))
      intro _ h2 hx2
      obtain ⟨hF2, g5, g6⟩ := hx2
      refine ok_ret ⟨hF.trans (hF2.mono (fun a k e => by unfold sSw; omega)), hsu, ?_, fun t d ht h1 h2 => ?_, ?_, fun t ht hf => ?_, g5, g6⟩
      · rw [(hF2.2.2.2.2 s 7 (by omega)).1]
        exact h7
      · unfold suB
        rw [(hF2.2.2.2.2 (s + 2) t (by omega)).2, (hF2.2.2.2.2 (s + 3) t (by omega)).2]
        exact hA.1 t d (by omega) h1 h2
      · rw [(hF2.2.2.2.2 s 4 (by omega)).1]
        exact hA.2.1
      · rw [(hF2.2.2.2.2 (s + 4) _ (by omega)).1]
        exact hA.2.2 t (by omega) hf
    · have hl : i < dT D (suW D) + 1 := by omega
      refine ok_gd m1 (ok_bR m2 (ok_gd m6 (ok_bd (ok_mono (ok_W_tellLike m6 v18 (by omega)) ?_))))
      intro _ h2 hx2
      obtain ⟨hF2, e0, e1, e2, e3, e4, e5⟩ := hx2
      have hF3 : Fk (sSw s) h h2 := hF.trans (hF2.mono (fun a k e => by unfold sSw; omega))
      have l62 : ∀ h3, Fk (fun a _ => a = s + 1) h' h3 → GsW h3 s D i → Ok (b_S_weigh_62 k s o (o + 10 + suW D) (nI i) h3) (fun _ h' => Fk (sSw s) h h' ∧ SusK h' s D) := by
        intro h3 hF4 G3
        have hF5 : Fk (sSw s) h h3 := hF.trans (hF4.mono (fun a k e => by unfold sSw; omega))
        obtain ⟨L3, rO3⟩ := fk hF5
        unfold b_S_weigh_62 b_S_weigh_102
        refine ok_gd rO3.1.1 (ok_lt ?_)
        rw [rO3.2.1.1]
        refine ok_gd L3.1 (ok_bd (ok_mono (ok_S_recordJerks L3 W.1 hsw (by omega) G3) ?_))
        intro _ h4 hx4
        obtain ⟨hF6, hb6⟩ := hx4
        have hF7 : Fk (sSw s) h h4 := hF5.trans (hF6.mono (fun a k e => by unfold sSw; omega))
        obtain ⟨L4, rO4⟩ := fk hF7
        refine ok_gd L4.1 (ok_bde (e_S_firstAgainst L4 rO4 W.1 (t := i) (by omega) hb6) ?_)
        have hcl := cnt_le (suF D) i
        have f4 : hI h4 s 4 = nI (suC D i) := by
          rw [(hF6.2.2.2.2 s 4 (by omega)).1, (hF4.2.2.2.2 s 4 (by omega)).1]
          exact hA.2.1
        have f7 : hI h4 s 7 = 1 := by
          rw [(hF6.2.2.2.2 s 7 (by omega)).1, (hF4.2.2.2.2 s 7 (by omega)).1]
          exact h7
        have fb : ∀ t d, t < i + 1 → 1 ≤ d → d ≤ 99 → suB h4 s t d = suJ D t d := by
          intro t d ht h1 h2
          by_cases q : t = i
          · rw [q]
            exact hb6 d h1 h2
          · have e : suB h4 s t d = suB h' s t d := by
              unfold suB
              rw [(hF6.2.2.2.2 (s + 2) t (by omega)).2, (hF6.2.2.2.2 (s + 3) t (by omega)).2, (hF4.2.2.2.2 (s + 2) t (by omega)).2, (hF4.2.2.2.2 (s + 3) t (by omega)).2]
            rw [e]
            exact hA.1 t d (by omega) h1 h2
        have ff : ∀ t, t < i → suF D t = true → hI h4 (s + 4) (suC D t) = nI t := by
          intro t ht hf
          rw [(hF6.2.2.2.2 (s + 4) _ (by omega)).1, (hF4.2.2.2.2 (s + 4) _ (by omega)).1]
          exact hA.2.2 t ht hf
        obtain ⟨n1, n2, n3, n4, n5, n6, n7, n8, n9⟩ := id L4
        cases hag : suAg D i with
        | none =>
          have hfi : suF D i = true := (suF_ag D i).mpr hag
          have hs : suC D (i + 1) = suC D i + 1 := by rw [suC_s, hfi]; rfl
          refine ok_t rfl ?_
          have h61 : suC D i < 61 := by unfold suC; omega
          refine ok_gd n1 (ok_bR n5 (ok_gd n1 (ok_lt ?_)))
          rw [f4]
          (try unfold QB); (try unfold QM); repeat (first | (with_reducible refine ok_lt ?_) | ((with_reducible refine ok_gd ?_ ?_); first | assumption | exact zb0 | exact zb1 | ((with_reducible apply ai_of) <;> first | assumption | omega | decide) | exact ai_lit (by assumption) (by decide) (by decide) (by decide)) | (refine ok_bR (by assumption) ?_))
          (try simp (disch := omega) only [nI_clamp, cl0, cl1, cl2, cl3, cl4, cl5, cl6, cl7, cl8])
          rw [hI_uIa (by omega), f4, nI_1, nI_1]
          refine kk _ _ hl ⟨rfl, (hF7.trans (fk_uI (Or.inr ⟨by omega, by omega⟩))).trans (fk_uI (Or.inl ⟨rfl, by decide⟩)), ?_, fun t d ht h1 h2 => ?_, ?_, fun t ht hf => ?_⟩
          · rw [hI_uIk (by decide), hI_uIa (by omega)]
            exact f7
          · exact fb t d ht h1 h2
          · rw [hI_uIs, hs]
          · rw [hI_uIa (by omega), hI_uI]
            by_cases q : t = i
            · rw [if_pos ⟨rfl, by rw [q]⟩, q]
            · have h3 := suC_s (D := D) t
              rw [hf, if_pos rfl] at h3
              have h4 := suC_le (D := D) (show t + 1 ≤ i by omega)
              rw [if_neg (fun g => by omega)]
              exact ff t (by omega) hf
        | some n =>
          have hfi : suF D i = false := by
            cases e : suF D i with
            | false => rfl
            | true =>
              have := (suF_ag D i).mp e
              rw [hag] at this
              cases this
          have hs : suC D (i + 1) = suC D i := by rw [suC_s, hfi]; rfl
          have w4 := W.1.2.2.2.1
          have hn := suAg_lt hag
          refine ok_f (oI_ne (by omega)) (kk _ _ hl ⟨by rw [nI_1], hF7, f7, fb, by rw [f4, hs], fun t ht hf => ?_⟩)
          by_cases q : t = i
          · rw [q, hfi] at hf
            cases hf
          · exact ff t (by omega) hf
      have ow2 := (fk hF3).2.2.2.1 (suW D) hsw
      obtain ⟨L2, rO2⟩ := fk hF3
      have z := (rO2.1.2.2.2.2.2.2.2 (suW D) (by omega)).2
      refine ok_gd z (ok_lt ?_)
      rw [ow2.2.1]
      have gz : dG D (suW D) = 0 := W.2.1 hsu
      refine ok_ile (by omega) (by omega) (fun c1 => ?_) (fun c1 => ?_)
      · refine l62 h2 hF2 ⟨by rw [e0]; exact ow.1, by rw [e1]; exact ow.2.1, by rw [e2]; exact ow.2.2.1, by rw [e3]; exact ow.2.2.2.1, ?_⟩
        rw [e5, ow.2.2.2.2.2, gz]
        exact (if_neg (by omega)).symm
      · refine ok_gd L2.1 (ok_bR L2.2.1 (ok_gd L2.2.2.2.2.2.1 (ok_bd (ok_mono (ok_W_loseTooth L2.2.2.2.2.2.1) ?_))))
        intro _ h3 hx3
        obtain ⟨hF4, g5⟩ := hx3
        refine l62 h3 (hF2.trans (hF4.mono (fun a k e => e.1))) ⟨?_, ?_, ?_, ?_, ?_⟩
        · rw [(hF4.2.2.2.2 (s + 1) 0 (by omega)).1, e0]
          exact ow.1
        · rw [(hF4.2.2.2.2 (s + 1) 1 (by omega)).1, e1]
          exact ow.2.1
        · rw [(hF4.2.2.2.2 (s + 1) 2 (by omega)).1, e2]
          exact ow.2.2.1
        · rw [(hF4.2.2.2.2 (s + 1) 3 (by omega)).1, e3]
          exact ow.2.2.2.1
        · rw [g5, e5, ow.2.2.2.2.2, gz, Int64.zero_or]
          exact (if_pos c1).symm
  · rw [P.2.1]
    exact ok_f (by decide) (ok_ret ⟨Fk.rf, P⟩)
end SV
