/-! the suspicion at the class -/
def sSw (s a k : Nat) : Prop := (a = s ∧ 4 ≤ k) ∨ (s + 1 ≤ a ∧ a ≤ s + 4)
def suAg (D : DD) (t : Nat) : Option Nat := fd (fun k => suJ D t (dSd D k) != decide (dSj D k = 1)) 0 (dSe D)
theorem suF_ag (D : DD) (t : Nat) : suF D t = true ↔ suAg D t = none := by
  unfold suF suAg
  rw [decide_eq_true_eq]
  rcases fd_cases (fun k => suJ D t (dSd D k) != decide (dSj D k = 1)) (dSe D) 0 with ⟨g1, g2⟩ | ⟨n, g1, g2, g3, g4, g5⟩
  · rw [g1]
    refine ⟨fun _ => rfl, fun _ k hk => ?_⟩
    have := g2 k (Nat.zero_le _) (by omega)
    simpa using this
  · rw [g1]
    refine ⟨fun g => ?_, fun g => by cases g⟩
    have e := g n (by omega)
    rw [e] at g4
    simp at g4
theorem suAg_lt {D : DD} {t n : Nat} (h : suAg D t = some n) : n < dSe D := by
  unfold suAg at h
  rcases fd_cases (fun k => suJ D t (dSd D k) != decide (dSj D k = 1)) (dSe D) 0 with ⟨g1, g2⟩ | ⟨n2, g1, g2, g3, g4, g5⟩
  · rw [g1] at h
    cases h
  · rw [g1] at h
    cases h
    omega
theorem e_W_goesOnN {h : Hp} {w k d : Nat} {v : Int32} (hs : hS h w = some (.inl 3)) (hk : hI h w 0 = nI k) (hk3 : k ≤ 3) (hd : d < 2 ^ 31) (hv : v ≤ 0) : f_W_goesOn w (nI d) v h = some (bI (gon k d 0), h) := by
  by_cases q : k = 2
  · unfold f_W_goesOn gon
    simp only [lt, gd_pos hs, hk, gd_pos zb0, gd_pos zb1]
    rw [if_pos q, q, if_pos (by decide), if_pos hv]
    rfl
  · have e := e_W_goesOn (h := h) (w := w) (k := k) (d := d) (o := 0) hs hk hk3 hd (by decide)
    unfold f_W_goesOn at e ⊢
    simp only [lt, gd_pos hs, hk, gd_pos zb0, gd_pos zb1] at e ⊢
    rw [if_neg (show ¬ nI k = (2 : Int32) from fun g => q ((nI_eq (by omega) (by omega)).mp g))] at e ⊢
    exact e
/-- one tooth gone: it is passed in one step -/
theorem suG_rs {D : DD} {t u : Nat} {fw : Bool} (hT1 : 1 < dT D (suW D)) (hT : dT D (suW D) ≤ 60) (hu : u < dT D (suW D)) : gb (suG D t) (rs (dT D (suW D)) (suG D t) fw 2 u) = false := by
  have hg : ∀ v, v < 64 → gb (suG D t) v = decide (t < dT D (suW D) ∧ v = t) := by
    intro v hv
    unfold suG
    by_cases q : t < dT D (suW D)
    · rw [if_pos q, gb_sl (by omega) hv]
      by_cases e : v = t
      · rw [decide_eq_true e, decide_eq_true ⟨q, e⟩]
      · rw [decide_eq_false e, decide_eq_false (fun g => e g.2)]
    · rw [if_neg q, gb_0 hv, decide_eq_false (fun g => q g.1)]
  show gb (suG D t) (if gb (suG D t) u = true then (if gb (suG D t) (nx (dT D (suW D)) fw 1 u) = true then nx (dT D (suW D)) fw 1 (nx (dT D (suW D)) fw 1 u) else nx (dT D (suW D)) fw 1 u) else u) = false
  by_cases q : gb (suG D t) u = true
  · rw [if_pos q]
    have q1 := q
    rw [hg u (by omega), decide_eq_true_eq] at q1
    have hnl := nx_lt (fw := fw) hu hT1
    have q2 : gb (suG D t) (nx (dT D (suW D)) fw 1 u) = false := by
      rw [hg _ (by omega)]
      refine decide_eq_false (fun g => ?_)
      have e : nx (dT D (suW D)) fw 1 u = u := by rw [g.2, q1.2]
      unfold nx at e
      split at e
      · split at e <;> omega
      · split at e <;> omega
    rw [if_neg (by rw [q2]; simp)]
    exact q2
  · rw [if_neg q]
    cases e : gb (suG D t) u with
    | false => rfl
    | true => exact absurd e q
section SU
variable {h : Hp} {s o t : Nat} {D : DD}
theorem LayS.fr {S : Nat → Nat → Prop} {h' : Hp} (L : LayS h s) (F : Fr S h h') (hS' : ∀ k, k < 4 → ¬ S s k) : LayS h' s := by
  obtain ⟨l1, l2, l3, l4, l5, l6⟩ := L
  unfold LayS
  rw [F.2.1, (F.2.2.2 s 0 (hS' 0 (by decide))).2.2, (F.2.2.2 s 1 (hS' 1 (by decide))).2.2, (F.2.2.2 s 2 (hS' 2 (by decide))).2.2, (F.2.2.2 s 3 (hS' 3 (by decide))).2.2]
  exact ⟨l1, l2, l3, l4, l5, l6⟩
theorem e_S_jerkedOn (L : LayS h s) (ht : t ≤ 60) {d : Nat} (hd : d ≤ 99) : f_S_jerkedOn s (nI t) (nI d) h = some (bI (suB h s t d), h) := by
  obtain ⟨l1, l2, l3, l4, l5, l6, l7, l8, l9⟩ := L
  have ht61 : t < 61 := by omega
  refine ok_eq ?_
  unfold f_S_jerkedOn b_S_jerkedOn_28 suB
  refine ok_ile (a := 50) (by decide) (by omega) (fun c => ?_) (fun c => ?_)
  · rw [if_neg (by omega)]
    (try unfold QB); (try unfold QM); repeat (first | (with_reducible refine ok_lt ?_) | ((with_reducible refine ok_gd ?_ ?_); first | assumption | exact zb0 | exact zb1 | ((with_reducible apply ai_of) <;> first | assumption | omega | decide) | exact ai_lit (by assumption) (by decide) (by decide) (by decide)) | (refine ok_bR (by assumption) ?_))
    (try simp (disch := omega) only [nI_clamp, cl0, cl1, cl2, cl3, cl4, cl5, cl6, cl7, cl8])
    rw [show nI d - 50 = nI (d - 50) from pk_sub (b := 50) c]
    unfold gb
    refine ok_ite (fun c => ok_gd zb1 (ok_ret ⟨?_, rfl⟩)) (fun c => ok_gd zb0 (ok_ret ⟨?_, rfl⟩))
    · rw [decide_eq_true c]
      rfl
    · rw [decide_eq_false c]
      rfl
  · rw [if_pos c]
    (try unfold QB); (try unfold QM); repeat (first | (with_reducible refine ok_lt ?_) | ((with_reducible refine ok_gd ?_ ?_); first | assumption | exact zb0 | exact zb1 | ((with_reducible apply ai_of) <;> first | assumption | omega | decide) | exact ai_lit (by assumption) (by decide) (by decide) (by decide)) | (refine ok_bR (by assumption) ?_))
    (try simp (disch := omega) only [nI_clamp, cl0, cl1, cl2, cl3, cl4, cl5, cl6, cl7, cl8])
    unfold gb
    refine ok_ite (fun c => ok_gd zb1 (ok_ret ⟨?_, rfl⟩)) (fun c => ok_gd zb0 (ok_ret ⟨?_, rfl⟩))
    · rw [decide_eq_true c]
      rfl
    · rw [decide_eq_false c]
      rfl
theorem ok_S_recordJerk (L : LayS h s) (ht : t ≤ 60) {d : Nat} (hd : d ≤ 99) : Ok (f_S_recordJerk s (nI t) (nI d) h) (fun _ h' => Fk (fun a k => (a = s + 2 ∨ a = s + 3) ∧ k = t) h h' ∧ ∀ e, e ≤ 99 → suB h' s t e = (suB h s t e || decide (e = d))) := by
  obtain ⟨l1, l2, l3, l4, l5, l6, l7, l8, l9⟩ := L
  have ht61 : t < 61 := by omega
  unfold f_S_recordJerk
  refine ok_ile (a := 50) (by decide) (by omega) (fun c => ?_) (fun c => ?_)
  · (try unfold QB); (try unfold QM); repeat (first | (with_reducible refine ok_lt ?_) | ((with_reducible refine ok_gd ?_ ?_); first | assumption | exact zb0 | exact zb1 | ((with_reducible apply ai_of) <;> first | assumption | omega | decide) | exact ai_lit (by assumption) (by decide) (by decide) (by decide)) | (refine ok_bR (by assumption) ?_))
    (try simp (disch := omega) only [nI_clamp, cl0, cl1, cl2, cl3, cl4, cl5, cl6, cl7, cl8])
    rw [show nI d - 50 = nI (d - 50) from pk_sub (b := 50) c]
    refine ok_ret ⟨fk_uL ⟨Or.inr rfl, rfl⟩, fun e he => ?_⟩
    unfold suB
    by_cases q : e < 50
    · rw [if_pos q, if_pos q, hL_uLa (by omega), decide_eq_false (by omega), Bool.or_false]
    · rw [if_neg q, if_neg q, hL_uLs, gb_or _ _ (by omega), gb_sl (by omega) (by omega)]
      congr 1
      exact decide_eq_decide.mpr ⟨fun g => by omega, fun g => by omega⟩
  · (try unfold QB); (try unfold QM); repeat (first | (with_reducible refine ok_lt ?_) | ((with_reducible refine ok_gd ?_ ?_); first | assumption | exact zb0 | exact zb1 | ((with_reducible apply ai_of) <;> first | assumption | omega | decide) | exact ai_lit (by assumption) (by decide) (by decide) (by decide)) | (refine ok_bR (by assumption) ?_))
    (try simp (disch := omega) only [nI_clamp, cl0, cl1, cl2, cl3, cl4, cl5, cl6, cl7, cl8])
    refine ok_ret ⟨fk_uL ⟨Or.inl rfl, rfl⟩, fun e he => ?_⟩
    unfold suB
    by_cases q : e < 50
    · rw [if_pos q, if_pos q, hL_uLs, gb_or _ _ (by omega), gb_sl (by omega) (by omega)]
    · rw [if_neg q, if_neg q, hL_uLa (by omega), decide_eq_false (by omega), Bool.or_false]
/-- the guessed wheel -/
def GsW (h : Hp) (s : Nat) (D : DD) (t : Nat) : Prop := hI h (s + 1) 0 = nI (dK D (suW D)) ∧ hI h (s + 1) 1 = nI (dT D (suW D)) ∧ hI h (s + 1) 2 = nI (dB D (suW D)) ∧ hI h (s + 1) 3 = nI (dA D (suW D)) ∧ hL h (s + 1) 5 = suG D t
theorem ok_S_recordJerks (L : LayS h s) (W : Wf D) (hsu : suW D < dW D) (ht : t ≤ dT D (suW D)) (G : GsW h s D t) : Ok (f_S_recordJerks s (nI t) (nI (dOil D)) h) (fun _ h' => Fk (fun a k => (a = s + 2 ∨ a = s + 3) ∧ k = t) h h' ∧ ∀ d, 1 ≤ d → d ≤ 99 → suB h' s t d = suJ D t d) := by
  have hT := W.2.2.2.2.2.2.2.1 (suW D) hsu
  have w5 := W.2.2.2.2.1
  have ht61 : t < 61 := by omega
  obtain ⟨l1, l2, l3, l4, l5, l6, l7, l8, l9⟩ := id L
  unfold f_S_recordJerks
  (try unfold QB); (try unfold QM); repeat (first | (with_reducible refine ok_lt ?_) | ((with_reducible refine ok_gd ?_ ?_); first | assumption | exact zb0 | exact zb1 | ((with_reducible apply ai_of) <;> first | assumption | omega | decide) | exact ai_lit (by assumption) (by decide) (by decide) (by decide)) | (refine ok_bR (by assumption) ?_))
  (try simp (disch := omega) only [nI_clamp, cl0, cl1, cl2, cl3, cl4, cl5, cl6, cl7, cl8])
  generalize hH : uL (uL h (s + 2) t 0) (s + 3) t 0 = H
  have hFH : Fk (fun a k => (a = s + 2 ∨ a = s + 3) ∧ k = t) h H := by
    rw [← hH]
    exact (fk_uL ⟨Or.inl rfl, rfl⟩).trans (fk_uL ⟨Or.inr rfl, rfl⟩)
  have H0 : ∀ d, d ≤ 99 → suB H s t d = false := by
    intro d hd
    unfold suB
    rw [← hH]
    by_cases q : d < 50
    · rw [if_pos q, hL_uLa (by omega), hL_uLs, gb_0 (by omega)]
    · rw [if_neg q, hL_uLs, gb_0 (by omega)]
  have fk : ∀ {h' : Hp}, Fk (fun a k => (a = s + 2 ∨ a = s + 3) ∧ k = t) h h' → LayS h' s ∧ GsW h' s D t := fun F => by
    refine ⟨L.fr F.r (fun k hk e => by omega), ?_⟩
    obtain ⟨g0, g1, g2, g3, g5⟩ := G
    unfold GsW
    rw [(F.2.2.2.2 (s + 1) 0 (by omega)).1, (F.2.2.2.2 (s + 1) 1 (by omega)).1, (F.2.2.2.2 (s + 1) 2 (by omega)).1, (F.2.2.2.2 (s + 1) 3 (by omega)).1, (F.2.2.2.2 (s + 1) 5 (by omega)).2]
    exact ⟨g0, g1, g2, g3, g5⟩
  have hstl : ∀ d, suT D t d < dT D (suW D) := by
    intro d
    induction d with
    | zero => exact hT.2.2.2.2.2.2.1
    | succ d ih =>
      show (if gon (dK D (suW D)) d (dOil D - d) = true then _ else suT D t d) < _
      split
      · exact rs_lt (by omega) (nx_lt ih (by omega))
      · exact ih
  have g3 : hI H (s + 1) 3 = nI (suT D t 0) := (fk hFH).2.2.2.2.1
  rw [g3]
  refine ok_up 99 (fun i st h' => st = (s, nI t, nI (dOil D), nI (suT D t i), nI (i + 1)) ∧ Fk (fun a k => (a = s + 2 ∨ a = s + 3) ∧ k = t) h h' ∧ ∀ d, d ≤ 99 → suB h' s t d = (decide (1 ≤ d ∧ d ≤ i) && suJ D t d)) ?_ FU 0 _ _ (Nat.zero_le _) ⟨rfl, hFH, fun d hd => by rw [H0 d hd, decide_eq_false (by omega)]; rfl⟩ (by show _ < 10000; decide)
  intro k i st h' hi hI' kk
  obtain ⟨rfl, hF, hbits⟩ := hI'
  obtain ⟨L', G'⟩ := fk hF
  obtain ⟨m1, m2, m3, m4, m5, m6, m7, m8, m9⟩ := id L'
  obtain ⟨q0, q1, q2, q3, q5⟩ := id G'
  show Ok (b_S_recordJerks_25 k s (nI t) (nI (dOil D)) (nI (suT D t i)) (nI (i + 1)) h') _
  unfold b_S_recordJerks_25 b_S_recordJerks_112
  refine ok_ilt (a := 99) (by decide) (by omega) (fun c => ok_ret ⟨hF, fun d h1 h2 => ?_⟩) (fun c => ?_)
  · rw [hbits d h2, decide_eq_true ⟨h1, by omega⟩, Bool.true_and]
  · have hst := hstl i
    have ego : f_W_goesOn (s + 1) (nI (i + 1) - 1) (nI (dOil D) - (nI (i + 1) - 1)) h' = some (bI (gon (dK D (suW D)) i (dOil D - i)), h') := by
      rw [nI_pred]
      by_cases q : i ≤ dOil D
      · rw [pk_sub q]
        exact e_W_goesOn m6 q0 hT.1 (by omega) (by omega)
      · rw [show dOil D - i = 0 by omega]
        exact e_W_goesOnN m6 q0 hT.1 (by omega) (Int32.le_of_lt (pk_sneg (by omega) (by omega)))
    (try unfold QB); (try unfold QM); repeat (first | (with_reducible refine ok_lt ?_) | ((with_reducible refine ok_gd ?_ ?_); first | assumption | exact zb0 | exact zb1 | ((with_reducible apply ai_of) <;> first | assumption | omega | decide) | exact ai_lit (by assumption) (by decide) (by decide) (by decide)) | (refine ok_bR (by assumption) ?_))
    refine ok_bde ego ?_
    have hsj : suJ D t (i + 1) = (gon (dK D (suW D)) i (dOil D - i) && gb (suG D t) (nx (dT D (suW D)) (dfw D (suW D)) (dB D (suW D)) (suT D t i))) := rfl
    have hst1 : suT D t (i + 1) = if gon (dK D (suW D)) i (dOil D - i) = true then rs (dT D (suW D)) (suG D t) (dfw D (suW D)) 2 (nx (dT D (suW D)) (dfw D (suW D)) (dB D (suW D)) (suT D t i)) else suT D t i := rfl
    have upd : ∀ {h2 : Hp} (b : Bool), b = suJ D t (i + 1) → (∀ d, d ≤ 99 → suB h2 s t d = (suB h' s t d || (decide (d = i + 1) && b))) → ∀ d, d ≤ 99 → suB h2 s t d = (decide (1 ≤ d ∧ d ≤ i + 1) && suJ D t d) := by
      intro h2 b hb hu d hd
      rw [hu d hd, hbits d hd]
      by_cases e : d = i + 1
      · subst e
        rw [decide_eq_false (by omega), decide_eq_true rfl, decide_eq_true ⟨by omega, by omega⟩, hb]
        simp
      · by_cases e2 : 1 ≤ d ∧ d ≤ i
        · rw [decide_eq_true e2, decide_eq_false e, decide_eq_true ⟨by omega, by omega⟩]
          simp
        · rw [decide_eq_false e2, decide_eq_false e, decide_eq_false (by omega)]
          rfl
    refine ok_ib (fun cg => kk _ _ (by omega) ⟨by rw [hst1, cg, nI_1]; rfl, hF, upd (h2 := h') false (by rw [hsj, cg]; rfl) (fun d hd => by simp)⟩) (fun cg => ?_)
    rw [cg, if_pos rfl] at hst1
    rw [cg, Bool.true_and] at hsj
    (try unfold QB); (try unfold QM); repeat (first | (with_reducible refine ok_lt ?_) | ((with_reducible refine ok_gd ?_ ?_); first | assumption | exact zb0 | exact zb1 | ((with_reducible apply ai_of) <;> first | assumption | omega | decide) | exact ai_lit (by assumption) (by decide) (by decide) (by decide)) | (refine ok_bR (by assumption) ?_))
    rw [q2]
    refine ok_bde (e_W_way m6 q0 hT.1) ?_
    (try unfold QB); (try unfold QM); repeat (first | (with_reducible refine ok_lt ?_) | ((with_reducible refine ok_gd ?_ ?_); first | assumption | exact zb0 | exact zb1 | ((with_reducible apply ai_of) <;> first | assumption | omega | decide) | exact ai_lit (by assumption) (by decide) (by decide) (by decide)) | (refine ok_bR (by assumption) ?_))
    refine ok_bde (e_W_landing m6 q1 (by omega) hst (by omega) _) ?_
    have hnl := nx_lt (fw := decide (dK D (suW D) ≠ 1)) (b := dB D (suW D)) hst (by omega)
    (try unfold QB); (try unfold QM); repeat (first | (with_reducible refine ok_lt ?_) | ((with_reducible refine ok_gd ?_ ?_); first | assumption | exact zb0 | exact zb1 | ((with_reducible apply ai_of) <;> first | assumption | omega | decide) | exact ai_lit (by assumption) (by decide) (by decide) (by decide)) | (refine ok_bR (by assumption) ?_))
    refine ok_bde (e_W_lacks m6 _) ?_
    rw [q5]
    have l95 : ∀ h2, Fk (fun a k => (a = s + 2 ∨ a = s + 3) ∧ k = t) h h2 → (∀ d, d ≤ 99 → suB h2 s t d = (decide (1 ≤ d ∧ d ≤ i + 1) && suJ D t d)) → Ok (b_S_recordJerks_95 k s (nI t) (nI (dOil D)) (nI (i + 1)) (nI (nx (dT D (suW D)) (decide (dK D (suW D) ≠ 1)) (dB D (suW D)) (suT D t i))) h2) (fun _ h' => Fk (fun a k => (a = s + 2 ∨ a = s + 3) ∧ k = t) h h' ∧ ∀ d, 1 ≤ d → d ≤ 99 → suB h' s t d = suJ D t d) := by
      intro h2 hF2 hb2
      obtain ⟨L2, G2⟩ := fk hF2
      obtain ⟨n1, n2, n3, n4, n5, n6, -⟩ := id L2
      obtain ⟨p0, p1, p2, p3, p5⟩ := id G2
      unfold b_S_recordJerks_95 b_S_recordJerks_112
      (try unfold QB); (try unfold QM); repeat (first | (with_reducible refine ok_lt ?_) | ((with_reducible refine ok_gd ?_ ?_); first | assumption | exact zb0 | exact zb1 | ((with_reducible apply ai_of) <;> first | assumption | omega | decide) | exact ai_lit (by assumption) (by decide) (by decide) (by decide)) | (refine ok_bR (by assumption) ?_))
      refine ok_bde (e_W_way n6 p0 hT.1) ?_
      (try unfold QB); (try unfold QM); repeat (first | (with_reducible refine ok_lt ?_) | ((with_reducible refine ok_gd ?_ ?_); first | assumption | exact zb0 | exact zb1 | ((with_reducible apply ai_of) <;> first | assumption | omega | decide) | exact ai_lit (by assumption) (by decide) (by decide) (by decide)) | (refine ok_bR (by assumption) ?_))
      refine ok_bde (e_W_resting n6 p1 p5 (by omega) hnl _) ?_
      refine kk _ _ (by omega) ⟨?_, hF2, hb2⟩
      rw [hst1, nI_1]
      rfl
    cases hc : gb (suG D t) (nx (dT D (suW D)) (decide (dK D (suW D) ≠ 1)) (dB D (suW D)) (suT D t i)) with
    | false =>
      refine ok_t rfl (l95 h' hF (upd (h2 := h') false ?_ (fun d hd => by simp)))
      rw [hsj]
      exact hc.symm
    | true =>
      refine ok_f (by decide) (ok_gd m1 (ok_bd (ok_mono (ok_S_recordJerk L' (t := t) (d := i + 1) (by omega) (by omega)) ?_)))
      intro _ h2 hx2
      obtain ⟨hF2, hb2⟩ := hx2
      refine l95 h2 (hF.trans hF2) (upd (h2 := h2) true ?_ (fun d hd => by rw [hb2 d hd, Bool.and_true]))
      rw [hsj]
      exact hc.symm
end SU
