/-! led: both sides; the class throws where there is none -/
/-- feast f is the v-th of those that are on -/
def isLed (P : Nat → Bool) (v : Int32) (f : Nat) : Prop := P f = true ∧ nI (cntN P f) = v
section LE
variable {h : Hp} {x m o q c j tl nc : Nat} {D : DD} {V : Nat → Nat} {K Im : Nat → Nat → Nat} {T : Nat → Int32} {fa : Int32} {v : Int32}
theorem led_ex (P : Nat → Bool) (v : Int32) (n : Nat) : (∃ f, f < n ∧ isLed P v f ∧ ∀ g, g < f → ¬ isLed P v g) ∨ ∀ g, g < n → ¬ isLed P v g := by
  induction n with
  | zero => exact Or.inr (fun g hg => by omega)
  | succ n ih =>
    rcases ih with ⟨f, h1, h2, h3⟩ | ih
    · exact Or.inl ⟨f, by omega, h2, h3⟩
    · by_cases q : isLed P v n
      · exact Or.inl ⟨n, by omega, q, ih⟩
      · refine Or.inr (fun g hg => ?_)
        rcases Nat.lt_or_ge g n with e | e
        · exact ih g e
        · rw [show g = n by omega]
          exact q
theorem sub_z {a : Nat} : v - nI a = 0 ↔ nI a = v := by
  constructor
  · intro e
    have : v - nI a + nI a = 0 + nI a := by rw [e]
    rw [Int32.sub_add_cancel, Int32.zero_add] at this
    exact this.symm
  · intro e
    rw [e, Int32.sub_self]
theorem sub_n {a : Nat} : v - nI a + (-1) = v - nI (a + 1) := by
  rw [← nI_add, Int32.sub_eq_add_neg v (nI a + nI 1), Int32.neg_add, Int32.sub_eq_add_neg (-nI a), ← Int32.add_assoc, Int32.sub_eq_add_neg v (nI a)]
  rfl
section LB
theorem lB_found (W : Wf D) (hx : hS h x = some (.inl 0)) (h3 : hR h x 3 = some o) (h5 : hR h x 5 = some (x + 36)) (rO : RepO h o D) (rV : RepV h (x + 36) V) (hv : WfV D V) {f : Nat} (hf : f < dF D) (h1 : isLed (isOnB D V) v f) (h2 : ∀ g, g < f → ¬ isLed (isOnB D V) v g) : f_B_led x v h = some (nI f, h) := by
  have w2 := W.2.1
  have : Ok (f_B_led x v h) (fun r h' => r = nI f ∧ h' = h) := by
    unfold f_B_led
    refine ok_lt ?_
    refine ok_up f (fun g st h' => st = (x, v - nI (cntN (isOnB D V) g), nI g) ∧ h' = h) ?_ FU 0 _ _ (Nat.zero_le _) ⟨by show _ = (x, v - 0, nI 0); rw [Int32.sub_zero]; rfl, rfl⟩ (by show _ < 10000; omega)
    intro k g st h' hg hI kk
    obtain ⟨rfl, rfl⟩ := hI
    show Ok (b_B_led_4 k x (v - nI (cntN (isOnB D V) g)) (nI g) h') _
    unfold b_B_led_4 b_B_led_39
    refine ok_gd hx (ok_bR h3 (ok_gd rO.1.1 (ok_lt ?_)))
    rw [rO.2.1.2.2.2.1]
    refine ok_ile (by omega) (by omega) (fun e => by omega) (fun e => ?_)
    refine ok_gd hx (ok_bR h3 (ok_gd hx (ok_bR h5 (ok_gd rO.1.1 (ok_bde (e_O_isOn W rO rV hv (f := g) (by omega)) ?_)))))
    rcases Nat.lt_or_ge g f with e2 | e2
    · have hn := h2 g e2
      refine ok_ib (fun z => kk _ _ e2 ⟨?_, rfl⟩) (fun z => ok_f (fun y => hn ⟨z, sub_z.mp y⟩) (kk _ _ e2 ⟨?_, rfl⟩))
      · show _ = (x, v - nI (cntN (isOnB D V) g + if isOnB D V g = true then 1 else 0), nI (g + 1))
        rw [z, if_neg (by decide), Nat.add_zero, nI_1]
      · show _ = (x, v - nI (cntN (isOnB D V) g + if isOnB D V g = true then 1 else 0), nI (g + 1))
        rw [z, if_pos rfl, sub_n, nI_1]
    · have : g = f := by omega
      subst this
      rw [h1.1]
      exact ok_f (by decide) (ok_t (sub_z.mpr h1.2) (ok_ret ⟨rfl, rfl⟩))
  obtain ⟨r, h', e, rfl, rfl⟩ := this
  exact e
theorem lB_none (W : Wf D) (hx : hS h x = some (.inl 0)) (h3 : hR h x 3 = some o) (h5 : hR h x 5 = some (x + 36)) (rO : RepO h o D) (rV : RepV h (x + 36) V) (hv : WfV D V) (hn : ∀ g, g < dF D → ¬ isLed (isOnB D V) v g) : f_B_led x v h = none := by
  have w2 := W.2.1
  have key : ∀ fuel g, g ≤ dF D → l_B_led_4 fuel (x, v - nI (cntN (isOnB D V) g), nI g) h = none := by
    intro fuel
    induction fuel with
    | zero => exact fun g _ => rfl
    | succ fuel ih =>
      intro g hg
      show b_B_led_4 (l_B_led_4 fuel) x (v - nI (cntN (isOnB D V) g)) (nI g) h = none
      unfold b_B_led_4 b_B_led_39
      rw [gd_pos hx, h3]
      show gd (hS h o = _) _ = none
      rw [gd_pos rO.1.1]
      show (if hI h o 4 ≤ nI g then _ else _) = none
      rw [rO.2.1.2.2.2.1]
      rcases Nat.lt_or_ge g (dF D) with e | e
      · rw [if_neg (fun y => by have := (nI_leI (by omega) (by omega)).mp y; omega), gd_pos hx]
        show gd (hS h x = _) _ = none
        rw [gd_pos hx, h5]
        show gd (hS h o = _) _ = none
        rw [gd_pos rO.1.1, e_O_isOn W rO rV hv (f := g) e]
        show (if bI (isOnB D V g) = 0 then _ else _) = none
        cases z : isOnB D V g with
        | false =>
          rw [if_pos (by decide)]
          have := ih (g + 1) (by omega)
          rw [show cntN (isOnB D V) (g + 1) = cntN (isOnB D V) g + if isOnB D V g = true then 1 else 0 from rfl, z, if_neg (by decide), Nat.add_zero, ← nI_1] at this
          exact this
        | true =>
          rw [if_neg (by decide), if_neg (fun y => hn g e ⟨z, sub_z.mp y⟩)]
          have := ih (g + 1) (by omega)
          rw [show cntN (isOnB D V) (g + 1) = cntN (isOnB D V) g + if isOnB D V g = true then 1 else 0 from rfl, z, if_pos rfl, ← sub_n, ← nI_1] at this
          exact this
      · rw [if_pos (nI_le e (by omega))]
  have := key FU 0 (Nat.zero_le _)
  rw [show v - nI (cntN (isOnB D V) 0) = v from Int32.sub_zero v] at this
  exact this
theorem lB_X (W : Wf D) (hx : hS h x = some (.inl 0)) (h3 : hR h x 3 = some o) (h5 : hR h x 5 = some (x + 36)) (rO : RepO h o D) (rV : RepV h (x + 36) V) (hv : WfV D V) (hn : ∀ g, g < dF D → ¬ isLed (isOnB D V) v g) : f_B_ledX x v h = some ((), h) := by
  have w2 := W.2.1
  have : Ok (f_B_ledX x v h) (fun _ h' => h' = h) := by
    unfold f_B_ledX
    refine ok_lt ?_
    refine ok_up (dF D) (fun g st h' => st = (x, v - nI (cntN (isOnB D V) g), nI g) ∧ h' = h) ?_ FU 0 _ _ (Nat.zero_le _) ⟨by show _ = (x, v - 0, nI 0); rw [Int32.sub_zero]; rfl, rfl⟩ (by show _ < 10000; omega)
    intro k g st h' hg hI kk
    obtain ⟨rfl, rfl⟩ := hI
    show Ok (b_B_ledX_4 k x (v - nI (cntN (isOnB D V) g)) (nI g) h') _
    unfold b_B_ledX_4 b_B_ledX_39
    refine ok_gd hx (ok_bR h3 (ok_gd rO.1.1 (ok_lt ?_)))
    rw [rO.2.1.2.2.2.1]
    refine ok_it hg (by omega) (fun e => ok_ret rfl) (fun e => ?_)
    refine ok_gd hx (ok_bR h3 (ok_gd hx (ok_bR h5 (ok_gd rO.1.1 (ok_bde (e_O_isOn W rO rV hv (f := g) (by omega)) ?_)))))
    refine ok_ib (fun z => kk _ _ e ⟨?_, rfl⟩) (fun z => ok_f (fun y => hn g e ⟨z, sub_z.mp y⟩) (kk _ _ e ⟨?_, rfl⟩))
    · show _ = (x, v - nI (cntN (isOnB D V) g + if isOnB D V g = true then 1 else 0), nI (g + 1))
      rw [z, if_neg (by decide), Nat.add_zero, nI_1]
    · show _ = (x, v - nI (cntN (isOnB D V) g + if isOnB D V g = true then 1 else 0), nI (g + 1))
      rw [z, if_pos rfl, sub_n, nI_1]
  obtain ⟨r, h', e, rfl⟩ := this
  exact e
end LB
/-- the class's led, as the law calls it -/
theorem n_led (W : Wst D V K c Im j tl nc) (R : RB h x D V K c Im j T tl fa) (v : Int32) (ob : Nat) (ho9 : hS h ob = some (.inr (1, 1))) (hb : 1 ≤ (hB h).1 ∧ 6 ≤ (hB h).2) : (∃ f, f < dF D ∧ isLed (isOnB D V) v f ∧ (∀ g, g < f → ¬ isLed (isOnB D V) v g) ∧ f_Law_led2 x v ob h = some (0, uL h ob 0 (nI f).toInt64)) ∨ ((∀ g, g < dF D → ¬ isLed (isOnB D V) v g) ∧ f_Law_led2 x v ob h = some (1, uX h)) := by
  obtain ⟨o, o', ho, LB, r3, r4, rO, rD, rV, rP, t1, t2, f1, sUs⟩ := id R; obtain ⟨⟨x1, x2, x3, x4, x5, x6, x7, x8, x9, x10, x11, x12, x13⟩, LR, LC, LK, LS, LG, LH⟩ := id LB
  have hv := W.2.1.v W.2.2.2.2.2.1
  rcases led_ex (isOnB D V) v (dF D) with ⟨f, h1, h2, h3⟩ | hn
  · refine Or.inl ⟨f, h1, h2, h3, ?_⟩
    have e := lB_found W.1.1 x1 r3 x4 rO rV hv h1 h2 h3
    have e3 : f_Law_led x v ob h = some (0, uL h ob 0 (nI f).toInt64) := by
      unfold f_Law_led
      rw [gd_pos x1, e]
      show gd (ai h ob 1 0) (some (0, uL h ob (0 : Int32).toNatClampNeg (nI f).toInt64)) = _
      rw [gd_pos (ai_lit ho9 (by decide) (by decide) (by decide)), cl0]
    unfold f_Law_led2
    rw [e3]
  · refine Or.inr ⟨hn, ?_⟩
    have e1 := lB_none W.1.1 x1 r3 x4 rO rV hv hn
    have e2 := lB_X W.1.1 x1 r3 x4 rO rV hv hn
    have e4 : f_Law_led x v ob h = none := by
      unfold f_Law_led
      rw [gd_pos x1, e1]
      rfl
    unfold f_Law_led2
    rw [e4]
    show gd (hS h x = _) (bd (f_B_ledX x v h) _) = _
    rw [gd_pos x1, e2]
    exact gd_pos hb
/-- the reference's led -/
theorem nm_led (W : Wst D V K c Im j tl nc) (M : RM h m D V K c Im j T tl fa) (v : Int32) : (∀ f, f < dF D → isLed (isOnB D V) v f → (∀ g, g < f → ¬ isLed (isOnB D V) v g) → Ok (f_m_led m v h) (fun r h' => r = nI f ∧ Fr (ScM m) h h' ∧ hI h' m 0 = 0 ∧ hI h' m 1 = hI h m 1 ∧ hI h' m 2 = hI h m 2)) ∧ ((∀ g, g < dF D → ¬ isLed (isOnB D V) v g) → Ok (f_m_led m v h) (fun r h' => r = 0 ∧ Fr (ScM m) h h' ∧ hI h' m 0 = 1 ∧ hI h' m 1 = hI h m 1 ∧ hI h' m 2 = hI h m 2)) := by
  have w2 := W.1.1.2.1
  have F1 : Fr (ScM m) h (uI h m 0 0) := fr_uI (ScM_l (by decide))
  have M1 : RM (uI h m 0 0) m D V K c Im j T tl fa := M.fr F1 (fun a k e => Or.inl e)
  have i0 : hI (uI h m 0 0) m 0 = 0 := hI_uIs
  have i1 : hI (uI h m 0 0) m 1 = hI h m 1 := hI_uIk (by decide)
  have i2 : hI (uI h m 0 0) m 2 = hI h m 2 := hI_uIk (by decide)
  have st : ∀ Q : Int32 → Hp → Prop, (0 < dW D → ∀ h2, Fr (ScM m) h h2 → RM h2 m D V K c Im j T tl fa → hI h2 m 0 = 0 → hI h2 m 1 = hI h m 1 → hI h2 m 2 = hI h m 2 → Ok (l_m_led_26 FU (m, v, 0, orB (isOnB D V) (dF D), 0) h2) Q) → (dW D = 0 → Ok (l_m_led_26 FU (m, v, 0, 0, 0) (uI h m 0 0)) Q) → Ok (f_m_led m v h) Q := by
    intro Q k1 k2
    unfold f_m_led
    refine ok_gd M.1.1 (ok_lt (ok_lt (ok_gd M1.1.1 ?_)))
    rcases Nat.eq_zero_or_pos (dW D) with hz | hz
    · unfold b_m_led_22
      exact ok_t (M1.2.1 hz) (ok_lt (k2 hz))
    · obtain ⟨q, X, hq⟩ := M1.dx W hz
      refine ok_f (by rw [X.2.1]; exact fun e => by cases e) (ok_gd M1.1.1 (ok_bd (ok_mono (ok_m_onNow X.1 X.2.1 X.2.2.1 X.2.2.2.1 W.1.1 X.2.2.2.2.2.1 X.2.2.2.2.2.2.wf) ?_)))
      intro r h2 hx
      obtain ⟨rfl, F2⟩ := hx
      unfold b_m_led_22
      have F3 : Fr (ScM m) (uI h m 0 0) h2 := F2.r.mono (fun a k e => by unfold sX at e; unfold ScM; omega)
      refine ok_lt (k1 hz h2 (F1.trans F3) (M1.fr F3 (fun a k e => Or.inl e)) ?_ ?_ ?_)
      · rw [(F2.2.2.2.2 m 0 (by unfold sX; omega)).1]
        exact i0
      · rw [(F2.2.2.2.2 m 1 (by unfold sX; omega)).1]
        exact i1
      · rw [(F2.2.2.2.2 m 2 (by unfold sX; omega)).1]
        exact i2
  have hz := fun e => (W.2.2.2.2.2.2 e).1
  refine ⟨fun f hf h1 h2 => st _ (fun hW h3 F3 M3 y0 y1 y2 => ?_) (fun e => by have := hz e; omega), fun hn => st _ (fun hW h3 F3 M3 y0 y1 y2 => ?_) (fun e => ?_)⟩
  · obtain ⟨q, X, hq⟩ := M3.dx W hW
    refine ok_up f (fun g st h' => st = (m, v, nI (cntN (isOnB D V) g), orB (isOnB D V) (dF D), nI g) ∧ h' = h3) ?_ FU 0 _ _ (Nat.zero_le _) ⟨rfl, rfl⟩ (by show _ < 10000; omega)
    intro k g st h' hg hI kk
    obtain ⟨rfl, rfl⟩ := hI
    show Ok (b_m_led_26 k m v (nI (cntN (isOnB D V) g)) (orB (isOnB D V) (dF D)) (nI g) h') _
    unfold b_m_led_26 b_m_led_68
    refine ok_gd M3.1.1 (ok_f (by rw [X.2.1]; exact fun e => by cases e) (ok_gd M3.1.1 (ok_bR X.2.1 (ok_gd X.2.2.2.1.1.1 (ok_lt ?_)))))
    rw [X.2.2.2.1.2.1.2.2.2.2.1]
    refine ok_ile (by omega) (by omega) (fun e => by omega) (fun e => ok_bde (e_m_bit _ _) ?_)
    rw [bt_orB _ (by omega) (by omega), decide_eq_true (show g < dF D by omega), Bool.true_and]
    rcases Nat.lt_or_ge g f with e2 | e2
    · have hn := h2 g e2
      refine ok_ib (fun z => kk _ _ e2 ⟨?_, rfl⟩) (fun z => ok_f (fun y => hn ⟨z, y⟩) (kk _ _ e2 ⟨?_, rfl⟩))
      · show _ = (m, v, nI (cntN (isOnB D V) g + if isOnB D V g = true then 1 else 0), orB (isOnB D V) (dF D), nI (g + 1))
        rw [z, if_neg (by decide), Nat.add_zero, nI_1]
      · show _ = (m, v, nI (cntN (isOnB D V) g + if isOnB D V g = true then 1 else 0), orB (isOnB D V) (dF D), nI (g + 1))
        rw [z, if_pos rfl, nI_1, nI_1]
    · have : g = f := by omega
      subst this
      rw [h1.1]
      exact ok_f (by decide) (ok_t h1.2 (ok_ret ⟨rfl, F3, y0, y1, y2⟩))
  · obtain ⟨q, X, hq⟩ := M3.dx W hW
    refine ok_up (dF D) (fun g st h' => st = (m, v, nI (cntN (isOnB D V) g), orB (isOnB D V) (dF D), nI g) ∧ h' = h3) ?_ FU 0 _ _ (Nat.zero_le _) ⟨rfl, rfl⟩ (by show _ < 10000; omega)
    intro k g st h' hg hI kk
    obtain ⟨rfl, rfl⟩ := hI
    show Ok (b_m_led_26 k m v (nI (cntN (isOnB D V) g)) (orB (isOnB D V) (dF D)) (nI g) h') _
    unfold b_m_led_26 b_m_led_68 b_m_led_74
    refine ok_gd M3.1.1 (ok_f (by rw [X.2.1]; exact fun e => by cases e) (ok_gd M3.1.1 (ok_bR X.2.1 (ok_gd X.2.2.2.1.1.1 (ok_lt ?_)))))
    rw [X.2.2.2.1.2.1.2.2.2.2.1]
    refine ok_it hg (by omega) (fun e => ok_gd M3.1.1 (ok_lt (ok_ret ⟨rfl, F3.trans (fr_uI (ScM_l (by decide))), hI_uIs, ?_, ?_⟩))) (fun e => ok_bde (e_m_bit _ _) ?_)
    · rw [hI_uIk (by decide)]
      exact y1
    · rw [hI_uIk (by decide)]
      exact y2
    · rw [bt_orB _ (by omega) (by omega), decide_eq_true e, Bool.true_and]
      refine ok_ib (fun z => kk _ _ e ⟨?_, rfl⟩) (fun z => ok_f (fun y => hn g e ⟨z, y⟩) (kk _ _ e ⟨?_, rfl⟩))
      · show _ = (m, v, nI (cntN (isOnB D V) g + if isOnB D V g = true then 1 else 0), orB (isOnB D V) (dF D), nI (g + 1))
        rw [z, if_neg (by decide), Nat.add_zero, nI_1]
      · show _ = (m, v, nI (cntN (isOnB D V) g + if isOnB D V g = true then 1 else 0), orB (isOnB D V) (dF D), nI (g + 1))
        rw [z, if_pos rfl, nI_1, nI_1]
  · refine ok_up 0 (fun g st h' => st = (m, v, 0, 0, 0) ∧ h' = uI h m 0 0) ?_ FU 0 _ _ (Nat.zero_le _) ⟨rfl, rfl⟩ (by show _ < 10000; omega)
    intro k g st h' hg hI kk
    obtain ⟨rfl, rfl⟩ := hI
    show Ok (b_m_led_26 k m v 0 0 0 (uI h m 0 0)) _
    unfold b_m_led_26 b_m_led_74
    refine ok_gd M1.1.1 (ok_t (M1.2.1 e) (ok_gd M1.1.1 (ok_lt (ok_ret ⟨rfl, F1.trans (fr_uI (ScM_l (by decide))), hI_uIs, ?_, ?_⟩))))
    · rw [hI_uIk (by decide)]
      exact i1
    · rw [hI_uIk (by decide)]
      exact i2
end LE
