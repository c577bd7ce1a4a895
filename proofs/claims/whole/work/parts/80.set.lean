/-! settings: where each tooth leads -/
def lead (D : DD) (V : Nat → Nat) (w f n t : Nat) : Bool := !gb (dG D w) t && decide (it (wf D w) (wg D V w n) t + 1 = dX D f w)
theorem cpok_T {h : Hp} {a r n0 n1 n : Nat} (ha : hS h a = some (.inr (0, n0))) (hr : hS h r = some (.inr (0, n1))) (h0 : n ≤ n0) (h1 : n ≤ n1) (hn : n < 2 ^ 31) : cpok h a r 0 0 (nI n) := ⟨n0, n1, ha, hr, by decide, by decide, nI_pos hn, by rw [nI_clamp hn, cl0, Nat.zero_add]; exact h0, by rw [nI_clamp hn, cl0, Nat.zero_add]; exact h1⟩
section ST
variable {h : Hp} {c o r w n : Nat} {D : DD} {V : Nat → Nat} {F : Nat → Nat → Nat}
def sFR (c a : Nat) : Prop := c + 3 ≤ a ∧ a ≤ c + 5
theorem CX.fk {S : Nat → Nat → Prop} {h' : Hp} (X : CX h c o r D V F) (hF : Fk S h h') (h1 : ∀ a k, S a k → sFR c a) (ho : o + 15 ≤ c) (hr : r < c) : CX h' c o r D V F := by
  obtain ⟨C, h5, h6, rO, rV, cal, W, hv, hV0⟩ := X
  have hc : ∀ a k, S a k → sC c a k ∨ a < c ∨ c + 26 ≤ a := fun a k e => by
    have := h1 a k e
    unfold sFR at this
    unfold sC
    omega
  refine ⟨C.fr hF.r hc, by rw [hF.2.2.2.1]; exact h5, by rw [hF.2.2.2.1]; exact h6, rO.fk hF (fun i k hi e => ?_) W.1, rV.fk hF (fun k e => ?_), fun u hu => ?_, W, hv, hV0⟩
  · have := h1 _ _ e
    unfold sFR at this
    omega
  · have := h1 _ _ e
    unfold sFR at this
    omega
  · obtain ⟨J, L, rr, hU⟩ := cal u hu
    refine ⟨J, L, rr, hU.fr hF.r (fun i k hi e => ?_)⟩
    have := h1 _ _ e
    unfold sFR at this
    omega
set_option maxHeartbeats 2000000 in
theorem ok_C_findReached (X : CX h c o r D V F) (ho : o + 15 ≤ c) (hr : r < c) (hw : w < dW D) (hn : n ≤ 5000) : Ok (f_C_findReached c (nI w) (nI n) h) (fun _ h' => Fk (fun a _ => sFR c a) h h' ∧ ∀ t, t < dT D w → hI h' (c + 3) t = nI (it (wf D w) (wg D V w n) t)) := by
  have w1 := X.2.2.2.2.2.2.1.1
  have hT := X.2.2.2.2.2.2.1.2.2.2.2.2.2.2.1 w hw
  have hV1 := X.2.2.2.2.2.2.2.1.2.1
  have h5' : w < 5 := by omega
  have hfl : ∀ {u}, u < dT D w → wf D w u < dT D w := fun hu => wf_lt X.2.2.2.2.2.2.1 hw hu
  have hil : ∀ {k u}, u < dT D w → it (wf D w) k u < dT D w := fun hu => it_lt (fun u hu => hfl hu) hu _
  have Xk : ∀ {h' : Hp}, Fk (fun a _ => sFR c a) h h' → CX h' c o r D V F := fun hF => X.fk hF (fun a k e => e) ho hr
  have fin : ∀ {h' : Hp}, Fk (fun a _ => sFR c a) h h' → (∀ t, t < dT D w → hI h' (c + 3) t = nI t ∧ hI h' (c + 4) t = nI (wf D w t)) → Ok (l_C_findReached_78 FU (c, o + 10 + w, nI (wg D V w n)) h') (fun _ h' => Fk (fun a _ => sFR c a) h h' ∧ ∀ t, t < dT D w → hI h' (c + 3) t = nI (it (wf D w) (wg D V w n) t)) := by
    intro h1 hF1 hb
    have hgl : wg D V w n ≤ n := gs_le
    generalize wg D V w n = G at hgl
    refine ok_dn (fun μ st h' => Fk (fun a _ => sFR c a) h h' ∧ ∃ A B L, st = (c, o + 10 + w, nI L) ∧ μ = L ∧ A + B * L = G ∧ L ≤ 5000 ∧ ∀ t, t < dT D w → hI h' (c + 3) t = nI (it (wf D w) A t) ∧ hI h' (c + 4) t = nI (it (wf D w) B t)) ?_ FU G _ _ ⟨hF1, 0, 1, G, rfl, rfl, by omega, by omega, hb⟩ (by show _ < 10000; omega)
    intro k μ st h' hI' kc
    obtain ⟨hF, A, B, L, rfl, hμ, hAB, hL, ht⟩ := hI'
    show Ok (b_C_findReached_78 k c (o + 10 + w) (nI L) h') _
    unfold b_C_findReached_78
    refine ok_ile (b := 0) (by omega) (by decide) (fun e => ok_ret ⟨hF, fun t htt => ?_⟩) (fun e => ?_)
    · have e0 : L = 0 := by omega
      rw [e0, Nat.mul_zero, Nat.add_zero] at hAB
      rw [(ht t htt).1, hAB]
    · refine ok_lt ?_
      refine ok_up (dT D w) (fun i st h2 => st = (c, o + 10 + w, nI L, nI i) ∧ Fk (fun a _ => sFR c a) h h2 ∧ (∀ t, t < dT D w → hI h2 (c + 4) t = nI (it (wf D w) B t)) ∧ (∀ t, t < dT D w → hI h2 (c + 3) t = nI (it (wf D w) (if t < i then A + B * (L % 2) else A) t)) ∧ ∀ t, t < i → hI h2 (c + 5) t = nI (it (wf D w) (B + B) t)) ?_ FU 0 _ _ (Nat.zero_le _) ⟨rfl, hF, fun t htt => (ht t htt).2, fun t htt => by rw [if_neg (by omega)]; exact (ht t htt).1, fun t htt => absurd htt (Nat.not_lt_zero _)⟩ (by show _ < 10000; omega)
      intro k2 i st h2 hi hI2 kk
      obtain ⟨rfl, hF2, g4, g3, g5⟩ := hI2
      have X2 := Xk hF2
      have rO := X2.2.2.2.1
      obtain ⟨l1, l2, l3, l4, l5, l6, l7, l8, l9, l10, l11, l12⟩ := X2.1
      obtain ⟨o17, o18⟩ := rO.1.2.2.2.2.2.2.2 w h5'
      have ow := rO.2.2.1 w hw
      show Ok (b_C_findReached_86 k k2 c (o + 10 + w) (nI L) (nI i) h2) _
      unfold b_C_findReached_86
      (try unfold QB); (try unfold QM); repeat (first | (with_reducible refine ok_lt ?_) | ((with_reducible refine ok_gd ?_ ?_); first | assumption | exact zb0 | exact zb1 | ((with_reducible apply ai_of) <;> first | assumption | omega | decide) | exact ai_lit (by assumption) (by decide) (by decide) (by decide)) | (refine ok_bR (by assumption) ?_))
      rw [ow.2.1]
      refine ok_it hi (by omega) (fun ei => ?_) (fun hl => ?_)
      · subst ei
        (try unfold QB); (try unfold QM); repeat (first | (with_reducible refine ok_lt ?_) | ((with_reducible refine ok_gd ?_ ?_); first | assumption | exact zb0 | exact zb1 | ((with_reducible apply ai_of) <;> first | assumption | omega | decide) | exact ai_lit (by assumption) (by decide) (by decide) (by decide)) | (refine ok_bR (by assumption) ?_))
        refine ok_gd (cpok_T l11 l10 (by omega) (by omega) (by omega)) (ok_lt (ok_lt ?_))
        (try simp (disch := omega) only [nI_clamp, cl0, cl1, cl2, cl3, cl4, cl5, cl6, cl7, cl8])
        rw [pk_shrN (n := L) (by omega) (1 &&& 31) 1 (by decide)]
        refine kc (L / 2) _ _ (by omega) ⟨hF2.trans (fk_uC (fun k => by unfold sFR; omega)), A + B * (L % 2), B + B, L / 2, rfl, rfl, ?_, by omega, fun t htt => ⟨?_, ?_⟩⟩
        · have e2 := Nat.div_add_mod L 2
          have e3 : B * L = B * (2 * (L / 2)) + B * (L % 2) := by rw [← Nat.mul_add, e2]
          have e4 : (B + B) * (L / 2) = B * (2 * (L / 2)) := by rw [← Nat.two_mul, Nat.mul_comm 2 B, Nat.mul_assoc]
          omega
        · rw [hI_uC, if_neg (by omega), g3 t htt, if_pos htt]
        · rw [hI_uC, if_pos rfl, pk_cpy_in (Nat.zero_le _) (by omega), show 0 + (t - 0) = t by omega]
          exact g5 t htt
      · have l122 : ∀ h3, Fk (fun a _ => sFR c a) h h3 → (∀ t, t < dT D w → hI h3 (c + 4) t = nI (it (wf D w) B t)) → (∀ t, t < dT D w → hI h3 (c + 3) t = nI (it (wf D w) (if t < i + 1 then A + B * (L % 2) else A) t)) → (∀ t, t < i → hI h3 (c + 5) t = nI (it (wf D w) (B + B) t)) → Ok (b_C_findReached_122 k k2 c (o + 10 + w) (nI L) (nI i) h3) (fun _ h' => Fk (fun a _ => sFR c a) h h' ∧ ∀ t, t < dT D w → hI h' (c + 3) t = nI (it (wf D w) G t)) := by
          intro h3 hF3 g4 g3 g5
          obtain ⟨l1, l2, l3, l4, l5, l6, l7, l8, l9, l10, l11, l12⟩ := (Xk hF3).1
          unfold b_C_findReached_122
          have hi60 : i < 60 := by omega
          (try unfold QB); (try unfold QM); repeat (first | (with_reducible refine ok_lt ?_) | ((with_reducible refine ok_gd ?_ ?_); first | assumption | exact zb0 | exact zb1 | ((with_reducible apply ai_of) <;> first | assumption | omega | decide) | exact ai_lit (by assumption) (by decide) (by decide) (by decide)) | (refine ok_bR (by assumption) ?_))
          (try simp (disch := omega) only [nI_clamp, cl0, cl1, cl2, cl3, cl4, cl5, cl6, cl7, cl8])
          rw [g4 i hl]
          have hb1 := hil (k := B) hl
          have hb60 : it (wf D w) B i < 60 := by omega
          (try unfold QB); (try unfold QM); repeat (first | (with_reducible refine ok_lt ?_) | ((with_reducible refine ok_gd ?_ ?_); first | assumption | exact zb0 | exact zb1 | ((with_reducible apply ai_of) <;> first | assumption | omega | decide) | exact ai_lit (by assumption) (by decide) (by decide) (by decide)) | (refine ok_bR (by assumption) ?_))
          (try simp (disch := omega) only [nI_clamp, cl0, cl1, cl2, cl3, cl4, cl5, cl6, cl7, cl8])
          rw [g4 _ hb1]
          refine kk _ _ hl ⟨by rw [nI_1], hF3.trans (fk_uI (by unfold sFR; omega)), fun t htt => ?_, fun t htt => ?_, fun t htt => ?_⟩
          · rw [hI_uIa (by omega)]
            exact g4 t htt
          · rw [hI_uIa (by omega)]
            exact g3 t htt
          · rw [hI_uI]
            by_cases q : t = i
            · rw [if_pos ⟨rfl, q⟩, q, it_add]
            · rw [if_neg (fun g => q g.2)]
              exact g5 t (by omega)
        have hi60 : i < 60 := by omega
        have eand : nI L &&& 1 = nI (L % 2) := pk_andN (by omega) (m := 1) 1 (by decide)
        rw [eand]
        refine ok_ieq (b := 1) (by omega) (by decide) (fun c1 => ?_) (fun c1 => ?_)
        · (try unfold QB); (try unfold QM); repeat (first | (with_reducible refine ok_lt ?_) | ((with_reducible refine ok_gd ?_ ?_); first | assumption | exact zb0 | exact zb1 | ((with_reducible apply ai_of) <;> first | assumption | omega | decide) | exact ai_lit (by assumption) (by decide) (by decide) (by decide)) | (refine ok_bR (by assumption) ?_))
          (try simp (disch := omega) only [nI_clamp, cl0, cl1, cl2, cl3, cl4, cl5, cl6, cl7, cl8])
          rw [g3 i hl, if_neg (Nat.lt_irrefl _)]
          have hb1 := hil (k := A) hl
          have hb60 : it (wf D w) A i < 60 := by omega
          (try unfold QB); (try unfold QM); repeat (first | (with_reducible refine ok_lt ?_) | ((with_reducible refine ok_gd ?_ ?_); first | assumption | exact zb0 | exact zb1 | ((with_reducible apply ai_of) <;> first | assumption | omega | decide) | exact ai_lit (by assumption) (by decide) (by decide) (by decide)) | (refine ok_bR (by assumption) ?_))
          (try simp (disch := omega) only [nI_clamp, cl0, cl1, cl2, cl3, cl4, cl5, cl6, cl7, cl8])
          rw [g4 _ hb1]
          refine l122 _ (hF2.trans (fk_uI (by unfold sFR; omega))) (fun t htt => ?_) (fun t htt => ?_) (fun t htt => ?_)
          · rw [hI_uIa (by omega)]
            exact g4 t htt
          · rw [hI_uI]
            by_cases q : t = i
            · rw [if_pos ⟨rfl, q⟩, if_pos (by omega), q, c1, Nat.mul_one, Nat.add_comm A B, it_add]
            · rw [if_neg (fun g => q g.2), g3 t htt]
              by_cases q2 : t < i
              · rw [if_pos q2, if_pos (by omega)]
              · rw [if_neg q2, if_neg (by omega)]
          · rw [hI_uIa (by omega)]
            exact g5 t htt
        · have z : L % 2 = 0 := by omega
          refine l122 _ hF2 g4 (fun t htt => ?_) g5
          rw [g3 t htt, z, Nat.mul_zero, Nat.add_zero, ite_self, ite_self]
  obtain ⟨C, h5, h6, rO, rV, cal, W, hv, hV0⟩ := id X
  obtain ⟨l1, l2, l3, l4, l5, l6, l7, l8, l9, l10, l11, l12⟩ := id C
  obtain ⟨⟨o1, ⟨o2, o3, o4, o5, o6, o7, o8, o9, o10⟩, o11, o12, o13, o14, o15, o16⟩, ⟨p1, p2, p3, p4, p5, p6, p7⟩, oW, oX, oK, oE, oS⟩ := id rO
  obtain ⟨o17, o18⟩ := o16 w h5'
  unfold f_C_findReached
  (try unfold QB); (try unfold QM); repeat (first | (with_reducible refine ok_lt ?_) | ((with_reducible refine ok_gd ?_ ?_); first | assumption | exact zb0 | exact zb1 | ((with_reducible apply ai_of) <;> first | assumption | omega | decide) | exact ai_lit (by assumption) (by decide) (by decide) (by decide)) | (refine ok_bR (by assumption) ?_))
  (try simp (disch := omega) only [nI_clamp, cl0, cl1, cl2, cl3, cl4, cl5, cl6, cl7, cl8])
  (try unfold QB); (try unfold QM); repeat (first | (with_reducible refine ok_lt ?_) | ((with_reducible refine ok_gd ?_ ?_); first | assumption | exact zb0 | exact zb1 | ((with_reducible apply ai_of) <;> first | assumption | omega | decide) | exact ai_lit (by assumption) (by decide) (by decide) (by decide)) | (refine ok_bR (by assumption) ?_))
  refine ok_up (dT D w) (fun i st h2 => st = (c, nI w, nI n, o + 10 + w, nI i) ∧ Fk (fun a _ => sFR c a) h h2 ∧ ∀ t, t < i → hI h2 (c + 3) t = nI t ∧ hI h2 (c + 4) t = nI (wf D w t)) ?_ FU 0 _ _ (Nat.zero_le _) ⟨rfl, Fk.rf, fun t htt => absurd htt (Nat.not_lt_zero _)⟩ (by show _ < 10000; omega)
  intro k2 i st h2 hi hI2 kk
  obtain ⟨rfl, hF2, g3⟩ := hI2
  have X2 := Xk hF2
  obtain ⟨C2, h52, h62, rO2, rV2, cal2, -⟩ := id X2
  obtain ⟨l1, l2, l3, l4, l5, l6, l7, l8, l9, l10, l11, l12⟩ := C2
  obtain ⟨o17, o18⟩ := rO2.1.2.2.2.2.2.2.2 w h5'
  have ow := rO2.2.2.1 w hw
  show Ok (b_C_findReached_13 k2 c (nI w) (nI n) (o + 10 + w) (nI i) h2) _
  unfold b_C_findReached_13
  (try unfold QB); (try unfold QM); repeat (first | (with_reducible refine ok_lt ?_) | ((with_reducible refine ok_gd ?_ ?_); first | assumption | exact zb0 | exact zb1 | ((with_reducible apply ai_of) <;> first | assumption | omega | decide) | exact ai_lit (by assumption) (by decide) (by decide) (by decide)) | (refine ok_bR (by assumption) ?_))
  rw [ow.2.1]
  refine ok_it hi (by omega) (fun ei => ?_) (fun hl => ?_)
  · subst ei
    obtain ⟨l13, l14⟩ := l12 w h5'
    have l15 := l14.1
    (try unfold QB); (try unfold QM); repeat (first | (with_reducible refine ok_lt ?_) | ((with_reducible refine ok_gd ?_ ?_); first | assumption | exact zb0 | exact zb1 | ((with_reducible apply ai_of) <;> first | assumption | omega | decide) | exact ai_lit (by assumption) (by decide) (by decide) (by decide)) | (refine ok_bR (by assumption) ?_))
    (try simp (disch := omega) only [nI_clamp, cl0, cl1, cl2, cl3, cl4, cl5, cl6, cl7, cl8])
    (try unfold QB); (try unfold QM); repeat (first | (with_reducible refine ok_lt ?_) | ((with_reducible refine ok_gd ?_ ?_); first | assumption | exact zb0 | exact zb1 | ((with_reducible apply ai_of) <;> first | assumption | omega | decide) | exact ai_lit (by assumption) (by decide) (by decide) (by decide)) | (refine ok_bR (by assumption) ?_))
    obtain ⟨J, L, rr, hU⟩ := cal2 w hw
    exact ok_bde (e_U_goings (n := n) l14 hU hT.1 (by omega) (by omega)) (fin hF2 g3)
  · have hi60 : i < 60 := by omega
    (try unfold QB); (try unfold QM); repeat (first | (with_reducible refine ok_lt ?_) | ((with_reducible refine ok_gd ?_ ?_); first | assumption | exact zb0 | exact zb1 | ((with_reducible apply ai_of) <;> first | assumption | omega | decide) | exact ai_lit (by assumption) (by decide) (by decide) (by decide)) | (refine ok_bR (by assumption) ?_))
    (try simp (disch := omega) only [nI_clamp, cl0, cl1, cl2, cl3, cl4, cl5, cl6, cl7, cl8])
    have ob : hI (uI h2 (c + 3) i (nI i)) (o + 10 + w) 2 = nI (dB D w) := by rw [hI_uIa (by omega)]; exact ow.2.2.1
    have okk : hI (uI h2 (c + 3) i (nI i)) (o + 10 + w) 0 = nI (dK D w) := by rw [hI_uIa (by omega)]; exact ow.1
    have ot : hI (uI h2 (c + 3) i (nI i)) (o + 10 + w) 1 = nI (dT D w) := by rw [hI_uIa (by omega)]; exact ow.2.1
    have og : hL (uI h2 (c + 3) i (nI i)) (o + 10 + w) 5 = dG D w := ow.2.2.2.2.2
    rw [ob]
    refine ok_bde (e_W_way (h := uI h2 (c + 3) i (nI i)) o18 okk hT.1) ?_
    (try unfold QB); (try unfold QM); repeat (first | (with_reducible refine ok_lt ?_) | ((with_reducible refine ok_gd ?_ ?_); first | assumption | exact zb0 | exact zb1 | ((with_reducible apply ai_of) <;> first | assumption | omega | decide) | exact ai_lit (by assumption) (by decide) (by decide) (by decide)) | (refine ok_bR (by assumption) ?_))
    refine ok_bde (e_W_landing (h := uI h2 (c + 3) i (nI i)) o18 ot (by omega) hl (by omega) _) ?_
    (try unfold QB); (try unfold QM); repeat (first | (with_reducible refine ok_lt ?_) | ((with_reducible refine ok_gd ?_ ?_); first | assumption | exact zb0 | exact zb1 | ((with_reducible apply ai_of) <;> first | assumption | omega | decide) | exact ai_lit (by assumption) (by decide) (by decide) (by decide)) | (refine ok_bR (by assumption) ?_))
    refine ok_bde (e_W_way (h := uI h2 (c + 3) i (nI i)) o18 okk hT.1) ?_
    (try unfold QB); (try unfold QM); repeat (first | (with_reducible refine ok_lt ?_) | ((with_reducible refine ok_gd ?_ ?_); first | assumption | exact zb0 | exact zb1 | ((with_reducible apply ai_of) <;> first | assumption | omega | decide) | exact ai_lit (by assumption) (by decide) (by decide) (by decide)) | (refine ok_bR (by assumption) ?_))
    refine ok_bde (e_W_resting (h := uI h2 (c + 3) i (nI i)) o18 ot og (by omega) (nx_lt hl (by omega)) _) ?_
    (try unfold QB); (try unfold QM); repeat (first | (with_reducible refine ok_lt ?_) | ((with_reducible refine ok_gd ?_ ?_); first | assumption | exact zb0 | exact zb1 | ((with_reducible apply ai_of) <;> first | assumption | omega | decide) | exact ai_lit (by assumption) (by decide) (by decide) (by decide)) | (refine ok_bR (by assumption) ?_))
    (try simp (disch := omega) only [nI_clamp, cl0, cl1, cl2, cl3, cl4, cl5, cl6, cl7, cl8])
    refine kk _ _ hl ⟨by rw [nI_1], (hF2.trans (fk_uI (by unfold sFR; omega))).trans (fk_uI (by unfold sFR; omega)), fun t htt => ?_⟩
    by_cases q : t = i
    · rw [q]
      exact ⟨by rw [hI_uIa (by omega), hI_uIs], hI_uIs⟩
    · rw [hI_uIa (by omega), hI_uIk q, hI_uIk q, hI_uIa (by omega)]
      exact g3 t (by omega)
theorem ok_C_countSettings (X : CX h c o r D V F) (hw : w < dW D) {f : Nat} (hf : f < dF D) (hx : dX D f w ≠ 0) (g3 : ∀ t, t < dT D w → hI h (c + 3) t = nI (it (wf D w) (wg D V w n) t)) : f_C_countSettings c (o + 10 + w) (nI (dX D f w - 1)) h = some (nI (cntN (lead D V w f n) (dT D w)), h) := by
  obtain ⟨C, h5, h6, rO, rV, cal, W, hv, hV0⟩ := id X
  have w1 := W.1
  have hT := W.2.2.2.2.2.2.2.1 w hw
  have hX := W.2.2.2.2.2.2.2.2.1 f w hf hw
  obtain ⟨l1, l2, l3, l4, l5, l6, l7, l8, l9, l10, l11, l12⟩ := id C
  obtain ⟨o17, o18⟩ := rO.1.2.2.2.2.2.2.2 w (by omega)
  have ow := rO.2.2.1 w hw
  refine ok_eq ?_
  unfold f_C_countSettings
  (try unfold QB); (try unfold QM); repeat (first | (with_reducible refine ok_lt ?_) | ((with_reducible refine ok_gd ?_ ?_); first | assumption | exact zb0 | exact zb1 | ((with_reducible apply ai_of) <;> first | assumption | omega | decide) | exact ai_lit (by assumption) (by decide) (by decide) (by decide)) | (refine ok_bR (by assumption) ?_))
  refine ok_up (dT D w) (fun i st h2 => st = (c, o + 10 + w, nI (dX D f w - 1), nI (cntN (lead D V w f n) i), nI i) ∧ h2 = h) ?_ FU 0 _ _ (Nat.zero_le _) ⟨rfl, rfl⟩ (by show _ < 10000; omega)
  intro k2 i st h2 hi hI2 kk
  obtain ⟨rfl, rfl⟩ := hI2
  show Ok (b_C_countSettings_5 k2 c (o + 10 + w) (nI (dX D f w - 1)) (nI (cntN (lead D V w f n) i)) (nI i) h2) _
  unfold b_C_countSettings_5 b_C_countSettings_37
  (try unfold QB); (try unfold QM); repeat (first | (with_reducible refine ok_lt ?_) | ((with_reducible refine ok_gd ?_ ?_); first | assumption | exact zb0 | exact zb1 | ((with_reducible apply ai_of) <;> first | assumption | omega | decide) | exact ai_lit (by assumption) (by decide) (by decide) (by decide)) | (refine ok_bR (by assumption) ?_))
  rw [ow.2.1]
  refine ok_it hi (by omega) (fun ei => ok_ret ⟨by rw [ei], rfl⟩) (fun hl => ?_)
  have hil : it (wf D w) (wg D V w n) i < dT D w := it_lt (fun u hu => wf_lt W hw hu) hl _
  have hs : cntN (lead D V w f n) (i + 1) = cntN (lead D V w f n) i + (if lead D V w f n i = true then 1 else 0) := rfl
  (try unfold QB); (try unfold QM); repeat (first | (with_reducible refine ok_lt ?_) | ((with_reducible refine ok_gd ?_ ?_); first | assumption | exact zb0 | exact zb1 | ((with_reducible apply ai_of) <;> first | assumption | omega | decide) | exact ai_lit (by assumption) (by decide) (by decide) (by decide)) | (refine ok_bR (by assumption) ?_))
  refine ok_bde (e_W_lacks o18 i) ?_
  rw [ow.2.2.2.2.2]
  have hi60 : i < 60 := by omega
  cases hg : gb (dG D w) i with
  | true =>
    refine ok_f (by decide) (kk _ _ hl ⟨?_, rfl⟩)
    have e : lead D V w f n i = false := by
      unfold lead
      rw [hg]
      rfl
    rw [hs, e, nI_1]
    rfl
  | false =>
    refine ok_t rfl ?_
    (try unfold QB); (try unfold QM); repeat (first | (with_reducible refine ok_lt ?_) | ((with_reducible refine ok_gd ?_ ?_); first | assumption | exact zb0 | exact zb1 | ((with_reducible apply ai_of) <;> first | assumption | omega | decide) | exact ai_lit (by assumption) (by decide) (by decide) (by decide)) | (refine ok_bR (by assumption) ?_))
    (try simp (disch := omega) only [nI_clamp, cl0, cl1, cl2, cl3, cl4, cl5, cl6, cl7, cl8])
    rw [g3 i hl]
    refine ok_ieq (by omega) (by omega) (fun c1 => kk _ _ hl ⟨?_, rfl⟩) (fun c1 => kk _ _ hl ⟨?_, rfl⟩)
    · have e : lead D V w f n i = true := by
        unfold lead
        rw [hg, decide_eq_true (by omega)]
        rfl
      rw [hs, e, nI_1, nI_1]
      rfl
    · have e : lead D V w f n i = false := by
        unfold lead
        rw [hg, decide_eq_false (by omega)]
        rfl
      rw [hs, e, nI_1]
      rfl
/-- the product over the wheels of a feast -/
def prN (D : DD) (V : Nat → Nat) (f n : Nat) : Nat → Nat
  | 0 => 1
  | u + 1 => if dX D f u = 0 then prN D V f n u else prN D V f n u * cntN (lead D V u f n) (dT D u)
theorem prN_le (W : Wf D) {f u : Nat} (hu : u ≤ dW D) : prN D V f n u ≤ 60 ^ u := by
  induction u with
  | zero => exact Nat.le_refl _
  | succ u ih =>
    have ih := ih (by omega)
    have hT := W.2.2.2.2.2.2.2.1 u (by omega)
    have hc := cnt_le (lead D V u f n) (dT D u)
    show (if dX D f u = 0 then prN D V f n u else prN D V f n u * cntN (lead D V u f n) (dT D u)) ≤ _
    rw [Nat.pow_succ]
    split
    · exact Nat.le_trans ih (Nat.le_mul_of_pos_right _ (by decide))
    · exact Nat.mul_le_mul ih (by omega)
theorem prN_lt (W : Wf D) {f u : Nat} (hu : u ≤ dW D) : prN D V f n u < 2 ^ 31 := by
  have h1 := prN_le (V := V) (n := n) W (f := f) hu
  have w1 := W.1
  have h2 : 60 ^ u ≤ 60 ^ 5 := Nat.pow_le_pow_right (by decide) (by omega)
  have h3 : (60 : Nat) ^ 5 < 2 ^ 31 := by decide
  omega
theorem prN_z {f u v : Nat} (h : prN D V f n u = 0) (huv : u ≤ v) : prN D V f n v = 0 := by
  induction v with
  | zero => rw [show u = 0 by omega] at h; exact h
  | succ v ih =>
    by_cases e : u = v + 1
    · rw [← e]
      exact h
    · have g := ih (by omega)
      show (if dX D f v = 0 then prN D V f n v else prN D V f n v * cntN (lead D V v f n) (dT D v)) = 0
      rw [g, Nat.zero_mul, ite_self]
theorem ok_C_settingsFor (X : CX h c o r D V F) (ho : o + 15 ≤ c) (hr : r < c) {f : Nat} (hf : f < dF D) (hn : n ≤ 5000) : Ok (f_C_settingsFor c (nI f) (nI n) h) (fun y h' => y = nI (prN D V f n (dW D)) ∧ Fk (fun a _ => sFR c a) h h') := by
  have W := X.2.2.2.2.2.2.1
  have w1 := W.1
  have w2 := W.2.1
  unfold f_C_settingsFor
  (try unfold QB); (try unfold QM); repeat (first | (with_reducible refine ok_lt ?_) | ((with_reducible refine ok_gd ?_ ?_); first | assumption | exact zb0 | exact zb1 | ((with_reducible apply ai_of) <;> first | assumption | omega | decide) | exact ai_lit (by assumption) (by decide) (by decide) (by decide)) | (refine ok_bR (by assumption) ?_))
  refine ok_up (dW D) (fun i st h2 => st = (c, nI f, nI n, nI (prN D V f n i), nI i) ∧ Fk (fun a _ => sFR c a) h h2) ?_ FU 0 _ _ (Nat.zero_le _) ⟨rfl, Fk.rf⟩ (by show _ < 10000; omega)
  intro k i st h2 hi hI2 kk
  obtain ⟨rfl, hF2⟩ := hI2
  have X2 := X.fk hF2 (fun a k e => e) ho hr
  obtain ⟨C, h5, h6, rO, rV, cal, -⟩ := id X2
  have l1 := C.1
  have o1 := rO.1.1
  show Ok (b_C_settingsFor_5 k c (nI f) (nI n) (nI (prN D V f n i)) (nI i) h2) _
  unfold b_C_settingsFor_5 b_C_settingsFor_69
  (try unfold QB); (try unfold QM); repeat (first | (with_reducible refine ok_lt ?_) | ((with_reducible refine ok_gd ?_ ?_); first | assumption | exact zb0 | exact zb1 | ((with_reducible apply ai_of) <;> first | assumption | omega | decide) | exact ai_lit (by assumption) (by decide) (by decide) (by decide)) | (refine ok_bR (by assumption) ?_))
  rw [rO.2.1.2.2.1]
  refine ok_it hi (by omega) (fun ei => ok_ret ⟨by rw [ei], hF2⟩) (fun hl => ?_)
  have hpl := prN_lt (V := V) (n := n) W (f := f) hi
  refine ok_ile (b := 0) hpl (by decide) (fun e => ok_ret ⟨by rw [prN_z (v := dW D) (show prN D V f n i = 0 by omega) hi, show prN D V f n i = 0 by omega], hF2⟩) (fun e => ?_)
  (try unfold QB); (try unfold QM); repeat (first | (with_reducible refine ok_lt ?_) | ((with_reducible refine ok_gd ?_ ?_); first | assumption | exact zb0 | exact zb1 | ((with_reducible apply ai_of) <;> first | assumption | omega | decide) | exact ai_lit (by assumption) (by decide) (by decide) (by decide)) | (refine ok_bR (by assumption) ?_))
  refine ok_bde (e_O_feastTooth rO w2 hf (by omega)) ?_
  have hX := W.2.2.2.2.2.2.2.2.1 f i hf hl
  have hT := W.2.2.2.2.2.2.2.1 i hl
  have hs : prN D V f n (i + 1) = if dX D f i = 0 then prN D V f n i else prN D V f n i * cntN (lead D V i f n) (dT D i) := rfl
  refine ok_ix (by omega) (fun ez => kk _ _ hl ⟨?_, hF2⟩) (fun ez => ?_)
  · rw [hs, if_pos ez, nI_1]
  · (try unfold QB); (try unfold QM); repeat (first | (with_reducible refine ok_lt ?_) | ((with_reducible refine ok_gd ?_ ?_); first | assumption | exact zb0 | exact zb1 | ((with_reducible apply ai_of) <;> first | assumption | omega | decide) | exact ai_lit (by assumption) (by decide) (by decide) (by decide)) | (refine ok_bR (by assumption) ?_))
    refine ok_bd (ok_mono (ok_C_findReached X2 ho hr hl hn) ?_)
    intro _ h3 hx3
    obtain ⟨hF3, g3⟩ := hx3
    have X3 := X2.fk hF3 (fun a k e => e) ho hr
    obtain ⟨C, h5, h6, rO3, rV, cal, -⟩ := id X3
    have l1 := C.1
    obtain ⟨o1, ⟨o2, -⟩, o11, o12, o13, o14, o15, o16⟩ := rO3.1
    obtain ⟨o17, o18⟩ := o16 i (by omega)
    (try unfold QB); (try unfold QM); repeat (first | (with_reducible refine ok_lt ?_) | ((with_reducible refine ok_gd ?_ ?_); first | assumption | exact zb0 | exact zb1 | ((with_reducible apply ai_of) <;> first | assumption | omega | decide) | exact ai_lit (by assumption) (by decide) (by decide) (by decide)) | (refine ok_bR (by assumption) ?_))
    (try simp (disch := omega) only [nI_clamp, cl0, cl1, cl2, cl3, cl4, cl5, cl6, cl7, cl8])
    (try unfold QB); (try unfold QM); repeat (first | (with_reducible refine ok_lt ?_) | ((with_reducible refine ok_gd ?_ ?_); first | assumption | exact zb0 | exact zb1 | ((with_reducible apply ai_of) <;> first | assumption | omega | decide) | exact ai_lit (by assumption) (by decide) (by decide) (by decide)) | (refine ok_bR (by assumption) ?_))
    refine ok_bde (e_O_feastTooth rO3 w2 hf (by omega)) ?_
    have hxe : xI (dX D f i) = nI (dX D f i - 1) := if_neg ez
    rw [hxe]
    (try unfold QB); (try unfold QM); repeat (first | (with_reducible refine ok_lt ?_) | ((with_reducible refine ok_gd ?_ ?_); first | assumption | exact zb0 | exact zb1 | ((with_reducible apply ai_of) <;> first | assumption | omega | decide) | exact ai_lit (by assumption) (by decide) (by decide) (by decide)) | (refine ok_bR (by assumption) ?_))
    refine ok_bde (ok_C_countSettings X3 hl hf ez g3) ?_
    (try unfold QB); (try unfold QM); repeat (first | (with_reducible refine ok_lt ?_) | ((with_reducible refine ok_gd ?_ ?_); first | assumption | exact zb0 | exact zb1 | ((with_reducible apply ai_of) <;> first | assumption | omega | decide) | exact ai_lit (by assumption) (by decide) (by decide) (by decide)) | (refine ok_bR (by assumption) ?_))
    refine kk _ _ hl ⟨?_, hF2.trans hF3⟩
    rw [hs, if_neg ez, nI_1, pk_mul]
/-- the other wheels of the feast stand as they should -/
def othB (D : DD) (V : Nat → Nat) (w f n : Nat) : Nat → Bool
  | 0 => true
  | u + 1 => othB D V w f n u && (decide (u = w) || decide (dX D f u = 0) || decide (dX D f u = it (wf D u) (wg D V u n) (V (3 + u)) + 1))
def setR (D : DD) (V : Nat → Nat) (w f n : Nat) : Int32 := if othB D V w f n (dW D) = true then oI (fd (lead D V w f n) 0 (dT D w)) else -2
theorem oth_f {f v u : Nat} (h : othB D V w f n u = false) (huv : u ≤ v) : othB D V w f n v = false := by
  induction v with
  | zero => rw [show u = 0 by omega] at h; exact h
  | succ v ih =>
    by_cases e : u = v + 1
    · rw [← e]
      exact h
    · show (othB D V w f n v && _) = false
      rw [ih (by omega)]
      rfl
theorem ok_C_settingFor (X : CX h c o r D V (wf D)) (ho : o + 15 ≤ c) (hr : r < c) {f : Nat} (hf : f < dF D) (hw : w < dW D) (hx : dX D f w ≠ 0) (hn : n ≤ 5000) : Ok (f_C_settingFor c (nI w) (nI f) (nI n) h) (fun y h' => y = setR D V w f n ∧ Fk (fun a _ => sFR c a) h h') := by
  obtain ⟨C, h5, h6, rO, rV, cal, W, hv, hV0⟩ := id X
  obtain ⟨l1, l2, l3, l4, l5, l6, l7, l8, l9, l10, l11, l12⟩ := id C
  have w1 := W.1
  have w2 := W.2.1
  have hV1 := hv.2.1
  have o1 := rO.1.1
  unfold f_C_settingFor
  (try unfold QB); (try unfold QM); repeat (first | (with_reducible refine ok_lt ?_) | ((with_reducible refine ok_gd ?_ ?_); first | assumption | exact zb0 | exact zb1 | ((with_reducible apply ai_of) <;> first | assumption | omega | decide) | exact ai_lit (by assumption) (by decide) (by decide) (by decide)) | (refine ok_bR (by assumption) ?_))
  refine ok_up (dW D) (fun i st h2 => st = (c, nI w, nI f, nI n, nI i) ∧ h2 = h ∧ othB D V w f n i = true) ?_ FU 0 _ _ (Nat.zero_le _) ⟨rfl, rfl, rfl⟩ (by show _ < 10000; omega)
  intro k i st h2 hi hI2 kk
  obtain ⟨rfl, rfl, hot⟩ := hI2
  show Ok (b_C_settingFor_3 k c (nI w) (nI f) (nI n) (nI i) h2) _
  unfold b_C_settingFor_3 b_C_settingFor_58
  (try unfold QB); (try unfold QM); repeat (first | (with_reducible refine ok_lt ?_) | ((with_reducible refine ok_gd ?_ ?_); first | assumption | exact zb0 | exact zb1 | ((with_reducible apply ai_of) <;> first | assumption | omega | decide) | exact ai_lit (by assumption) (by decide) (by decide) (by decide)) | (refine ok_bR (by assumption) ?_))
  rw [rO.2.1.2.2.1]
  refine ok_it hi (by omega) (fun ei => ?_) (fun hl => ?_)
  · subst ei
    have hT := W.2.2.2.2.2.2.2.1 w hw
    have hX := W.2.2.2.2.2.2.2.2.1 f w hf hw
    (try unfold QB); (try unfold QM); repeat (first | (with_reducible refine ok_lt ?_) | ((with_reducible refine ok_gd ?_ ?_); first | assumption | exact zb0 | exact zb1 | ((with_reducible apply ai_of) <;> first | assumption | omega | decide) | exact ai_lit (by assumption) (by decide) (by decide) (by decide)) | (refine ok_bR (by assumption) ?_))
    refine ok_bd (ok_mono (ok_C_findReached X ho hr hw hn) ?_)
    intro _ h3 hx3
    obtain ⟨hF3, g3⟩ := hx3
    have X3 := X.fk hF3 (fun a k e => e) ho hr
    obtain ⟨C, h5, h6, rO3, rV, cal, -⟩ := id X3
    obtain ⟨l1, l2, l3, l4, l5, l6, l7, l8, l9, l10, l11, l12⟩ := id C
    obtain ⟨o1, ⟨o2, -⟩, o11, o12, o13, o14, o15, o16⟩ := rO3.1
    obtain ⟨o17, o18⟩ := o16 w (by omega)
    have ow := rO3.2.2.1 w hw
    (try unfold QB); (try unfold QM); repeat (first | (with_reducible refine ok_lt ?_) | ((with_reducible refine ok_gd ?_ ?_); first | assumption | exact zb0 | exact zb1 | ((with_reducible apply ai_of) <;> first | assumption | omega | decide) | exact ai_lit (by assumption) (by decide) (by decide) (by decide)) | (refine ok_bR (by assumption) ?_))
    (try simp (disch := omega) only [nI_clamp, cl0, cl1, cl2, cl3, cl4, cl5, cl6, cl7, cl8])
    (try unfold QB); (try unfold QM); repeat (first | (with_reducible refine ok_lt ?_) | ((with_reducible refine ok_gd ?_ ?_); first | assumption | exact zb0 | exact zb1 | ((with_reducible apply ai_of) <;> first | assumption | omega | decide) | exact ai_lit (by assumption) (by decide) (by decide) (by decide)) | (refine ok_bR (by assumption) ?_))
    unfold setR
    rw [if_pos hot]
    refine ok_up (dT D w) (fun t st h4 => st = (c, nI w, nI f, o + 10 + w, nI t) ∧ h4 = h3 ∧ ∀ e, e < t → lead D V w f n e = false) ?_ FU 0 _ _ (Nat.zero_le _) ⟨rfl, rfl, fun e he => absurd he (Nat.not_lt_zero _)⟩ (by show _ < 10000; omega)
    intro k2 t st h4 ht hI4 kk2
    obtain ⟨rfl, rfl, hno⟩ := hI4
    show Ok (b_C_settingFor_84 k2 c (nI w) (nI f) (o + 10 + w) (nI t) h4) _
    unfold b_C_settingFor_84 b_C_settingFor_126
    (try unfold QB); (try unfold QM); repeat (first | (with_reducible refine ok_lt ?_) | ((with_reducible refine ok_gd ?_ ?_); first | assumption | exact zb0 | exact zb1 | ((with_reducible apply ai_of) <;> first | assumption | omega | decide) | exact ai_lit (by assumption) (by decide) (by decide) (by decide)) | (refine ok_bR (by assumption) ?_))
    rw [ow.2.1]
    refine ok_it ht (by omega) (fun et => ok_ret ⟨?_, hF3⟩) (fun hl => ?_)
    · rw [fd_none _ _ (fun e _ h2 => hno e (by omega))]
      rfl
    · have hil : it (wf D w) (wg D V w n) t < dT D w := it_lt (fun u hu => wf_lt W hw hu) hl _
      have go : lead D V w f n t = false → Ok (k2 (c, nI w, nI f, o + 10 + w, nI t + 1) h4) (fun y h' => y = oI (fd (lead D V w f n) 0 (dT D w)) ∧ Fk (fun a _ => sFR c a) h2 h') := fun hp => by
        refine kk2 _ _ hl ⟨by rw [nI_1], rfl, fun e he => ?_⟩
        by_cases q : e = t
        · rw [q]
          exact hp
        · exact hno e (by omega)
      (try unfold QB); (try unfold QM); repeat (first | (with_reducible refine ok_lt ?_) | ((with_reducible refine ok_gd ?_ ?_); first | assumption | exact zb0 | exact zb1 | ((with_reducible apply ai_of) <;> first | assumption | omega | decide) | exact ai_lit (by assumption) (by decide) (by decide) (by decide)) | (refine ok_bR (by assumption) ?_))
      refine ok_bde (e_W_lacks o18 t) ?_
      rw [ow.2.2.2.2.2]
      have hi60 : t < 60 := by omega
      cases hg : gb (dG D w) t with
      | true =>
        refine ok_f (by decide) (go ?_)
        unfold lead
        rw [hg]
        rfl
      | false =>
        refine ok_t rfl ?_
        (try unfold QB); (try unfold QM); repeat (first | (with_reducible refine ok_lt ?_) | ((with_reducible refine ok_gd ?_ ?_); first | assumption | exact zb0 | exact zb1 | ((with_reducible apply ai_of) <;> first | assumption | omega | decide) | exact ai_lit (by assumption) (by decide) (by decide) (by decide)) | (refine ok_bR (by assumption) ?_))
        (try simp (disch := omega) only [nI_clamp, cl0, cl1, cl2, cl3, cl4, cl5, cl6, cl7, cl8])
        refine ok_bde (e_O_feastTooth rO3 w2 hf (by omega)) ?_
        have hxe : xI (dX D f w) = nI (dX D f w - 1) := if_neg hx
        rw [hxe, g3 t hl]
        refine ok_ieq (by omega) (by omega) (fun c1 => ok_ret ⟨?_, hF3⟩) (fun c1 => go ?_)
        · rw [fd_some _ 0 t (Nat.zero_le _) (by omega) (by unfold lead; rw [hg, decide_eq_true (by omega)]; rfl) (fun e _ h2 => hno e h2)]
          rfl
        · unfold lead
          rw [hg, decide_eq_false (by omega)]
          rfl
  · have hT := W.2.2.2.2.2.2.2.1 i hl
    have hX := W.2.2.2.2.2.2.2.2.1 f i hf hl
    have hs : othB D V w f n (i + 1) = (othB D V w f n i && (decide (i = w) || decide (dX D f i = 0) || decide (dX D f i = it (wf D i) (wg D V i n) (V (3 + i)) + 1))) := rfl
    (try unfold QB); (try unfold QM); repeat (first | (with_reducible refine ok_lt ?_) | ((with_reducible refine ok_gd ?_ ?_); first | assumption | exact zb0 | exact zb1 | ((with_reducible apply ai_of) <;> first | assumption | omega | decide) | exact ai_lit (by assumption) (by decide) (by decide) (by decide)) | (refine ok_bR (by assumption) ?_))
    refine ok_bde (e_O_feastTooth rO w2 hf (by omega)) ?_
    refine ok_ieq (by omega) (by omega) (fun c1 => kk _ _ hl ⟨by rw [nI_1], rfl, ?_⟩) (fun c1 => ?_)
    · rw [hs, hot, decide_eq_true c1]
      simp
    · refine ok_ix (by omega) (fun ez => kk _ _ hl ⟨by rw [nI_1], rfl, ?_⟩) (fun ez => ?_)
      · rw [hs, hot, decide_eq_true ez]
        simp
      · obtain ⟨l13, l14⟩ := l12 i (by omega)
        have l15 := l14.1
        (try unfold QB); (try unfold QM); repeat (first | (with_reducible refine ok_lt ?_) | ((with_reducible refine ok_gd ?_ ?_); first | assumption | exact zb0 | exact zb1 | ((with_reducible apply ai_of) <;> first | assumption | omega | decide) | exact ai_lit (by assumption) (by decide) (by decide) (by decide)) | (refine ok_bR (by assumption) ?_))
        (try simp (disch := omega) only [nI_clamp, cl0, cl1, cl2, cl3, cl4, cl5, cl6, cl7, cl8])
        (try unfold QB); (try unfold QM); repeat (first | (with_reducible refine ok_lt ?_) | ((with_reducible refine ok_gd ?_ ?_); first | assumption | exact zb0 | exact zb1 | ((with_reducible apply ai_of) <;> first | assumption | omega | decide) | exact ai_lit (by assumption) (by decide) (by decide) (by decide)) | (refine ok_bR (by assumption) ?_))
        obtain ⟨J, L, rr, hU⟩ := cal i hl
        have hil : it (wf D i) (wg D V i n) (V (3 + i)) < dT D i := it_lt (fun u hu => wf_lt W hl hu) (hv.2.2.2 i hl) _
        refine ok_bde (e_U_toothOn (n := n) l14 hU hT.1 (by omega) (by omega)) ?_
        have hxe : xI (dX D f i) = nI (dX D f i - 1) := if_neg ez
        rw [hxe]
        show Ok (if nI (it (wf D i) (wg D V i n) (V (3 + i))) = _ then _ else _) _
        refine ok_ieq (by omega) (by omega) (fun c2 => kk _ _ hl ⟨by rw [nI_1], rfl, ?_⟩) (fun c2 => ok_ret ⟨?_, Fk.rf⟩)
        · rw [hs, hot, decide_eq_true (show dX D f i = it (wf D i) (wg D V i n) (V (3 + i)) + 1 by omega)]
          simp
        · unfold setR
          rw [if_neg]
          have e : othB D V w f n (i + 1) = false := by
            rw [hs, decide_eq_false c1, decide_eq_false ez, decide_eq_false (show ¬ dX D f i = it (wf D i) (wg D V i n) (V (3 + i)) + 1 by omega)]
            simp
          rw [oth_f e hl]
          simp
end ST
