/-! a wheel's goings at the reference, and the class's course of a wheel -/
def wf (D : DD) (w : Nat) : Nat → Nat := stp (dT D w) (dG D w) (dfw D w) (dB D w)
def wj (D : DD) (w : Nat) : Nat → Bool := sjk (dT D w) (dG D w) (dfw D w) (dB D w)
def wg (D : DD) (V : Nat → Nat) (w n : Nat) : Nat := gs (dK D w) (V 0) (V 1) n
theorem wf_lt {D : DD} {w t : Nat} (W : Wf D) (hw : w < dW D) (ht : t < dT D w) : wf D w t < dT D w := by
  have hT := W.2.2.2.2.2.2.2.1 w hw
  exact stp_lt (by omega) ht (by omega)
section MC
variable {h : Hp} {m q w n : Nat} {D : DD} {V : Nat → Nat}
theorem e_m_goings (hm : LayM h m) (hq : hR h m 3 = some q) (rQ : RepQ h q D) (W : Wf D) (v : RepX h (m + 2) V) (hv : WfV D V) (hw : w < dW D) (hn : n < 2 ^ 30) : f_m_goings m (nI w) (nI n) h = some (nI (wg D V w n), h) := by
  have w1 := W.1
  have hT := W.2.2.2.2.2.2.2.1 w hw
  obtain ⟨a0, ⟨a1, a2, a3, a4, a5, a6, a7, a8, a9, a10, a11, a12, a13⟩, s1, s2, s3, s4, s5, s6, s7, s8, s9, s10, s11, s12, s13⟩ := id hm
  obtain ⟨⟨b1, b2, b3, b4, b5, b6, b7, b8, b9, b10, b11⟩, ⟨c0, c1, c2, c3, c4, c5, c6, c7, c8⟩, qW, qX, qE, qK, qS⟩ := id rQ; have d0 := b2 0 (by decide); have d1 := b2 1 (by decide); have d2 := b2 2 (by decide); have d3 := b2 3 (by decide); have d4 := b2 4 (by decide); have d5 := b2 5 (by decide); have d6 := b2 6 (by decide); have d7 := b2 7 (by decide); have d8 := b2 8 (by decide); have d9 := b2 9 (by decide); have d10 := b2 10 (by decide); have d11 := b2 11 (by decide); have d12 := b2 12 (by decide); have d13 := b2 13 (by decide); have d14 := b2 14 (by decide); have d15 := b2 15 (by decide); have d16 := b2 16 (by decide); have e0 := b3 0 (by decide); have e1 := b3 1 (by decide); have e2 := b3 2 (by decide); have e3 := b3 3 (by decide); have f0 := b6 0 (by decide); have f1 := b6 1 (by decide); have f2 := b6 2 (by decide); have f3 := b6 3 (by decide); have f4 := b6 4 (by decide); have f5 := b6 5 (by decide)
  have h5 : w < 5 := by omega
  have g6 : hI h (m + 2) 6 = nI (V 1) := v.2 6 (by decide)
  have g5 : hI h (m + 2) 5 = nI (V 0) := v.2 5 (by decide)
  have hv1 := hv.1
  have hv2 := hv.2.1
  refine ok_eq ?_
  unfold f_m_goings
  (try unfold QB); (try unfold QM); repeat (first | (with_reducible refine ok_lt ?_) | ((with_reducible refine ok_gd ?_ ?_); first | assumption | exact zb0 | exact zb1 | ((with_reducible apply ai_of) <;> first | assumption | omega | decide) | exact ai_lit (by assumption) (by decide) (by decide) (by decide)) | (refine ok_bR (by assumption) ?_))
  (try simp (disch := omega) only [nI_clamp, cl0, cl1, cl2, cl3, cl4, cl5, cl6, cl7, cl8])
  have g : hI h (q + 1 + 0) w = nI (dK D w) := (qW w hw).1
  rw [g]
  unfold wg gs
  refine ok_ieq (b := 2) (by omega) (by decide) (fun c => ?_) (fun c => ?_)
  · rw [if_pos c]
    (try unfold QB); (try unfold QM); repeat (first | (with_reducible refine ok_lt ?_) | ((with_reducible refine ok_gd ?_ ?_); first | assumption | exact zb0 | exact zb1 | ((with_reducible apply ai_of) <;> first | assumption | omega | decide) | exact ai_lit (by assumption) (by decide) (by decide) (by decide)) | (refine ok_bR (by assumption) ?_))
    rw [g6]
    refine ok_ile (by omega) (by omega) (fun c2 => ?_) (fun c2 => ?_)
    · (try unfold QB); (try unfold QM); repeat (first | (with_reducible refine ok_lt ?_) | ((with_reducible refine ok_gd ?_ ?_); first | assumption | exact zb0 | exact zb1 | ((with_reducible apply ai_of) <;> first | assumption | omega | decide) | exact ai_lit (by assumption) (by decide) (by decide) (by decide)) | (refine ok_bR (by assumption) ?_))
      rw [g6]
      refine ok_ret ⟨?_, rfl⟩
      rw [Nat.min_eq_right c2]
    · refine ok_ret ⟨?_, rfl⟩
      rw [Nat.min_eq_left (by omega)]
  · rw [if_neg c]
    (try unfold QB); (try unfold QM); repeat (first | (with_reducible refine ok_lt ?_) | ((with_reducible refine ok_gd ?_ ?_); first | assumption | exact zb0 | exact zb1 | ((with_reducible apply ai_of) <;> first | assumption | omega | decide) | exact ai_lit (by assumption) (by decide) (by decide) (by decide)) | (refine ok_bR (by assumption) ?_))
    rw [g]
    refine ok_ieq (b := 3) (by omega) (by decide) (fun c2 => ?_) (fun c2 => ?_)
    · rw [if_pos c2]
      (try unfold QB); (try unfold QM); repeat (first | (with_reducible refine ok_lt ?_) | ((with_reducible refine ok_gd ?_ ?_); first | assumption | exact zb0 | exact zb1 | ((with_reducible apply ai_of) <;> first | assumption | omega | decide) | exact ai_lit (by assumption) (by decide) (by decide) (by decide)) | (refine ok_bR (by assumption) ?_))
      refine ok_gd (by decide) (ok_gd (by decide) (ok_ret ⟨?_, rfl⟩))
      have e4 : irm (nI (V 0)) 2 = nI (V 0 % 2) := irm_nI (d := 2) (by omega) (by decide) (by decide)
      rw [g5, e4, nI_1, pk_sub (by omega)]
      show nI _ / nI 2 = _
      rw [pk_div (by omega) (by decide) (by decide)]
      congr 2
      split <;> omega
    · rw [if_neg c2]
      exact ok_ret ⟨rfl, rfl⟩
theorem it_per {f : Nat → Nat} {t a p : Nat} (e : it f (a + p) t = it f a t) (j : Nat) : it f (a + p + j * p) t = it f (a + p) t := by
  induction j with
  | zero => rw [Nat.zero_mul]; rfl
  | succ j ih =>
    rw [Nat.add_mul, Nat.one_mul, show a + p + (j * p + p) = p + (a + p + j * p) by omega, it_add, ih, ← it_add, show p + (a + p) = p + a + p by omega, Nat.add_comm p a]
    rw [show a + p + p = p + (a + p) by omega, it_add, e, ← it_add, Nat.add_comm p a]
    exact e
/-- what toothBehind writes -/
def sTb (m a k : Nat) : Prop := (a = m ∧ k = 21) ∨ a = m + 6
theorem ok_m_toothBehind (hm : LayM h m) (hq : hR h m 3 = some q) (hqm : m + 14 ≤ q) (rQ : RepQ h q D) (W : Wf D) (hw : w < dW D) {t G : Nat} (ht : t < dT D w) (hG : G ≤ 1000000) : Ok (f_m_toothBehind m (nI w) (nI t) (nI G) h) (fun x h' => x = nI (it (wf D w) G t) ∧ Fk (sTb m) h h') := by
  have w1 := W.1
  have hT := W.2.2.2.2.2.2.2.1 w hw
  have Rk : ∀ {h' : Hp}, Fk (sTb m) h h' → RepQ h' q D := fun hF => rQ.fk hF (fun i k hi e => by unfold sTb at e; omega)
  have hqk : ∀ {h' : Hp}, Fk (sTb m) h h' → hR h' m 3 = some q := fun hF => by rw [hF.2.2.2.1]; exact hq
  have hit : ∀ i, it (wf D w) i t < dT D w := fun i => it_lt (fun u hu => wf_lt W hw hu) ht i
  generalize hf : wf D w = f at hit
  unfold f_m_toothBehind
  refine ok_lt (ok_up 60 (fun i st h' => st = (m, nI w, nI t, nI G, nI i) ∧ Fk (sTb m) h h' ∧ ∀ u, u < i → hI h' (m + 6) u = -1) ?_ FU 0 _ _ (Nat.zero_le _) ⟨rfl, Fk.rf, fun u hu => absurd hu (Nat.not_lt_zero _)⟩ (by show _ < 10000; omega))
  intro k i st h' hi hI' kk
  obtain ⟨rfl, hF, hp⟩ := hI'
  obtain ⟨a0, ⟨a1, a2, a3, a4, a5, a6, -⟩, s1, s2, s3, s4, s5, s6, -⟩ := hm.fk hF
  show Ok (b_m_toothBehind_3 k m (nI w) (nI t) (nI G) (nI i) h') _
  unfold b_m_toothBehind_3
  refine ok_it (a := 60) hi (by decide) (fun e => ?_) (fun hl => ?_)
  · subst e
    (try unfold QB); (try unfold QM); repeat (first | (with_reducible refine ok_lt ?_) | ((with_reducible refine ok_gd ?_ ?_); first | assumption | exact zb0 | exact zb1 | ((with_reducible apply ai_of) <;> first | assumption | omega | decide) | exact ai_lit (by assumption) (by decide) (by decide) (by decide)) | (refine ok_bR (by assumption) ?_))
    refine ok_dn (fun μ s h' => ∃ nn lf, s = (m, nI w, nI G, nI (it f nn t), nI nn, bI lf) ∧ Fk (sTb m) h h' ∧ nn ≤ G ∧ (lf = false → μ = 200 - nn ∧ nn ≤ 60 ∧ (∀ a c, a < c → c < nn → it f a t ≠ it f c t) ∧ ∀ u, u < 60 → (hI h' (m + 6) u = -1 ∧ ∀ a, a < nn → it f a t ≠ u) ∨ ∃ a, a < nn ∧ hI h' (m + 6) u = nI a ∧ it f a t = u) ∧ (lf = true → μ = G - nn ∧ μ < 60)) ?_ FU 200 _ _ ⟨0, false, rfl, hF, Nat.zero_le _, fun _ => ⟨rfl, by decide, fun a c _ hc => absurd hc (Nat.not_lt_zero _), fun u hu => Or.inl ⟨hp u hu, fun a ha => absurd ha (Nat.not_lt_zero _)⟩⟩, fun e => by cases e⟩ (by show _ < 10000; decide)
    intro k2 μ s h2 hI2 kc
    obtain ⟨nn, lf, rfl, hF2, hnG, c0, c1⟩ := hI2
    obtain ⟨a0, ⟨a1, a2, a3, a4, a5, a6, -⟩, s1, s2, s3, s4, s5, s6, -⟩ := hm.fk hF2
    have hnn := hit nn
    show Ok (b_m_toothBehind_33 k2 m (nI w) (nI G) (nI (it f nn t)) (nI nn) (bI lf) h2) _
    unfold b_m_toothBehind_33
    refine ok_it hnG (by omega) (fun e => ok_ret ⟨by rw [e], hF2⟩) (fun hl => ?_)
    have go : (lf = false → nn < 60 ∧ (∀ a, a < nn → it f a t ≠ it f nn t)) → Ok (b_m_toothBehind_88 k2 m (nI w) (nI G) (nI (it f nn t)) (nI nn) (bI lf) h2) (fun x h' => x = nI (it f G t) ∧ Fk (sTb m) h h') := by
      intro hfr
      unfold b_m_toothBehind_88
      (try unfold QB); (try unfold QM); repeat (first | (with_reducible refine ok_lt ?_) | ((with_reducible refine ok_gd ?_ ?_); first | assumption | exact zb0 | exact zb1 | ((with_reducible apply ai_of) <;> first | assumption | omega | decide) | exact ai_lit (by assumption) (by decide) (by decide) (by decide)) | (refine ok_bR (by assumption) ?_))
      (try simp (disch := omega) only [nI_clamp, cl0, cl1, cl2, cl3, cl4, cl5, cl6, cl7, cl8])
      have hF3 : Fk (sTb m) h (uI h2 (m + 6) (it f nn t) (nI nn)) := hF2.trans (fk_uI (Or.inr rfl))
      have eg := e_m_goesOnce (h := uI h2 (m + 6) (it f nn t) (nI nn)) (m := m) a0 (hqk hF3) (Rk hF3) W hw hnn
      have es : tp D w (dfw D w) (dB D w) (it f nn t) = it f (nn + 1) t := by
        rw [← hf]
        rfl
      rw [es] at eg
      refine ok_bde eg ?_
      rw [nI_1]
      have hF4 : Fk (sTb m) h (uI (uI h2 (m + 6) (it f nn t) (nI nn)) m 21 (bI (jk D w (dfw D w) (dB D w) (it f nn t)))) := hF3.trans (fk_uI (Or.inl ⟨rfl, rfl⟩))
      cases hlf : lf with
      | false =>
        obtain ⟨e1, e2, e3, e4⟩ := c0 hlf
        obtain ⟨g1, g2⟩ := hfr hlf
        refine kc (200 - (nn + 1)) _ _ (by omega) ⟨nn + 1, false, rfl, hF4, by omega, fun _ => ⟨rfl, by omega, fun a c hac hc => ?_, fun u hu => ?_⟩, fun e => by cases e⟩
        · by_cases ec : c = nn
          · rw [ec]
            exact g2 a (by omega)
          · exact e3 a c hac (by omega)
        · rw [hI_uIa (by omega), hI_uI]
          by_cases eu : u = it f nn t
          · rw [if_pos ⟨rfl, eu⟩]
            exact Or.inr ⟨nn, by omega, rfl, eu.symm⟩
          · rw [if_neg (fun g => eu g.2)]
            rcases e4 u hu with ⟨g3, g4⟩ | ⟨a, ha, g3, g4⟩
            · refine Or.inl ⟨g3, fun a ha => ?_⟩
              by_cases ea : a = nn
              · rw [ea]
                exact fun g => eu g.symm
              · exact g4 a (by omega)
            · exact Or.inr ⟨a, by omega, g3, g4⟩
      | true =>
        obtain ⟨e1, e2⟩ := c1 hlf
        exact kc (G - (nn + 1)) _ _ (by omega) ⟨nn + 1, true, rfl, hF4, by omega, (fun e => by cases e), fun _ => ⟨rfl, by omega⟩⟩
    refine ok_ib (fun hlf => ?_) (fun hlf => go (fun e => by rw [hlf] at e; cases e))
    obtain ⟨e1, e2, e3, e4⟩ := c0 hlf
    (try unfold QB); (try unfold QM); repeat (first | (with_reducible refine ok_lt ?_) | ((with_reducible refine ok_gd ?_ ?_); first | assumption | exact zb0 | exact zb1 | ((with_reducible apply ai_of) <;> first | assumption | omega | decide) | exact ai_lit (by assumption) (by decide) (by decide) (by decide)) | (refine ok_bR (by assumption) ?_))
    (try simp (disch := omega) only [nI_clamp, cl0, cl1, cl2, cl3, cl4, cl5, cl6, cl7, cl8])
    rcases e4 (it f nn t) (by omega) with ⟨g3, g4⟩ | ⟨a, ha, g3, g4⟩
    · rw [g3]
      refine ok_t rfl (go (fun _ => ⟨?_, g4⟩))
      have := php (dT D w) (nn + 1) (fun a => it f a t) (fun a _ => hit a) (fun a c hac hc => by
        by_cases ec : c = nn
        · rw [ec]
          exact g4 a (by omega)
        · exact e3 a c hac (by omega))
      omega
    · rw [g3]
      refine ok_f (nI_nm1 (by omega)) ?_
      (try unfold QB); (try unfold QM); repeat (first | (with_reducible refine ok_lt ?_) | ((with_reducible refine ok_gd ?_ ?_); first | assumption | exact zb0 | exact zb1 | ((with_reducible apply ai_of) <;> first | assumption | omega | decide) | exact ai_lit (by assumption) (by decide) (by decide) (by decide)) | (refine ok_bR (by assumption) ?_))
      rw [g3, pk_sub (a := nn) (by omega), pk_sub (a := G) (by omega)]
      refine ok_gd (nI_ne0 (by omega) (by omega)) ?_
      (try unfold QB); (try unfold QM); repeat (first | (with_reducible refine ok_lt ?_) | ((with_reducible refine ok_gd ?_ ?_); first | assumption | exact zb0 | exact zb1 | ((with_reducible apply ai_of) <;> first | assumption | omega | decide) | exact ai_lit (by assumption) (by decide) (by decide) (by decide)) | (refine ok_bR (by assumption) ?_))
      rw [pk_div (by omega) (by omega) (by omega), pk_mul, nI_add]
      have hdm := Nat.div_add_mod (G - nn) (nn - a)
      have hml := Nat.mod_lt (G - nn) (show 0 < nn - a by omega)
      rw [Nat.mul_comm] at hdm
      have hper : it f (nn + (G - nn) / (nn - a) * (nn - a)) t = it f nn t := by
        have e5 := it_per (f := f) (t := t) (a := a) (p := nn - a) (by rw [show a + (nn - a) = nn by omega]; exact g4.symm) ((G - nn) / (nn - a))
        rw [show a + (nn - a) = nn by omega] at e5
        exact e5
      refine kc (G - (nn + (G - nn) / (nn - a) * (nn - a))) _ _ (by omega) ⟨nn + (G - nn) / (nn - a) * (nn - a), true, by rw [hper]; rfl, hF2, by omega, (fun e => by cases e), fun _ => ⟨rfl, by omega⟩⟩
  · (try unfold QB); (try unfold QM); repeat (first | (with_reducible refine ok_lt ?_) | ((with_reducible refine ok_gd ?_ ?_); first | assumption | exact zb0 | exact zb1 | ((with_reducible apply ai_of) <;> first | assumption | omega | decide) | exact ai_lit (by assumption) (by decide) (by decide) (by decide)) | (refine ok_bR (by assumption) ?_))
    (try simp (disch := omega) only [nI_clamp, cl0, cl1, cl2, cl3, cl4, cl5, cl6, cl7, cl8])
    refine kk _ _ hl ⟨by rw [nI_1], hF.trans (fk_uI (Or.inr rfl)), fun u hu => ?_⟩
    rw [hI_uI]
    by_cases e : u = i
    · rw [if_pos ⟨rfl, e⟩]
    · rw [if_neg (fun g => e g.2)]
      exact hp u (by omega)
end MC
/-! the class: a course from a row -/
def Cal (h : Hp) (c : Nat) (D : DD) (V : Nat → Nat) : Prop := ∀ w, w < dW D → ∃ L r, RepU h (c + 6 + 4 * w) (wf D w) (wj D w) (V (3 + w)) (dK D w) (V 0) (V 1) L r
section CF
variable {h : Hp} {c o r w : Nat} {D : DD} {V : Nat → Nat}
theorem ok_C_courseFrom (C : LayC h c) (rO : RepO h o D) (v : RepV h r V) (W : Wf D) (hv : WfV D V) (hw : w < dW D) (ho : o + 15 ≤ c) (hr : r < c) : Ok (f_C_courseFrom c o r (nI w) h) (fun x h' => x = c + 6 + 4 * w ∧ Fr (fun a k => (a = c ∧ (k = 5 ∨ k = 6)) ∨ sU (c + 6 + 4 * w) a k) h h' ∧ hR h' c 5 = some o ∧ hR h' c 6 = some r ∧ ∃ L rr, RepU h' (c + 6 + 4 * w) (wf D w) (wj D w) (V (3 + w)) (dK D w) (V 0) (V 1) L rr) := by
  have w1 := W.1
  have hT := W.2.2.2.2.2.2.2.1 w hw
  have h5 : w < 5 := by omega
  obtain ⟨l1, l2, l3, l4, l5, l6, l7, l8, l9, l10, l11, l12⟩ := id C
  obtain ⟨l13, l14⟩ := l12 w h5
  obtain ⟨⟨o1, ⟨o2, o3, o4, o5, o6, o7, o8, o9, o10⟩, o11, o12, o13, o14, o15, o16⟩, ⟨p1, p2, p3, p4, p5, p6, p7⟩, oW, oX, oK, oE, oS⟩ := id rO
  obtain ⟨o17, o18⟩ := o16 w h5
  have ow := oW w hw
  unfold f_C_courseFrom
  have hF0 : Fr (fun a k => (a = c ∧ (k = 5 ∨ k = 6)) ∨ sU (c + 6 + 4 * w) a k) h (uR (uR h c 5 (some o)) c 6 (some r)) := (fr_uR (Or.inl ⟨rfl, Or.inl rfl⟩)).trans (fr_uR (Or.inl ⟨rfl, Or.inr rfl⟩))
  have q0 : hR (uR (uR h c 5 (some o)) c 6 (some r)) c 0 = some (c + 1) := by rw [hR_uRk (by decide), hR_uRk (by decide)]; exact l2
  have q1 : hR (uR (uR h c 5 (some o)) c 6 (some r)) (c + 1) w = some (c + 6 + 4 * w) := by rw [hR_uRa (by omega), hR_uRa (by omega)]; exact l13
  have q5 : hR (uR (uR h c 5 (some o)) c 6 (some r)) c 5 = some o := by rw [hR_uRk (by decide), hR_uRs]
  have q6 : hR (uR (uR h c 5 (some o)) c 6 (some r)) o 3 = some (o + 1) := by rw [hR_uRa (by omega), hR_uRa (by omega)]; exact o2
  have q7 : hR (uR (uR h c 5 (some o)) c 6 (some r)) (o + 1) w = some (o + 10 + w) := by rw [hR_uRa (by omega), hR_uRa (by omega)]; exact o17
  have l15 := l14.1
  have v1 := v.1
  (try unfold QB); (try unfold QM); repeat (first | (with_reducible refine ok_lt ?_) | ((with_reducible refine ok_gd ?_ ?_); first | assumption | exact zb0 | exact zb1 | ((with_reducible apply ai_of) <;> first | assumption | omega | decide) | exact ai_lit (by assumption) (by decide) (by decide) (by decide)) | (refine ok_bR (by assumption) ?_))
  (try simp (disch := omega) only [nI_clamp, cl0, cl1, cl2, cl3, cl4, cl5, cl6, cl7, cl8])
  (try unfold QB); (try unfold QM); repeat (first | (with_reducible refine ok_lt ?_) | ((with_reducible refine ok_gd ?_ ?_); first | assumption | exact zb0 | exact zb1 | ((with_reducible apply ai_of) <;> first | assumption | omega | decide) | exact ai_lit (by assumption) (by decide) (by decide) (by decide)) | (refine ok_bR (by assumption) ?_))
  rw [nI_i3]
  (try unfold QB); (try unfold QM); repeat (first | (with_reducible refine ok_lt ?_) | ((with_reducible refine ok_gd ?_ ?_); first | assumption | exact zb0 | exact zb1 | ((with_reducible apply ai_of) <;> first | assumption | omega | decide) | exact ai_lit (by assumption) (by decide) (by decide) (by decide)) | (refine ok_bR (by assumption) ?_))
  (try simp (disch := omega) only [nI_clamp, cl0, cl1, cl2, cl3, cl4, cl5, cl6, cl7, cl8])
  have k3 : hI (uR (uR h c 5 (some o)) c 6 (some r)) r (3 + w) = nI (V (3 + w)) := v.2 (3 + w) (by omega)
  have k0 : hI (uR (uR h c 5 (some o)) c 6 (some r)) r 0 = nI (V 0) := v.2 0 (by decide)
  have k1 : hI (uR (uR h c 5 (some o)) c 6 (some r)) r 1 = nI (V 1) := v.2 1 (by decide)
  rw [k3, k0, k1]
  have LU : LayU (uR (uR h c 5 (some o)) c 6 (some r)) (c + 6 + 4 * w) := l14.fr hF0 (fun k hk e => by unfold sU at e; omega) (fun e => by unfold sU at e; omega)
  have hV1 := hv.1
  refine ok_bd (ok_mono (ok_U_follow (wa := o + 10 + w) (k := dK D w) (n := dT D w) (b := dB D w) (g := dG D w) (t0 := V (3 + w)) (d := V 0) (o := V 1) LU o18 (by omega) ow.1 hT.1 ow.2.1 ow.2.2.1 ow.2.2.2.2.2 (by omega) (by omega) (by omega) (hv.2.2.2 w hw) (by omega)) ?_)
  intro _ h1 hx
  obtain ⟨hF1, hex⟩ := hx
  have hF2 := hF0.trans (hF1.r.mono (fun a k e => Or.inr e))
  have hR1 := hF1.2.2.2.1
  have z1 : hS h1 c = some (.inl 5) := by rw [hF1.2.1]; exact l1
  have z7 : hS h1 (c + 1) = some (.inr (5, 5)) := by rw [hF1.2.1]; exact l7
  have z0 : hR h1 c 0 = some (c + 1) := by rw [hR1]; exact q0
  have z2 : hR h1 (c + 1) w = some (c + 6 + 4 * w) := by rw [hR1]; exact q1
  (try unfold QB); (try unfold QM); repeat (first | (with_reducible refine ok_lt ?_) | ((with_reducible refine ok_gd ?_ ?_); first | assumption | exact zb0 | exact zb1 | ((with_reducible apply ai_of) <;> first | assumption | omega | decide) | exact ai_lit (by assumption) (by decide) (by decide) (by decide)) | (refine ok_bR (by assumption) ?_))
  exact ok_ret ⟨rfl, hF2, by rw [hR1]; exact q5, by rw [hR1, hR_uRs], hex⟩
theorem ok_C_startFrom (C : LayC h c) (rO : RepO h o D) (v : RepV h r V) (W : Wf D) (hv : WfV D V) (ho : o + 15 ≤ c) (hr : r < c) : Ok (f_C_startFrom c o r h) (fun _ h' => Fr (sC c) h h' ∧ Cal h' c D V ∧ (0 < dW D → hR h' c 5 = some o ∧ hR h' c 6 = some r)) := by
  have w1 := W.1
  unfold f_C_startFrom
  refine ok_lt (ok_up (dW D) (fun i st h' => st = (c, o, r, nI i) ∧ Fr (sC c) h h' ∧ (∀ w, w < i → ∃ L rr, RepU h' (c + 6 + 4 * w) (wf D w) (wj D w) (V (3 + w)) (dK D w) (V 0) (V 1) L rr) ∧ (0 < i → hR h' c 5 = some o ∧ hR h' c 6 = some r)) ?_ FU 0 _ _ (Nat.zero_le _) ⟨rfl, Fr.rf, fun w hw => absurd hw (Nat.not_lt_zero _), fun h0 => absurd h0 (Nat.lt_irrefl _)⟩ (by show _ < 10000; omega))
  intro k i st h' hi hI' kk
  obtain ⟨rfl, hF, hc, hrr⟩ := hI'
  have C' : LayC h' c := C.fr hF (fun a k e => Or.inl e)
  have rO' : RepO h' o D := rO.fr hF (fun i k hi e => by unfold sC at e; omega) w1
  have v' : RepV h' r V := v.fr hF (fun k e => by unfold sC at e; omega)
  show Ok (b_C_startFrom_2 k c o r (nI i) h') _
  unfold b_C_startFrom_2
  have z1 := rO'.1.1
  have z2 := C'.1
  (try unfold QB); (try unfold QM); repeat (first | (with_reducible refine ok_lt ?_) | ((with_reducible refine ok_gd ?_ ?_); first | assumption | exact zb0 | exact zb1 | ((with_reducible apply ai_of) <;> first | assumption | omega | decide) | exact ai_lit (by assumption) (by decide) (by decide) (by decide)) | (refine ok_bR (by assumption) ?_))
  rw [rO'.2.1.2.2.1]
  refine ok_it hi (by omega) (fun e => ok_ret ⟨hF, fun w hw => hc w (by omega), fun h0 => hrr (by omega)⟩) (fun hl => ?_)
  (try unfold QB); (try unfold QM); repeat (first | (with_reducible refine ok_lt ?_) | ((with_reducible refine ok_gd ?_ ?_); first | assumption | exact zb0 | exact zb1 | ((with_reducible apply ai_of) <;> first | assumption | omega | decide) | exact ai_lit (by assumption) (by decide) (by decide) (by decide)) | (refine ok_bR (by assumption) ?_))
  refine ok_bd (ok_mono (ok_C_courseFrom C' rO' v' W hv hl ho hr) ?_)
  intro x h1 hx
  obtain ⟨-, hF1, e5, e6, hex⟩ := hx
  refine kk _ _ hl ⟨by rw [nI_1], hF.trans (hF1.mono (fun a k e => by unfold sU at e; unfold sC; omega)), fun w hw => ?_, fun _ => ⟨e5, e6⟩⟩
  by_cases e : w = i
  · rw [e]
    exact hex
  · obtain ⟨L, rr, g⟩ := hc w (by omega)
    exact ⟨L, rr, g.fr hF1 (fun j k hj e => by unfold sU at e; omega)⟩
end CF
