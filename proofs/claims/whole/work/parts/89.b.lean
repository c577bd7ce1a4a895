/-! slips by chance at the class -/
def aA (D : DD) (V : Nat → Nat) (w i u : Nat) : Nat := if gon (dK D w) (V 0 + i) (V 1 - i) = true then tp D w (dfw D w) (dB D w) u else u
def aJ (D : DD) (V : Nat → Nat) (w i u : Nat) : Nat := if (gon (dK D w) (V 0 + i) (V 1 - i) && jk D w (dfw D w) (dB D w) u) = true then 1 else 0
def aS (D : DD) (w u : Nat) : Nat := tp D w (dfw D w) 1 u
def asJ (D : DD) (w u : Nat) : Nat := if jk D w (dfw D w) 1 u = true then 1 else 0
def xE (D : DD) (V : Nat → Nat) (w i : Nat) (φ : Nat → Nat) : Nat := chE (aA D V w) (aS D w) (dSl D) (V (3 + w)) i φ
def xJ (D : DD) (V : Nat → Nat) (w i : Nat) : Nat := chJ (aA D V w) (aJ D V w) (aS D w) (asJ D w) (dSl D) (V (3 + w)) i
def WhR (h : Hp) (e : Nat) (D : DD) (w : Nat) : Prop := hS h e = some (.inl 3) ∧ hI h e 0 = nI (dK D w) ∧ hI h e 1 = nI (dT D w) ∧ hI h e 2 = nI (dB D w) ∧ hL h e 5 = dG D w
def sH (c a : Nat) : Prop := a = c ∨ a = c + 1 ∨ a = c + 2
section HB
variable {h : Hp} {c e w : Nat} {D : DD} {V : Nat → Nat}
theorem WhR.fr {S : Nat → Nat → Prop} {h' : Hp} (R : WhR h e D w) (F : Fr S h h') (n : ∀ k, ¬ S e k) : WhR h' e D w := by
  obtain ⟨r1, r2, r3, r4, r5⟩ := R
  refine ⟨by rw [F.2.1]; exact r1, ?_, ?_, ?_, ?_⟩
  · rw [(F.2.2.2 _ _ (n _)).1]
    exact r2
  · rw [(F.2.2.2 _ _ (n _)).1]
    exact r3
  · rw [(F.2.2.2 _ _ (n _)).1]
    exact r4
  · rw [(F.2.2.2 _ _ (n _)).2.1]
    exact r5
theorem aA_lt (W : Wf D) (hw : w < dW D) (i u : Nat) (hu : u < dT D w) : aA D V w i u < dT D w := by
  have hT := W.2.2.2.2.2.2.2.1 w hw
  unfold aA
  split
  · exact tp_lt (by omega) hu (by omega)
  · exact hu
theorem aS_lt (W : Wf D) (hw : w < dW D) (u : Nat) (hu : u < dT D w) : aS D w u < dT D w := by
  have hT := W.2.2.2.2.2.2.2.1 w hw
  exact tp_lt (by omega) hu (by omega)
theorem lN_za (a : Int64) : a + lN 0 = a := by
  rw [lN_0, Int64.add_zero]
theorem ok_H_goOn (W : Wf D) (hw : w < dW D) (R : WhR h e D w) (hc : hS h c = some (.inl 10)) (hec : e ≠ c) {t b v z : Nat} (ht : t < dT D w) (hb : b < dT D w) (hz : hL h c 2 = lN z) : Ok (f_H_goOn c e (nI t) (nI b) (lN v) h) (fun r h' => r = nI (tp D w (dfw D w) b t) ∧ Fr (fun a k => a = c ∧ k = 2) h h' ∧ hL h' c 2 = lN (z + v * (if jk D w (dfw D w) b t = true then 1 else 0))) := by
  have hT := W.2.2.2.2.2.2.2.1 w hw
  have hn := nx_lt (fw := dfw D w) ht hb
  obtain ⟨r1, r2, r3, r4, r5⟩ := id R
  unfold f_H_goOn
  refine ok_gd r1 (ok_bde (e_W_way r1 r2 (by omega)) (ok_gd r1 (ok_bde (e_W_landing r1 r3 (by omega) ht hb _) (ok_gd r1 (ok_bde (e_W_lacks r1 _) ?_)))))
  have rest : ∀ h2, Fr (fun a k => a = c ∧ k = 2) h h2 → hL h2 c 2 = lN (z + v * (if jk D w (dfw D w) b t = true then 1 else 0)) → Ok (b_H_goOn_32 e (nI (nx (dT D w) (decide (dK D w ≠ 1)) b t)) h2) (fun r h' => r = nI (tp D w (dfw D w) b t) ∧ Fr (fun a k => a = c ∧ k = 2) h h' ∧ hL h' c 2 = lN (z + v * (if jk D w (dfw D w) b t = true then 1 else 0))) := by
    intro h2 F2 z2
    obtain ⟨q1, q2, q3, q4, q5⟩ := R.fr F2 (fun k => by omega)
    unfold b_H_goOn_32
    exact ok_gd q1 (ok_bde (e_W_way q1 q2 (by omega)) (ok_gd q1 (ok_bde (e_W_resting q1 q3 q5 (by omega) hn _) (ok_ret ⟨rfl, F2, z2⟩))))
  have ejk : jk D w (dfw D w) b t = gb (hL h e 5) (nx (dT D w) (decide (dK D w ≠ 1)) b t) := by
    rw [r5]
    rfl
  cases q : gb (hL h e 5) (nx (dT D w) (decide (dK D w ≠ 1)) b t) with
  | false =>
    refine ok_t (by decide) (rest h Fr.rf ?_)
    rw [ejk, q, if_neg (by decide), Nat.mul_zero]
    exact hz
  | true =>
    refine ok_f (by decide) (ok_gd hc (ok_lt (ok_gd hc (ok_lt (rest _ (fr_uL ⟨rfl, rfl⟩) ?_)))))
    rw [hL_uLs, ejk, q, if_pos rfl, Nat.mul_one, hz, lN_add]
theorem uL_ad {b y Z t : Nat} : hL (uL h b y (hL h b y + lN Z)) b t = hL h b t + lN (Z * ind t y) := by
  unfold ind
  by_cases q : y = t
  · subst q
    rw [hL_uLs, if_pos rfl, Nat.mul_one]
  · rw [hL_uLk (fun e => q e.symm), if_neg q, Nat.mul_zero, lN_za]
/-- the chances behind i days -/
def HC (h : Hp) (c : Nat) (D : DD) (V : Nat → Nat) (w i : Nat) : Prop := ∃ a b, ((a = c + 1 ∧ b = c + 2) ∨ (a = c + 2 ∧ b = c + 1)) ∧ hR h c 0 = some a ∧ hR h c 1 = some b ∧ (∀ t, t < 60 → hL h a t = lN (xE D V w i (ind t))) ∧ hL h c 2 = lN (xJ D V w i) ∧ hL h c 3 = lN (100 ^ i)
theorem xE_le (W : Wf D) (i t : Nat) : xE D V w i (ind t) ≤ 100 ^ i := by
  have := chE_le (aA D V w) (aS D w) (dSl D) (V (3 + w)) W.2.2.2.2.2.1 1 i (ind t) (fun u => by unfold ind; split <;> omega)
  rw [Nat.one_mul] at this
  exact this
theorem xJ_le (W : Wf D) (i : Nat) : xJ D V w i ≤ 2 * i * 100 ^ i := chJ_le (aA D V w) (aJ D V w) (aS D w) (asJ D w) (dSl D) (V (3 + w)) W.2.2.2.2.2.1 (fun i u => by unfold aJ; split <;> omega) (fun u => by unfold asJ; split <;> omega) i
theorem p100 {i : Nat} (hi : i ≤ 6) : 100 ^ i ≤ 1000000000000 := Nat.le_trans (Nat.pow_le_pow_right (n := 100) (by decide) hi) (by decide)
theorem ok_H_day (W : Wf D) (hv : V (3 + w) < dT D w) (hw : w < dW D) (R : WhR h e D w) (hc : hS h c = some (.inl 10)) (hc1 : hS h (c + 1) = some (.inr (1, 60))) (hc2 : hS h (c + 2) = some (.inr (1, 60))) (hec : ¬ sH c e) {i : Nat} (hi : i < 6) (H : HC h c D V w i) : Ok (f_H_spreadDay c e (bI (gon (dK D w) (V 0 + i) (V 1 - i))) (nI (dSl D)) h) (fun _ h' => Fr (fun a _ => sH c a) h h' ∧ HC h' c D V w (i + 1)) := by
  have hT := W.2.2.2.2.2.2.2.1 w hw
  have hp := W.2.2.2.2.2.1
  have hxl : ∀ k, cx (aA D V w) (aS D w) (V (3 + w)) i k < dT D w := fun k => cx_lt _ _ _ hv (fun i u hu => aA_lt W hw i u hu) (fun u hu => aS_lt W hw u hu) i k
  obtain ⟨a, b, hab, ha, hb, wa, zj, zw⟩ := H
  have hec' : e ≠ c := fun q => hec (Or.inl q)
  have sa : ∀ {h' : Hp}, hS h' = hS h → hS h' a = some (.inr (1, 60)) := fun q => by rw [q]; rcases hab with ⟨q, -⟩ | ⟨q, -⟩ <;> rw [q] <;> assumption
  have sb : ∀ {h' : Hp}, hS h' = hS h → hS h' b = some (.inr (1, 60)) := fun q => by rw [q]; rcases hab with ⟨-, q⟩ | ⟨-, q⟩ <;> rw [q] <;> assumption
  have ba : b ≠ a := by omega
  have bc : b ≠ c := by omega
  have ac : a ≠ c := by omega
  unfold f_H_spreadDay
  refine ok_gd hc (ok_bR hb (ok_bd (ok_mono (ok_fillJ (sb rfl) (by decide)) ?_)))
  intro _ h2 hx
  obtain ⟨F2, b2⟩ := hx
  have hS2 := F2.2.1
  have hR2 := F2.2.2.2.1
  have hL2 : ∀ x k, x ≠ b → hL h2 x k = hL h x k := fun x k q => (F2.2.2.2.2 x k q).2
  refine ok_gd (by rw [hS2]; exact hc) (ok_lt (ok_gd (by rw [hS2]; exact hc) (ok_lt (ok_gd (by show hS h2 c = _; rw [hS2]; exact hc) (ok_lt (ok_gd (by show hS h2 c = _; rw [hS2]; exact hc) (ok_lt (ok_lt ?_))))))))
  have F4 : Fr (fun a _ => sH c a) h (uL (uL h2 c 2 (hL h2 c 2 * 100)) c 3 (hL (uL h2 c 2 (hL h2 c 2 * 100)) c 3 * 100)) := ((F2.r.mono (fun x k q => by show sH c x; unfold sH; omega)).trans (fr_uL (Or.inl rfl))).trans (fr_uL (Or.inl rfl))
  have z2 : hL (uL (uL h2 c 2 (hL h2 c 2 * 100)) c 3 (hL (uL h2 c 2 (hL h2 c 2 * 100)) c 3 * 100)) c 2 = lN (100 * xJ D V w i) := by
    rw [hL_uLk (by decide), hL_uLs, hL2 _ _ (fun q => bc q.symm), zj, Nat.mul_comm]
    exact lN_mul _ 100
  have z3 : hL (uL (uL h2 c 2 (hL h2 c 2 * 100)) c 3 (hL (uL h2 c 2 (hL h2 c 2 * 100)) c 3 * 100)) c 3 = lN (100 ^ (i + 1)) := by
    rw [hL_uLs, hL_uLk (by decide), hL2 _ _ (fun q => bc q.symm), zw, Nat.pow_succ]
    exact lN_mul _ 100
  have za : ∀ t, t < 60 → hL (uL (uL h2 c 2 (hL h2 c 2 * 100)) c 3 (hL (uL h2 c 2 (hL h2 c 2 * 100)) c 3 * 100)) a t = lN (xE D V w i (ind t)) := fun t ht => by
    rw [hL_uLa ac, hL_uLa ac, hL2 _ _ (fun q => ba q.symm)]
    exact wa t ht
  have zb : ∀ t, t < 60 → hL (uL (uL h2 c 2 (hL h2 c 2 * 100)) c 3 (hL (uL h2 c 2 (hL h2 c 2 * 100)) c 3 * 100)) b t = lN 0 := fun t ht => by
    rw [hL_uLa bc, hL_uLa bc, b2 t ht, lN_0]
  have zr : ∀ k, hR (uL (uL h2 c 2 (hL h2 c 2 * 100)) c 3 (hL (uL h2 c 2 (hL h2 c 2 * 100)) c 3 * 100)) c k = hR h c k := fun k => by
    show hR h2 c k = _
    rw [hR2]
  generalize uL (uL h2 c 2 (hL h2 c 2 * 100)) c 3 (hL (uL h2 c 2 (hL h2 c 2 * 100)) c 3 * 100) = h4 at F4 z2 z3 za zb zr
  clear F2 b2 hS2 hR2 hL2
  refine ok_up (dT D w) (fun u st h' => st = (c, e, bI (gon (dK D w) (V 0 + i) (V 1 - i)), nI (dSl D), nI u) ∧ Fr (fun a _ => sH c a) h h' ∧ (hR h' c 0 = some a ∧ hR h' c 1 = some b) ∧ (∀ t, t < 60 → hL h' a t = lN (xE D V w i (ind t))) ∧ (∀ t, t < 60 → hL h' b t = lN (smN (fun v => xE D V w i (ind v) * ((100 - dSl D) * ind t (aA D V w i v) + dSl D * ind t (aS D w (aA D V w i v)))) u)) ∧ hL h' c 2 = lN (100 * xJ D V w i + smN (fun v => xE D V w i (ind v) * (100 * aJ D V w i v + dSl D * asJ D w (aA D V w i v))) u) ∧ hL h' c 3 = lN (100 ^ (i + 1))) ?_ FU 0 _ _ (Nat.zero_le _) ⟨rfl, F4, ⟨by rw [zr]; exact ha, by rw [zr]; exact hb⟩, za, zb, z2, z3⟩ (by show _ < 10000; omega)
  intro k u st h5 hu hI kk
  obtain ⟨rfl, F5, ⟨ra, rb⟩, wa5, wb5, wj5, ww5⟩ := hI
  have c5 : hS h5 c = some (.inl 10) := by rw [F5.2.1]; exact hc
  have R5 : WhR h5 e D w := R.fr F5 (fun k => hec)
  show Ok (b_H_spreadDay_35 k c e (bI (gon (dK D w) (V 0 + i) (V 1 - i))) (nI (dSl D)) (nI u) h5) _
  unfold b_H_spreadDay_35
  refine ok_gd R5.1 (ok_lt ?_)
  rw [R5.2.2.1]
  refine ok_it hu (by omega) (fun q => ?_) (fun q => ?_)
  · subst q
    refine ok_gd c5 (ok_bR ra (ok_gd c5 (ok_bR rb (ok_gd c5 (ok_lt (ok_gd c5 (ok_lt (ok_ret ⟨?_, ?_⟩))))))))
    · exact (F5.trans (fr_uR (Or.inl rfl))).trans (fr_uR (Or.inl rfl))
    · refine ⟨b, a, by omega, ?_, ?_, fun t ht => ?_, ?_, ww5⟩
      · show (if c = c ∧ 0 = 1 then _ else if c = c ∧ 0 = 0 then some b else hR h5 c 0) = some b
        rw [if_neg (by omega), if_pos ⟨rfl, rfl⟩]
      · show (if c = c ∧ 1 = 1 then some a else _) = some a
        rw [if_pos ⟨rfl, rfl⟩]
      · refine (wb5 t ht).trans (congrArg lN ?_)
        unfold xE
        rw [chE_s, chE_d _ _ _ _ i (dT D w) hxl]
      · refine wj5.trans (congrArg lN ?_)
        unfold xE xJ
        rw [chJ_s _ _ _ _ _ _ hp, chE_d _ _ _ _ i (dT D w) hxl (fun u => 100 * aJ D V w i u + dSl D * asJ D w (aA D V w i u))]
  · have hWl := xE_le (D := D) (V := V) (w := w) W i u
    have h6 := p100 (i := i) (by omega)
    refine ok_gd c5 (ok_bR ra (ok_gd (ai_of (sa F5.2.1) (by omega) (by decide)) (ok_lt ?_)))
    rw [nI_clamp (by omega), wa5 u (by omega)]
    obtain ⟨X, hX⟩ : ∃ X, X = xE D V w i (ind u) := ⟨_, rfl⟩
    rw [← hX] at hWl ⊢
    by_cases q0 : X = 0
    · refine ok_t ((lg_cmp_le _ _).mpr (by rw [← lN_0]; exact (pk_lLE (by omega) (by decide)).mpr (by omega))) ?_
      unfold b_H_spreadDay_132
      refine kk _ _ q ⟨by rw [nI_1], F5, ⟨ra, rb⟩, wa5, fun t ht => ?_, ?_, ww5⟩
      · rw [wb5 t ht]
        show _ = lN (_ + xE D V w i (ind u) * _)
        rw [← hX, q0, Nat.zero_mul, Nat.add_zero]
      · rw [wj5]
        show _ = lN (_ + (_ + xE D V w i (ind u) * _))
        rw [← hX, q0, Nat.zero_mul, Nat.add_zero]
    · refine ok_f (fun q1 => q0 ?_) ?_
      · have := (lg_cmp_le _ _).mp q1
        rw [← lN_0] at this
        have := (pk_lLE (by omega) (by decide)).mp this
        omega
      · have go : ∀ h7, Fr (fun a k => a = c ∧ k = 2) h5 h7 → hL h7 c 2 = lN (100 * xJ D V w i + smN (fun v => xE D V w i (ind v) * (100 * aJ D V w i v + dSl D * asJ D w (aA D V w i v))) u + 100 * X * aJ D V w i u) → Ok (b_H_spreadDay_86 k c e (bI (gon (dK D w) (V 0 + i) (V 1 - i))) (nI (dSl D)) (nI u) (lN X) (nI (aA D V w i u)) h7) (fun _ h' => Fr (fun a _ => sH c a) h h' ∧ HC h' c D V w (i + 1)) := by
          intro h7 F7 zj7
          have hy := aA_lt (V := V) W hw i u q
          have hs := aS_lt W hw _ hy
          have F8 : Fr (fun a _ => sH c a) h h7 := F5.trans (F7.mono (fun x k q => Or.inl q.1))
          have c7 : hS h7 c = some (.inl 10) := by rw [F7.2.1]; exact c5
          have rb7 : hR h7 c 1 = some b := by rw [(F7.2.2.2 c 1 (by omega)).2.2]; exact rb
          have ra7 : hR h7 c 0 = some a := by rw [(F7.2.2.2 c 0 (by omega)).2.2]; exact ra
          have lb7 : ∀ t, hL h7 b t = hL h5 b t := fun t => (F7.2.2.2 b t (by omega)).2.1
          have la7 : ∀ t, hL h7 a t = hL h5 a t := fun t => (F7.2.2.2 a t (by omega)).2.1
          have lw7 : hL h7 c 3 = hL h5 c 3 := (F7.2.2.2 c 3 (by omega)).2.1
          have s7 : hS h7 b = some (.inr (1, 60)) := sb F8.2.1
          have e1 : lN X * ((100 : Int32) - nI (dSl D)).toInt64 = lN (X * (100 - dSl D)) := by
            have : (100 : Int32) - nI (dSl D) = nI (100 - dSl D) := pk_sub (a := 100) hp
            rw [this, nI_l (by omega), lN_mul]
          have e2 : lN X * (nI (dSl D)).toInt64 = lN (X * dSl D) := by rw [nI_l (by omega), lN_mul]
          unfold b_H_spreadDay_86
          refine ok_gd c7 (ok_bR rb7 (ok_gd (ai_of s7 (by omega) (by decide)) (ok_lt (ok_gd (ai_of s7 (by omega) (by decide)) (ok_lt ?_)))))
          rw [nI_clamp (by omega), e1, e2]
          have F9 : Fr (fun a _ => sH c a) h (uL h7 b (aA D V w i u) (hL h7 b (aA D V w i u) + lN (X * (100 - dSl D)))) := F8.trans (fr_uL (by show sH c b; unfold sH; omega))
          have b9 : ∀ t, t < 60 → hL (uL h7 b (aA D V w i u) (hL h7 b (aA D V w i u) + lN (X * (100 - dSl D)))) b t = hL h5 b t + lN (X * (100 - dSl D) * ind t (aA D V w i u)) := fun t ht => by rw [uL_ad, lb7]
          have a9 : ∀ x k, x ≠ b → hL (uL h7 b (aA D V w i u) (hL h7 b (aA D V w i u) + lN (X * (100 - dSl D)))) x k = hL h7 x k := fun x k q => hL_uLa q
          have r9 : hR (uL h7 b (aA D V w i u) (hL h7 b (aA D V w i u) + lN (X * (100 - dSl D)))) = hR h7 := rfl
          generalize uL h7 b (aA D V w i u) (hL h7 b (aA D V w i u) + lN (X * (100 - dSl D))) = h9 at F9 b9 a9 r9
          have c9 : hS h9 c = some (.inl 10) := by rw [F9.2.1]; exact hc
          refine ok_gd c9 (ok_bR (by rw [r9]; exact rb7) (ok_gd c9 (ok_bd (ok_mono (ok_H_goOn (t := aA D V w i u) (b := 1) W hw (R.fr F9 (fun k => hec)) c9 hec' hy (by omega) (by rw [a9 _ _ (fun q => bc q.symm)]; exact zj7)) ?_))))
          intro r hA hx
          obtain ⟨rfl, FA, zA⟩ := hx
          have sA7 : hS hA b = some (.inr (1, 60)) := sb (FA.2.1.trans F9.2.1)
          have hs' : tp D w (dfw D w) 1 (aA D V w i u) < dT D w := hs
          refine ok_gd (ai_of sA7 (by omega) (by decide)) (ok_lt (ok_gd (ai_of sA7 (by omega) (by decide)) (ok_lt ?_)))
          rw [nI_clamp (by omega)]
          have lbA : ∀ t, hL hA b t = hL h9 b t := fun t => (FA.2.2.2 b t (by omega)).2.1
          unfold b_H_spreadDay_132
          refine kk _ _ q ⟨by rw [nI_1], (F9.trans (FA.mono (fun x k q => Or.inl q.1))).trans (fr_uL (by show sH c b; unfold sH; omega)), ⟨?_, ?_⟩, fun t ht => ?_, fun t ht => ?_, ?_, ?_⟩
          · show hR hA c 0 = _
            rw [(FA.2.2.2 c 0 (by omega)).2.2, r9]
            exact ra7
          · show hR hA c 1 = _
            rw [(FA.2.2.2 c 1 (by omega)).2.2, r9]
            exact rb7
          · rw [hL_uLa (fun q => ba q.symm), (FA.2.2.2 a t (by omega)).2.1, a9 _ _ (fun q => ba q.symm), la7]
            exact wa5 t ht
          · rw [uL_ad, lbA, b9 t ht, wb5 t ht, lN_add, lN_add]
            refine congrArg lN ?_
            show _ = _ + xE D V w i (ind u) * _
            rw [← hX, Nat.mul_add, Nat.mul_assoc, Nat.mul_assoc, ← Nat.add_assoc]
            rfl
          · rw [hL_uLa (fun q => bc q.symm), zA]
            refine congrArg lN ?_
            show _ = _ + (_ + xE D V w i (ind u) * _)
            rw [← hX, Nat.mul_add, Nat.mul_left_comm X 100, ← Nat.mul_assoc 100 X, ← Nat.mul_assoc X (dSl D)]
            show _ + X * dSl D * asJ D w (aA D V w i u) = _
            omega
          · rw [hL_uLa (fun q => bc q.symm), (FA.2.2.2 c 3 (by omega)).2.1, a9 _ _ (fun q => bc q.symm), lw7]
            exact ww5
        cases qg : gon (dK D w) (V 0 + i) (V 1 - i) with
        | false =>
          rw [qg] at go
          have eA : aA D V w i u = u := by unfold aA; rw [qg]; rfl
          have eJ : aJ D V w i u = 0 := by unfold aJ; rw [qg]; rfl
          rw [eA, eJ] at go
          exact ok_t rfl (go h5 Fr.rf (by rw [Nat.mul_zero, Nat.add_zero]; exact wj5))
        | true =>
          rw [qg] at go
          have eA : aA D V w i u = tp D w (dfw D w) (dB D w) u := by unfold aA; rw [qg]; rfl
          have eJ : aJ D V w i u = if jk D w (dfw D w) (dB D w) u = true then 1 else 0 := by unfold aJ; rw [qg]; rfl
          rw [eA] at go
          refine ok_f (by decide) (ok_gd R5.1 (ok_lt ?_))
          rw [R5.2.2.2.1, show (100 : Int64) * lN X = lN (100 * X) from lN_mul 100 X]
          refine ok_gd c5 (ok_bd (ok_mono (ok_H_goOn W hw R5 c5 hec' q (by omega) wj5) ?_))
          intro r h7 hx
          obtain ⟨rfl, F7, z7⟩ := hx
          refine go h7 F7 ?_
          rw [z7, eJ]
end HB
