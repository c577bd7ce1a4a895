/-! the class's reader: its token at hand -/
def SR (r b k : Nat) : Prop := b = r ∧ 4 ≤ k ∧ k ≤ 11
def ST (r b k : Nat) : Prop := b = r ∧ 6 ≤ k ∧ k ≤ 11
theorem ST_SR {r b k : Nat} (e : ST r b k) : SR r b k := ⟨e.1, by have := e.2; omega, e.2.2⟩
/-- what does not change while it reads -/
def RK (h : Hp) (x o : Nat) (X : TX) : Prop := LayRd h (x + 2) ∧ hR h (x + 2) 0 = some (x + 1) ∧ hS h (x + 1) = some (.inr (2, 900)) ∧ hI h (x + 2) 1 = nI X.2 ∧ X.2 ≤ 900 ∧ (∀ p, p < X.2 → hI h (x + 1) p = X.1 p) ∧ BT X.1 X.2 ∧ hR h (x + 2) 2 = some o ∧ LayO h o ∧ (o = x + 6 ∨ o = x + 21)
theorem cb_f {X : TX} {p : Nat} (hb : BT X.1 X.2) (hp : p < X.2) : cb X p < 256 ∧ X.1 p &&& 255 = nI (cb X p) ∧ (cb X p < 128 → X.1 p = nI (cb X p)) ∧ (128 ≤ cb X p → X.1 p < 0) := by
  obtain ⟨b, e⟩ := hb p hp
  have g := c8_1 b
  have e2 : cb X p = c8 b := by unfold cb c8; rw [e]
  rw [e2, e]
  exact g
theorem hR_uI {h : Hp} {a k : Nat} {v : Int32} : hR (uI h a k v) = hR h := rfl
theorem hR_uL {h : Hp} {a k : Nat} {v : Int64} : hR (uL h a k v) = hR h := rfl
theorem hI_uR {h : Hp} {a k : Nat} {v : Option Nat} : hI (uR h a k v) = hI h := rfl
theorem hL_uR {h : Hp} {a k : Nat} {v : Option Nat} : hL (uR h a k v) = hL h := rfl
theorem RK.fr {S : Nat → Nat → Prop} {h h' : Hp} {x o : Nat} {X : TX} (K : RK h x o X) (F : Fr S h h') (hS' : ∀ a k, S a k → (a = x + 2 ∧ 3 ≤ k ∧ k ≤ 12) ∨ (x + 3 ≤ a ∧ a ≤ x + 5) ∨ (a = o ∧ (k ≤ 2 ∨ k = 4 ∨ k = 6 ∨ k = 12 ∨ k = 13)) ∨ (o + 2 ≤ a ∧ a ≤ o + 14)) : RK h' x o X := by
  obtain ⟨⟨k1, k2, k3, k4, k5, k6, k7⟩, k8, k9, k10, k11, k12, k13, k14, k15, k16⟩ := K
  have fS := F.2.1
  have no : ∀ a k, ¬ ((a = x + 2 ∧ 3 ≤ k ∧ k ≤ 12) ∨ (x + 3 ≤ a ∧ a ≤ x + 5) ∨ (a = o ∧ (k ≤ 2 ∨ k = 4 ∨ k = 6 ∨ k = 12 ∨ k = 13)) ∨ (o + 2 ≤ a ∧ a ≤ o + 14)) → ¬ S a k := fun a k hn e => hn (hS' a k e)
  have nr : ∀ k, (k < 3 ∨ 12 < k) → hR h' (x + 2) k = hR h (x + 2) k := fun k hk => (F.2.2.2 _ _ (no _ _ (by omega))).2.2
  refine ⟨?_, by rw [nr 0 (by omega)]; exact k8, by rw [fS]; exact k9, by rw [(F.2.2.2 _ _ (no (x + 2) 1 (by omega))).1]; exact k10, k11, fun p hp => by rw [(F.2.2.2 _ _ (no (x + 1) p (by omega))).1]; exact k12 p hp, k13, by rw [nr 2 (by omega)]; exact k14, ?_, k16⟩
  · unfold LayRd
    rw [fS, nr 13 (by omega), nr 14 (by omega), nr 15 (by omega)]
    exact ⟨k1, k2, k3, k4, k5, k6, k7⟩
  · obtain ⟨l1, ⟨m1, m2, m3, m4, m5, m6, m7, m8, m9⟩, l3, l4, l5, l6, l7, l8⟩ := k15
    have i0 : ∀ k, (k = 3 ∨ k = 5 ∨ (7 ≤ k ∧ k ≤ 11) ∨ 14 ≤ k) → hR h' o k = hR h o k := fun k hk => (F.2.2.2 _ _ (no _ _ (by omega))).2.2
    have i1 : ∀ k, hR h' (o + 1) k = hR h (o + 1) k := fun k => (F.2.2.2 _ _ (no _ _ (by omega))).2.2
    unfold LayO
    rw [fS]
    simp only [i1]
    rw [i0 3 (by omega), i0 5 (by omega), i0 7 (by omega), i0 8 (by omega), i0 9 (by omega), i0 10 (by omega), i0 11 (by omega), i0 14 (by omega), i0 15 (by omega)]
    exact ⟨l1, ⟨m1, m2, m3, m4, m5, m6, m7, m8, m9⟩, l3, l4, l5, l6, l7, l8⟩
theorem RK.sr {h h' : Hp} {x o : Nat} {X : TX} (K : RK h x o X) (F : Fr (SR (x + 2)) h h') : RK h' x o X := K.fr F (fun a k e => by unfold SR at e; omega)
theorem RK.st {h h' : Hp} {x o : Nat} {X : TX} (K : RK h x o X) (F : Fr (ST (x + 2)) h h') : RK h' x o X := K.sr (F.mono (fun _ _ e => ST_SR e))
section CT
variable {α : Type} {A B : Option (α × Hp)} {Q : α → Hp → Prop} {X : TX} {p : Nat}
theorem ok_c97 (hb : BT X.1 X.2) (hp : p < X.2) (t : isL (cb X p) = false → Ok A Q) (e : 97 ≤ cb X p → cb X p < 128 → Ok B Q) : Ok (if X.1 p < 97 then A else B) Q := by
  obtain ⟨-, -, c1, c2⟩ := cb_f hb hp
  rcases Nat.lt_or_ge (cb X p) 128 with q | q
  · rw [c1 q]
    exact ok_ilt (b := 97) (by omega) (by decide) (fun g => t (decide_eq_false (by omega))) (fun g => e g q)
  · exact ok_t (Int32.lt_of_lt_of_le (c2 q) (by decide)) (t (decide_eq_false (by omega)))
theorem ok_c122 (hb : BT X.1 X.2) (hp : p < X.2) (q1 : 97 ≤ cb X p) (q : cb X p < 128) (t : isL (cb X p) = false → Ok A Q) (e : isL (cb X p) = true → Ok B Q) : Ok (if 122 < X.1 p then A else B) Q := by
  obtain ⟨-, -, c1, c2⟩ := cb_f hb hp
  rw [c1 q]
  exact ok_ilt (a := 122) (by decide) (by omega) (fun g => t (decide_eq_false (by omega))) (fun g => e (decide_eq_true (by omega)))
theorem ok_c48 (hb : BT X.1 X.2) (hp : p < X.2) (t : isD (cb X p) = false → Ok A Q) (e : 48 ≤ cb X p → cb X p < 128 → Ok B Q) : Ok (if X.1 p < 48 then A else B) Q := by
  obtain ⟨-, -, c1, c2⟩ := cb_f hb hp
  rcases Nat.lt_or_ge (cb X p) 128 with q | q
  · rw [c1 q]
    exact ok_ilt (b := 48) (by omega) (by decide) (fun g => t (decide_eq_false (by omega))) (fun g => e g q)
  · exact ok_t (Int32.lt_of_lt_of_le (c2 q) (by decide)) (t (decide_eq_false (by omega)))
theorem ok_c57 (hb : BT X.1 X.2) (hp : p < X.2) (q1 : 48 ≤ cb X p) (q : cb X p < 128) (t : isD (cb X p) = false → Ok A Q) (e : isD (cb X p) = true → Ok B Q) : Ok (if 57 < X.1 p then A else B) Q := by
  obtain ⟨-, -, c1, c2⟩ := cb_f hb hp
  rw [c1 q]
  exact ok_ilt (a := 57) (by decide) (by omega) (fun g => t (decide_eq_false (by omega))) (fun g => e (decide_eq_true (by omega)))
theorem ok_ceq {n : Nat} (hb : BT X.1 X.2) (hp : p < X.2) (hn : n < 128) (t : cb X p = n → Ok A Q) (e : cb X p ≠ n → Ok B Q) : Ok (if X.1 p = nI n then A else B) Q := by
  obtain ⟨-, -, c1, c2⟩ := cb_f hb hp
  rcases Nat.lt_or_ge (cb X p) 128 with q | q
  · rw [c1 q]
    exact ok_ieq (by omega) (by omega) t e
  · exact ok_f (fun g => absurd (c2 q) (by rw [g]; exact nI_pos (by omega))) (e (by omega))
end CT
section CR
variable {h h' : Hp} {x o a : Nat} {X : TX}
theorem ok_R_takeWord (K : RK h x o X) (ha : a < X.2) (h6 : hI h (x + 2) 6 = nI a) (h7 : hI h (x + 2) 7 = nI a) (hw : hL h (x + 2) 10 = lN 0) : Ok (f_R_takeWord (x + 2) h) (fun _ h' => Fr (ST (x + 2)) h h' ∧ hI h' (x + 2) 6 = nI a ∧ hI h' (x + 2) 7 = nI (rn isL X a) ∧ hI h' (x + 2) 8 = nI (if rn isL X a - a ≤ 8 then 1 else 5) ∧ hL h' (x + 2) 10 = lN (rv isL 256 0 X a 0) ∧ hI h' (x + 2) 11 = hI h (x + 2) 11) := by
  unfold f_R_takeWord
  have hE := K.2.2.2.2.1
  refine ok_up X.2 (fun i st h' => st = x + 2 ∧ Fr (ST (x + 2)) h h' ∧ hI h' (x + 2) 6 = nI a ∧ hI h' (x + 2) 7 = nI i ∧ a ≤ i ∧ rn isL X i = rn isL X a ∧ hI h' (x + 2) 11 = hI h (x + 2) 11 ∧ ∃ u, hL h' (x + 2) 10 = lN u ∧ rv isL 256 0 X i u = rv isL 256 0 X a 0) ?_ FU a _ _ (by omega) ⟨rfl, Fr.rf, h6, h7, Nat.le_refl _, rfl, rfl, 0, hw, rfl⟩ (by show _ < 10000; omega)
  intro k i st h1 hi hI' kk
  obtain ⟨rfl, F, i6, i7, hai, hr, i11, u, iw, hu⟩ := hI'
  have K1 := K.st F
  obtain ⟨⟨k1, k2, k3, k4, k5, k6, k7⟩, k8, k9, k10, k11, k12, k13, k14, k15, k16⟩ := id K1
  have ex : rn isL X i = i → rv isL 256 0 X i u = u → Ok (b_R_takeWord_74 (x + 2) h1) (fun _ h' => Fr (ST (x + 2)) h h' ∧ hI h' (x + 2) 6 = nI a ∧ hI h' (x + 2) 7 = nI (rn isL X a) ∧ hI h' (x + 2) 8 = nI (if rn isL X a - a ≤ 8 then 1 else 5) ∧ hL h' (x + 2) 10 = lN (rv isL 256 0 X a 0) ∧ hI h' (x + 2) 11 = hI h (x + 2) 11) := by
    intro e1 e2
    unfold b_R_takeWord_74
    (try unfold QB); (try unfold QM); repeat (first | (with_reducible refine ok_lt ?_) | ((with_reducible refine ok_gd ?_ ?_); first | assumption | exact zb0 | exact zb1 | ((with_reducible apply ai_of) <;> first | assumption | omega | decide) | exact ai_lit (by assumption) (by decide) (by decide) (by decide)) | (refine ok_bR (by assumption) ?_))
    rw [i7, i6, pk_sub hai, ← hr, e1]
    refine ok_ilt (a := 8) (by decide) (by omega) (fun g => ?_) (fun g => ?_)
    · (try unfold QB); (try unfold QM); repeat (first | (with_reducible refine ok_lt ?_) | ((with_reducible refine ok_gd ?_ ?_); first | assumption | exact zb0 | exact zb1 | ((with_reducible apply ai_of) <;> first | assumption | omega | decide) | exact ai_lit (by assumption) (by decide) (by decide) (by decide)) | (refine ok_bR (by assumption) ?_))
      refine ok_ret ⟨F.trans (fr_uI ⟨rfl, by decide, by decide⟩), ?_, ?_, ?_, ?_, ?_⟩
      · rw [hI_uIk (by decide)]; exact i6
      · rw [hI_uIk (by decide)]; exact i7
      · rw [hI_uIs, if_neg (by omega)]; rfl
      · rw [hL_uI, iw, ← hu, e2]
      · rw [hI_uIk (by decide)]; exact i11
    · (try unfold QB); (try unfold QM); repeat (first | (with_reducible refine ok_lt ?_) | ((with_reducible refine ok_gd ?_ ?_); first | assumption | exact zb0 | exact zb1 | ((with_reducible apply ai_of) <;> first | assumption | omega | decide) | exact ai_lit (by assumption) (by decide) (by decide) (by decide)) | (refine ok_bR (by assumption) ?_))
      refine ok_ret ⟨F.trans (fr_uI ⟨rfl, by decide, by decide⟩), ?_, ?_, ?_, ?_, ?_⟩
      · rw [hI_uIk (by decide)]; exact i6
      · rw [hI_uIk (by decide)]; exact i7
      · rw [hI_uIs, if_pos (by omega)]; rfl
      · rw [hL_uI, iw, ← hu, e2]
      · rw [hI_uIk (by decide)]; exact i11
  show Ok (b_R_takeWord_0 k (x + 2) h1) _
  unfold b_R_takeWord_0
  (try unfold QB); (try unfold QM); repeat (first | (with_reducible refine ok_lt ?_) | ((with_reducible refine ok_gd ?_ ?_); first | assumption | exact zb0 | exact zb1 | ((with_reducible apply ai_of) <;> first | assumption | omega | decide) | exact ai_lit (by assumption) (by decide) (by decide) (by decide)) | (refine ok_bR (by assumption) ?_))
  rw [k10, i7]
  refine ok_ile (by omega) (by omega) (fun g => ex (rn_e (by omega)) (rv_e (by omega))) (fun g => ?_)
  (try unfold QB); (try unfold QM); repeat (first | (with_reducible refine ok_lt ?_) | ((with_reducible refine ok_gd ?_ ?_); first | assumption | exact zb0 | exact zb1 | ((with_reducible apply ai_of) <;> first | assumption | omega | decide) | exact ai_lit (by assumption) (by decide) (by decide) (by decide)) | (refine ok_bR (by assumption) ?_))
  rw [nI_clamp (by omega), k12 i g]
  refine ok_c97 k13 g (fun q => ex (rn_f q) (rv_f q)) (fun q1 q2 => ?_)
  (try unfold QB); (try unfold QM); repeat (first | (with_reducible refine ok_lt ?_) | ((with_reducible refine ok_gd ?_ ?_); first | assumption | exact zb0 | exact zb1 | ((with_reducible apply ai_of) <;> first | assumption | omega | decide) | exact ai_lit (by assumption) (by decide) (by decide) (by decide)) | (refine ok_bR (by assumption) ?_))
  rw [nI_clamp (by omega), k12 i g]
  refine ok_c122 k13 g q1 q2 (fun q => ex (rn_f q) (rv_f q)) (fun q => ?_)
  (try unfold QB); (try unfold QM); repeat (first | (with_reducible refine ok_lt ?_) | ((with_reducible refine ok_gd ?_ ?_); first | assumption | exact zb0 | exact zb1 | ((with_reducible apply ai_of) <;> first | assumption | omega | decide) | exact ai_lit (by assumption) (by decide) (by decide) (by decide)) | (refine ok_bR (by assumption) ?_))
  rw [nI_clamp (by omega), k12 i g, iw, (cb_f k13 g).2.2.1 q2, sh8w _ _ q2, hI_uL, i7, nI_1]
  refine kk _ _ g ⟨rfl, (F.trans (fr_uL ⟨rfl, by decide, by decide⟩)).trans (fr_uI ⟨rfl, by decide, by decide⟩), ?_, hI_uIs, by omega, ?_, ?_, 256 * u + cb X i, hL_uLs, ?_⟩
  · rw [hI_uIk (by decide)]; exact i6
  · rw [← hr, rn_t g q]
  · rw [hI_uIk (by decide)]; exact i11
  · rw [← hu, rv_t g q]
    rfl
theorem ok_R_takeWhole (K : RK h x o X) (ha : a < X.2) (h6 : hI h (x + 2) 6 = nI a) (h7 : hI h (x + 2) 7 = nI a) (hw : hI h (x + 2) 9 = nI 0) : Ok (f_R_takeWhole (x + 2) h) (fun _ h' => Fr (ST (x + 2)) h h' ∧ hI h' (x + 2) 6 = nI a ∧ hI h' (x + 2) 7 = nI (rn isD X a) ∧ hI h' (x + 2) 8 = nI (if rn isD X a - a ≤ 3 then 2 else 5) ∧ hI h' (x + 2) 9 = nI (rv isD 10 48 X a 0) ∧ hI h' (x + 2) 11 = hI h (x + 2) 11) := by
  unfold f_R_takeWhole
  have hE := K.2.2.2.2.1
  refine ok_up X.2 (fun i st h' => st = x + 2 ∧ Fr (ST (x + 2)) h h' ∧ hI h' (x + 2) 6 = nI a ∧ hI h' (x + 2) 7 = nI i ∧ a ≤ i ∧ rn isD X i = rn isD X a ∧ hI h' (x + 2) 11 = hI h (x + 2) 11 ∧ ∃ u, hI h' (x + 2) 9 = nI u ∧ rv isD 10 48 X i u = rv isD 10 48 X a 0) ?_ FU a _ _ (by omega) ⟨rfl, Fr.rf, h6, h7, Nat.le_refl _, rfl, rfl, 0, hw, rfl⟩ (by show _ < 10000; omega)
  intro k i st h1 hi hI' kk
  obtain ⟨rfl, F, i6, i7, hai, hr, i11, u, iw, hu⟩ := hI'
  have K1 := K.st F
  obtain ⟨⟨k1, k2, k3, k4, k5, k6, k7⟩, k8, k9, k10, k11, k12, k13, k14, k15, k16⟩ := id K1
  have ex : rn isD X i = i → rv isD 10 48 X i u = u → Ok (b_R_takeWhole_76 (x + 2) h1) (fun _ h' => Fr (ST (x + 2)) h h' ∧ hI h' (x + 2) 6 = nI a ∧ hI h' (x + 2) 7 = nI (rn isD X a) ∧ hI h' (x + 2) 8 = nI (if rn isD X a - a ≤ 3 then 2 else 5) ∧ hI h' (x + 2) 9 = nI (rv isD 10 48 X a 0) ∧ hI h' (x + 2) 11 = hI h (x + 2) 11) := by
    intro e1 e2
    unfold b_R_takeWhole_76
    (try unfold QB); (try unfold QM); repeat (first | (with_reducible refine ok_lt ?_) | ((with_reducible refine ok_gd ?_ ?_); first | assumption | exact zb0 | exact zb1 | ((with_reducible apply ai_of) <;> first | assumption | omega | decide) | exact ai_lit (by assumption) (by decide) (by decide) (by decide)) | (refine ok_bR (by assumption) ?_))
    rw [i7, i6, pk_sub hai, ← hr, e1]
    refine ok_ilt (a := 3) (by decide) (by omega) (fun g => ?_) (fun g => ?_)
    · (try unfold QB); (try unfold QM); repeat (first | (with_reducible refine ok_lt ?_) | ((with_reducible refine ok_gd ?_ ?_); first | assumption | exact zb0 | exact zb1 | ((with_reducible apply ai_of) <;> first | assumption | omega | decide) | exact ai_lit (by assumption) (by decide) (by decide) (by decide)) | (refine ok_bR (by assumption) ?_))
      refine ok_ret ⟨F.trans (fr_uI ⟨rfl, by decide, by decide⟩), ?_, ?_, ?_, ?_, ?_⟩
      · rw [hI_uIk (by decide)]; exact i6
      · rw [hI_uIk (by decide)]; exact i7
      · rw [hI_uIs, if_neg (by omega)]; rfl
      · rw [hI_uIk (by decide), iw, ← hu, e2]
      · rw [hI_uIk (by decide)]; exact i11
    · (try unfold QB); (try unfold QM); repeat (first | (with_reducible refine ok_lt ?_) | ((with_reducible refine ok_gd ?_ ?_); first | assumption | exact zb0 | exact zb1 | ((with_reducible apply ai_of) <;> first | assumption | omega | decide) | exact ai_lit (by assumption) (by decide) (by decide) (by decide)) | (refine ok_bR (by assumption) ?_))
      refine ok_ret ⟨F.trans (fr_uI ⟨rfl, by decide, by decide⟩), ?_, ?_, ?_, ?_, ?_⟩
      · rw [hI_uIk (by decide)]; exact i6
      · rw [hI_uIk (by decide)]; exact i7
      · rw [hI_uIs, if_pos (by omega)]; rfl
      · rw [hI_uIk (by decide), iw, ← hu, e2]
      · rw [hI_uIk (by decide)]; exact i11
  show Ok (b_R_takeWhole_0 k (x + 2) h1) _
  unfold b_R_takeWhole_0
  (try unfold QB); (try unfold QM); repeat (first | (with_reducible refine ok_lt ?_) | ((with_reducible refine ok_gd ?_ ?_); first | assumption | exact zb0 | exact zb1 | ((with_reducible apply ai_of) <;> first | assumption | omega | decide) | exact ai_lit (by assumption) (by decide) (by decide) (by decide)) | (refine ok_bR (by assumption) ?_))
  rw [k10, i7]
  refine ok_ile (by omega) (by omega) (fun g => ex (rn_e (by omega)) (rv_e (by omega))) (fun g => ?_)
  (try unfold QB); (try unfold QM); repeat (first | (with_reducible refine ok_lt ?_) | ((with_reducible refine ok_gd ?_ ?_); first | assumption | exact zb0 | exact zb1 | ((with_reducible apply ai_of) <;> first | assumption | omega | decide) | exact ai_lit (by assumption) (by decide) (by decide) (by decide)) | (refine ok_bR (by assumption) ?_))
  rw [nI_clamp (by omega), k12 i g]
  refine ok_c48 k13 g (fun q => ex (rn_f q) (rv_f q)) (fun q1 q2 => ?_)
  (try unfold QB); (try unfold QM); repeat (first | (with_reducible refine ok_lt ?_) | ((with_reducible refine ok_gd ?_ ?_); first | assumption | exact zb0 | exact zb1 | ((with_reducible apply ai_of) <;> first | assumption | omega | decide) | exact ai_lit (by assumption) (by decide) (by decide) (by decide)) | (refine ok_bR (by assumption) ?_))
  rw [nI_clamp (by omega), k12 i g]
  refine ok_c57 k13 g q1 q2 (fun q => ex (rn_f q) (rv_f q)) (fun q => ?_)
  (try unfold QB); (try unfold QM); repeat (first | (with_reducible refine ok_lt ?_) | ((with_reducible refine ok_gd ?_ ?_); first | assumption | exact zb0 | exact zb1 | ((with_reducible apply ai_of) <;> first | assumption | omega | decide) | exact ai_lit (by assumption) (by decide) (by decide) (by decide)) | (refine ok_bR (by assumption) ?_))
  have e9 : nI u * 10 + (nI (cb X i) - 48) = nI (10 * u + (cb X i - 48)) := by
    rw [show nI (cb X i) - 48 = nI (cb X i - 48) from pk_sub (b := 48) q1, Int32.mul_comm, show (10 : Int32) * nI u = nI (10 * u) from pk_mul 10 u, nI_add]
  rw [nI_clamp (by omega), k12 i g, iw, (cb_f k13 g).2.2.1 q2, e9, hI_uIk (by decide), i7, nI_1]
  refine kk _ _ g ⟨rfl, (F.trans (fr_uI ⟨rfl, by decide, by decide⟩)).trans (fr_uI ⟨rfl, by decide, by decide⟩), ?_, hI_uIs, by omega, ?_, ?_, 10 * u + (cb X i - 48), ?_, ?_⟩
  · rw [hI_uIk (by decide), hI_uIk (by decide)]; exact i6
  · rw [← hr, rn_t g q]
  · rw [hI_uIk (by decide), hI_uIk (by decide)]; exact i11
  · rw [hI_uIk (by decide), hI_uIs]
  · rw [← hu, rv_t g q]
/-- the token at hand -/
def TokC (h : Hp) (x : Nat) (X : TX) (a : Nat) : Prop := a ≤ X.2 ∧ hI h (x + 2) 6 = nI a ∧ hI h (x + 2) 7 = nI (tE X a) ∧ hI h (x + 2) 8 = nI (tS X a) ∧ (tS X a = 2 → hI h (x + 2) 9 = nI (tN X a)) ∧ (tS X a = 1 → hL h (x + 2) 10 = lN (cv (tW X a)))
theorem ok_R_step {b : Nat} (K : RK h x o X) (hb : b ≤ X.2) (h7 : hI h (x + 2) 7 = nI b) : Ok (f_R_step (x + 2) h) (fun _ h' => Fr (ST (x + 2)) h h' ∧ hI h' (x + 2) 11 = hI h (x + 2) 6 ∧ TokC h' x X (rn isS X b)) := by
  unfold f_R_step
  have hE := K.2.2.2.2.1
  have k1 := K.1.1
  have bb := rn_b (P := isS) hb
  (try unfold QB); (try unfold QM); repeat (first | (with_reducible refine ok_lt ?_) | ((with_reducible refine ok_gd ?_ ?_); first | assumption | exact zb0 | exact zb1 | ((with_reducible apply ai_of) <;> first | assumption | omega | decide) | exact ai_lit (by assumption) (by decide) (by decide) (by decide)) | (refine ok_bR (by assumption) ?_))
  rw [hI_uIk (by decide), h7]
  refine ok_up X.2 (fun i st h' => st = x + 2 ∧ Fr (ST (x + 2)) h h' ∧ hI h' (x + 2) 6 = nI i ∧ rn isS X i = rn isS X b ∧ hI h' (x + 2) 11 = hI h (x + 2) 6) ?_ FU b _ _ hb ⟨rfl, (fr_uI ⟨rfl, by decide, by decide⟩).trans (fr_uI ⟨rfl, by decide, by decide⟩), hI_uIs, rfl, by rw [hI_uIk (by decide), hI_uIs]⟩ (by show _ < 10000; omega)
  intro k i st h1 hi hI' kk
  obtain ⟨rfl, F, i6, hr, i11⟩ := hI'
  have K1 := K.st F
  obtain ⟨⟨k1, k2, k3, k4, k5, k6, k7⟩, k8, k9, k10, k11, k12, k13, k14, k15, k16⟩ := id K1
  have ex : rn isS X i = i → Ok (b_R_step_54 (x + 2) h1) (fun _ h' => Fr (ST (x + 2)) h h' ∧ hI h' (x + 2) 11 = hI h (x + 2) 6 ∧ TokC h' x X (rn isS X b)) := by
    intro e1
    rw [← hr, e1]
    have fin : ∀ h2, Fr (ST (x + 2)) h h2 → hI h2 (x + 2) 11 = hI h (x + 2) 6 → TokC h2 x X i → Fr (ST (x + 2)) h h2 ∧ hI h2 (x + 2) 11 = hI h (x + 2) 6 ∧ TokC h2 x X i := fun h2 F2 q1 q2 => ⟨F2, q1, q2⟩
    unfold b_R_step_54
    (try unfold QB); (try unfold QM); repeat (first | (with_reducible refine ok_lt ?_) | ((with_reducible refine ok_gd ?_ ?_); first | assumption | exact zb0 | exact zb1 | ((with_reducible apply ai_of) <;> first | assumption | omega | decide) | exact ai_lit (by assumption) (by decide) (by decide) (by decide)) | (refine ok_bR (by assumption) ?_))
    have F4 : Fr (ST (x + 2)) h (uL (uI (uI h1 (x + 2) 7 (hI h1 (x + 2) 6)) (x + 2) 9 0) (x + 2) 10 0) := ((F.trans (fr_uI ⟨rfl, by decide, by decide⟩)).trans (fr_uI ⟨rfl, by decide, by decide⟩)).trans (fr_uL ⟨rfl, by decide, by decide⟩)
    generalize hg : uL (uI (uI h1 (x + 2) 7 (hI h1 (x + 2) 6)) (x + 2) 9 0) (x + 2) 10 0 = h4 at F4 ⊢
    have j6 : hI h4 (x + 2) 6 = nI i := by rw [← hg, hI_uL, hI_uIk (by decide), hI_uIk (by decide)]; exact i6
    have j7 : hI h4 (x + 2) 7 = nI i := by rw [← hg, hI_uL, hI_uIk (by decide), hI_uIs]; exact i6
    have j9 : hI h4 (x + 2) 9 = nI 0 := by rw [← hg, hI_uL, hI_uIs]; rfl
    have j10 : hL h4 (x + 2) 10 = lN 0 := by rw [← hg, hL_uLs, lN_0]
    have j11 : hI h4 (x + 2) 11 = hI h (x + 2) 6 := by rw [← hg, hI_uL, hI_uIk (by decide), hI_uIk (by decide)]; exact i11
    have K4 := K.st F4
    clear hg
    obtain ⟨⟨k1, k2, k3, k4, k5, k6, k7⟩, k8, k9, k10, k11, k12, k13, k14, k15, k16⟩ := id K4
    rw [j6, k10]
    refine ok_ilt (by omega) (by omega) (fun g => ?_) (fun g => ?_)
    · -- a token
      have sg : isL (cb X i) = false → isD (cb X i) = false → Ok (b_R_step_161 (x + 2) h4) (fun _ h' => Fr (ST (x + 2)) h h' ∧ hI h' (x + 2) 11 = hI h (x + 2) 6 ∧ TokC h' x X i) := by
        intro q1 q2
        obtain ⟨s1, s2⟩ := tS_O g q1 q2
        have go : ∀ n, tS X i = n → 3 ≤ n → n ≤ 5 → Ok (b_R_step_199 (x + 2) (nI n) (x + 2) h4) (fun _ h' => Fr (ST (x + 2)) h h' ∧ hI h' (x + 2) 11 = hI h (x + 2) 6 ∧ TokC h' x X i) := by
          intro n hn h3 h5
          unfold b_R_step_199
          (try unfold QB); (try unfold QM); repeat (first | (with_reducible refine ok_lt ?_) | ((with_reducible refine ok_gd ?_ ?_); first | assumption | exact zb0 | exact zb1 | ((with_reducible apply ai_of) <;> first | assumption | omega | decide) | exact ai_lit (by assumption) (by decide) (by decide) (by decide)) | (refine ok_bR (by assumption) ?_))
          rw [hI_uIk (by decide), j6, nI_1]
          refine ok_ret (fin _ ((F4.trans (fr_uI ⟨rfl, by decide, by decide⟩)).trans (fr_uI ⟨rfl, by decide, by decide⟩)) ?_ ⟨by omega, ?_, ?_, ?_, fun e => by omega, fun e => by omega⟩)
          · rw [hI_uIk (by decide), hI_uIk (by decide)]; exact j11
          · rw [hI_uIk (by decide), hI_uIk (by decide)]; exact j6
          · rw [hI_uIs, s2]
          · rw [hI_uIk (by decide), hI_uIs, hn]
        unfold b_R_step_161
        rw [j6]
        (try unfold QB); (try unfold QM); repeat (first | (with_reducible refine ok_lt ?_) | ((with_reducible refine ok_gd ?_ ?_); first | assumption | exact zb0 | exact zb1 | ((with_reducible apply ai_of) <;> first | assumption | omega | decide) | exact ai_lit (by assumption) (by decide) (by decide) (by decide)) | (refine ok_bR (by assumption) ?_))
        rw [nI_clamp (by omega), k12 i g]
        refine ok_ceq (n := 59) k13 g (by decide) (fun e => go 3 (by rw [s1, if_pos e]) (by decide) (by decide)) (fun e => ?_)
        (try unfold QB); (try unfold QM); repeat (first | (with_reducible refine ok_lt ?_) | ((with_reducible refine ok_gd ?_ ?_); first | assumption | exact zb0 | exact zb1 | ((with_reducible apply ai_of) <;> first | assumption | omega | decide) | exact ai_lit (by assumption) (by decide) (by decide) (by decide)) | (refine ok_bR (by assumption) ?_))
        rw [nI_clamp (by omega), k12 i g]
        refine ok_ceq (n := 44) k13 g (by decide) (fun e4 => go 4 (by rw [s1, if_neg e, if_pos e4]) (by decide) (by decide)) (fun e4 => go 5 (by rw [s1, if_neg e, if_neg e4]) (by decide) (by decide))
      have dg : isL (cb X i) = false → Ok (b_R_step_126 (x + 2) h4) (fun _ h' => Fr (ST (x + 2)) h h' ∧ hI h' (x + 2) 11 = hI h (x + 2) 6 ∧ TokC h' x X i) := by
        intro q1
        unfold b_R_step_126
        rw [j6]
        (try unfold QB); (try unfold QM); repeat (first | (with_reducible refine ok_lt ?_) | ((with_reducible refine ok_gd ?_ ?_); first | assumption | exact zb0 | exact zb1 | ((with_reducible apply ai_of) <;> first | assumption | omega | decide) | exact ai_lit (by assumption) (by decide) (by decide) (by decide)) | (refine ok_bR (by assumption) ?_))
        rw [nI_clamp (by omega), k12 i g]
        refine ok_c48 k13 g (fun q2 => sg q1 q2) (fun a1 a2 => ?_)
        (try unfold QB); (try unfold QM); repeat (first | (with_reducible refine ok_lt ?_) | ((with_reducible refine ok_gd ?_ ?_); first | assumption | exact zb0 | exact zb1 | ((with_reducible apply ai_of) <;> first | assumption | omega | decide) | exact ai_lit (by assumption) (by decide) (by decide) (by decide)) | (refine ok_bR (by assumption) ?_))
        rw [nI_clamp (by omega), k12 i g]
        refine ok_c57 k13 g a1 a2 (fun q2 => sg q1 q2) (fun q2 => ?_)
        refine ok_gd k1 (ok_bd (ok_mono (ok_R_takeWhole K4 g j6 j7 j9) ?_))
        intro _ h5 hx
        obtain ⟨F5, l6, l7, l8, l9, l11⟩ := hx
        refine ok_ret ⟨F4.trans F5, by rw [l11]; exact j11, ⟨by omega, l6, ?_, ?_, fun _ => l9, fun e => ?_⟩⟩
        · rw [l7, (tS_D g q1 q2).2]
        · rw [l8, (tS_D g q1 q2).1]
        · exfalso
          rw [(tS_D g q1 q2).1] at e
          split at e <;> omega
      (try unfold QB); (try unfold QM); repeat (first | (with_reducible refine ok_lt ?_) | ((with_reducible refine ok_gd ?_ ?_); first | assumption | exact zb0 | exact zb1 | ((with_reducible apply ai_of) <;> first | assumption | omega | decide) | exact ai_lit (by assumption) (by decide) (by decide) (by decide)) | (refine ok_bR (by assumption) ?_))
      rw [nI_clamp (by omega), k12 i g]
      refine ok_c97 k13 g (fun q => dg q) (fun a1 a2 => ?_)
      (try unfold QB); (try unfold QM); repeat (first | (with_reducible refine ok_lt ?_) | ((with_reducible refine ok_gd ?_ ?_); first | assumption | exact zb0 | exact zb1 | ((with_reducible apply ai_of) <;> first | assumption | omega | decide) | exact ai_lit (by assumption) (by decide) (by decide) (by decide)) | (refine ok_bR (by assumption) ?_))
      rw [nI_clamp (by omega), k12 i g]
      refine ok_c122 k13 g a1 a2 (fun q => dg q) (fun q => ?_)
      refine ok_gd k1 (ok_bd (ok_mono (ok_R_takeWord K4 g j6 j7 j10) ?_))
      intro _ h5 hx
      obtain ⟨F5, l6, l7, l8, l10, l11⟩ := hx
      refine ok_ret ⟨F4.trans F5, by rw [l11]; exact j11, ⟨by omega, l6, ?_, ?_, fun e => ?_, fun e => by rw [l10, (tW_cv e).1]⟩⟩
      · rw [l7, (tS_L g q).2]
      · rw [l8, (tS_L g q).1]
      · exfalso
        rw [(tS_L g q).1] at e
        split at e <;> omega
    · (try unfold QB); (try unfold QM); repeat (first | (with_reducible refine ok_lt ?_) | ((with_reducible refine ok_gd ?_ ?_); first | assumption | exact zb0 | exact zb1 | ((with_reducible apply ai_of) <;> first | assumption | omega | decide) | exact ai_lit (by assumption) (by decide) (by decide) (by decide)) | (refine ok_bR (by assumption) ?_))
      refine ok_ret (fin _ (F4.trans (fr_uI ⟨rfl, by decide, by decide⟩)) ?_ ⟨by omega, ?_, ?_, ?_, fun e => ?_, fun e => ?_⟩)
      · rw [hI_uIk (by decide)]; exact j11
      · rw [hI_uIk (by decide)]; exact j6
      · rw [hI_uIk (by decide), j7, (tS_E g).2]
      · rw [hI_uIs, (tS_E g).1]; rfl
      · rw [(tS_E g).1] at e; cases e
      · rw [(tS_E g).1] at e; cases e
  show Ok (b_R_step_16 k (x + 2) h1) _
  unfold b_R_step_16
  (try unfold QB); (try unfold QM); repeat (first | (with_reducible refine ok_lt ?_) | ((with_reducible refine ok_gd ?_ ?_); first | assumption | exact zb0 | exact zb1 | ((with_reducible apply ai_of) <;> first | assumption | omega | decide) | exact ai_lit (by assumption) (by decide) (by decide) (by decide)) | (refine ok_bR (by assumption) ?_))
  rw [k10, i6]
  refine ok_ile (by omega) (by omega) (fun g => ex (rn_e (by omega))) (fun g => ?_)
  (try unfold QB); (try unfold QM); repeat (first | (with_reducible refine ok_lt ?_) | ((with_reducible refine ok_gd ?_ ?_); first | assumption | exact zb0 | exact zb1 | ((with_reducible apply ai_of) <;> first | assumption | omega | decide) | exact ai_lit (by assumption) (by decide) (by decide) (by decide)) | (refine ok_bR (by assumption) ?_))
  rw [nI_clamp (by omega), k12 i g]
  refine ok_ceq (n := 32) k13 g (by decide) (fun e => ?_) (fun e => ex (rn_f (decide_eq_false e)))
  (try unfold QB); (try unfold QM); repeat (first | (with_reducible refine ok_lt ?_) | ((with_reducible refine ok_gd ?_ ?_); first | assumption | exact zb0 | exact zb1 | ((with_reducible apply ai_of) <;> first | assumption | omega | decide) | exact ai_lit (by assumption) (by decide) (by decide) (by decide)) | (refine ok_bR (by assumption) ?_))
  rw [nI_1]
  refine kk _ _ g ⟨rfl, F.trans (fr_uI ⟨rfl, by decide, by decide⟩), hI_uIs, ?_, ?_⟩
  · rw [← hr, rn_t g (decide_eq_true e)]
  · rw [hI_uIk (by decide)]; exact i11
end CR
