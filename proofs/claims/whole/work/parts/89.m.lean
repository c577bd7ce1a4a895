/-! the reference's reader: its token at hand -/
def SG (m b k : Nat) : Prop := b = m ∧ ((8 ≤ k ∧ k ≤ 11) ∨ k = 14)
def SM (m b k : Nat) : Prop := b = m ∧ 8 ≤ k ∧ k ≤ 14
theorem SG_SM {m b k : Nat} (e : SG m b k) : SM m b k := ⟨e.1, by have := e.2; omega, by have := e.2; omega⟩
def GK (h : Hp) (m q : Nat) (X : TX) : Prop := hS h m = some (.inl 11) ∧ hR h m 4 = some q ∧ hR h m 5 = some (m + 1) ∧ hS h (m + 1) = some (.inr (2, 900)) ∧ hI h m 7 = nI X.2 ∧ X.2 ≤ 900 ∧ (∀ p, p < X.2 → hI h (m + 1) p = X.1 p) ∧ BT X.1 X.2 ∧ LayQ h q ∧ m + 15 ≤ q
theorem GK.fr {S : Nat → Nat → Prop} {h h' : Hp} {m q : Nat} {X : TX} (K : GK h m q X) (F : Fr S h h') (hS' : ∀ a k, S a k → (a = m ∧ 8 ≤ k) ∨ (a = q ∧ k < 10) ∨ (q + 1 ≤ a ∧ a ≤ q + 17)) : GK h' m q X := by
  obtain ⟨k1, k2, k3, k4, k5, k6, k7, k8, ⟨b1, b2, b3⟩, k10⟩ := K
  have fS := F.2.1
  have no : ∀ a k, ¬ ((a = m ∧ 8 ≤ k) ∨ (a = q ∧ k < 10) ∨ (q + 1 ≤ a ∧ a ≤ q + 17)) → ¬ S a k := fun a k hn e => hn (hS' a k e)
  refine ⟨by rw [fS]; exact k1, by rw [(F.2.2.2 _ _ (no m 4 (by omega))).2.2]; exact k2, by rw [(F.2.2.2 _ _ (no m 5 (by omega))).2.2]; exact k3, by rw [fS]; exact k4, by rw [(F.2.2.2 _ _ (no m 7 (by omega))).1]; exact k5, k6, fun p hp => by rw [(F.2.2.2 _ _ (no (m + 1) p (by omega))).1]; exact k7 p hp, k8, ?_, k10⟩
  unfold LayQ
  rw [fS]
  exact ⟨b1, fun i hi => by rw [(F.2.2.2 _ _ (no q (10 + i) (by omega))).2.2]; exact b2 i hi, b3⟩
theorem GK.sm {h h' : Hp} {m q : Nat} {X : TX} (K : GK h m q X) (F : Fr (SM m) h h') : GK h' m q X := K.fr F (fun a k e => by unfold SM at e; omega)
theorem GK.sg {h h' : Hp} {m q : Nat} {X : TX} (K : GK h m q X) (F : Fr (SG m) h h') : GK h' m q X := K.fr F (fun a k e => by unfold SG at e; omega)
def mbv (X : TX) (i : Nat) : Int32 := if i < X.2 then nI (cb X i) else -1
def mS (s : Nat) : Nat := if s = 5 then 0 else s + 1
section GR
variable {h h' : Hp} {m q a : Nat} {X : TX}
theorem e_m_byteAt {i : Nat} (K : GK h m q X) (hi : i ≤ X.2) : f_m_byteAt m (nI i) h = some (mbv X i, h) := by
  obtain ⟨k1, k2, k3, k4, k5, k6, k7, k8, k9, k10⟩ := K
  refine ok_eq ?_
  unfold f_m_byteAt mbv
  (try unfold QB); (try unfold QM); repeat (first | (with_reducible refine ok_lt ?_) | ((with_reducible refine ok_gd ?_ ?_); first | assumption | exact zb0 | exact zb1 | ((with_reducible apply ai_of) <;> first | assumption | omega | decide) | exact ai_lit (by assumption) (by decide) (by decide) (by decide)) | (refine ok_bR (by assumption) ?_))
  rw [k5]
  refine ok_ile (by omega) (by omega) (fun g => ok_ret ⟨by rw [if_neg (by omega)], rfl⟩) (fun g => ?_)
  (try unfold QB); (try unfold QM); repeat (first | (with_reducible refine ok_lt ?_) | ((with_reducible refine ok_gd ?_ ?_); first | assumption | exact zb0 | exact zb1 | ((with_reducible apply ai_of) <;> first | assumption | omega | decide) | exact ai_lit (by assumption) (by decide) (by decide) (by decide)) | (refine ok_bR (by assumption) ?_))
  rw [nI_clamp (by omega), k7 i g, (cb_f k8 g).2.1, if_pos g]
  exact ok_ret ⟨rfl, rfl⟩
theorem e_m_isLetter {i : Nat} (K : GK h m q X) : f_m_isLetter (mbv X i) h' = some (bI (decide (i < X.2) && isL (cb X i)), h') := by
  refine ok_eq ?_
  unfold f_m_isLetter mbv
  by_cases g : i < X.2
  · have c := (cb_f K.2.2.2.2.2.2.2.1 g).1
    rw [if_pos g, decide_eq_true g, Bool.true_and]
    refine ok_ilt (b := 97) (by omega) (by decide) (fun q1 => ok_gd zb0 (ok_ret ⟨by rw [show isL (cb X i) = false from decide_eq_false (by omega)]; rfl, rfl⟩)) (fun q1 => ?_)
    refine ok_ilt (a := 122) (by decide) (by omega) (fun q2 => ok_gd zb0 (ok_ret ⟨by rw [show isL (cb X i) = false from decide_eq_false (by omega)]; rfl, rfl⟩)) (fun q2 => ok_gd zb1 (ok_ret ⟨by rw [show isL (cb X i) = true from decide_eq_true (by omega)]; rfl, rfl⟩))
  · rw [if_neg g, decide_eq_false g, Bool.false_and]
    exact ok_t (by decide) (ok_gd zb0 (ok_ret ⟨rfl, rfl⟩))
theorem e_m_isDigit {i : Nat} (K : GK h m q X) : f_m_isDigit (mbv X i) h' = some (bI (decide (i < X.2) && isD (cb X i)), h') := by
  refine ok_eq ?_
  unfold f_m_isDigit mbv
  by_cases g : i < X.2
  · have c := (cb_f K.2.2.2.2.2.2.2.1 g).1
    rw [if_pos g, decide_eq_true g, Bool.true_and]
    refine ok_ilt (b := 48) (by omega) (by decide) (fun q1 => ok_gd zb0 (ok_ret ⟨by rw [show isD (cb X i) = false from decide_eq_false (by omega)]; rfl, rfl⟩)) (fun q1 => ?_)
    refine ok_ilt (a := 57) (by decide) (by omega) (fun q2 => ok_gd zb0 (ok_ret ⟨by rw [show isD (cb X i) = false from decide_eq_false (by omega)]; rfl, rfl⟩)) (fun q2 => ok_gd zb1 (ok_ret ⟨by rw [show isD (cb X i) = true from decide_eq_true (by omega)]; rfl, rfl⟩))
  · rw [if_neg g, decide_eq_false g, Bool.false_and]
    exact ok_t (by decide) (ok_gd zb0 (ok_ret ⟨rfl, rfl⟩))
theorem rn_x {P : Nat → Bool} {i : Nat} (g : (decide (i < X.2) && P (cb X i)) = false) : rn P X i = i ∧ ∀ B O v, rv P B O X i v = v := by
  by_cases z : i < X.2
  · rw [decide_eq_true z, Bool.true_and] at g
    exact ⟨rn_f g, fun B O v => rv_f g⟩
  · exact ⟨rn_e (by omega), fun B O v => rv_e (by omega)⟩
theorem ok_m_word (K : GK h m q X) (ha : a < X.2) (h8 : hI h m 8 = nI a) (h10 : hI h m 10 = nI a) (h9 : hI h m 9 = 0) (hw : hL h m 14 = lN 0) : Ok (l_m_goesOn_85 FU (m, 0) h) (fun _ h' => Fr (SG m) h h' ∧ hI h' m 10 = nI a ∧ hI h' m 8 = nI (rn isL X a) ∧ hI h' m 9 = nI (if rn isL X a - a ≤ 8 then 2 else 0) ∧ (rn isL X a - a ≤ 8 → hL h' m 14 = lN (rv isL 32 96 X a 0))) := by
  have hE := K.2.2.2.2.2.1
  refine ok_up X.2 (fun i st h' => st = (m, nI (i - a)) ∧ Fr (SG m) h h' ∧ hI h' m 10 = nI a ∧ hI h' m 8 = nI i ∧ hI h' m 9 = 0 ∧ a ≤ i ∧ rn isL X i = rn isL X a ∧ (i - a ≤ 8 → ∃ u, hL h' m 14 = lN u ∧ rv isL 32 96 X i u = rv isL 32 96 X a 0)) ?_ FU a _ _ (by omega) ⟨by rw [Nat.sub_self]; rfl, Fr.rf, h10, h8, h9, Nat.le_refl _, rfl, fun _ => ⟨0, hw, rfl⟩⟩ (by show _ < 10000; omega)
  intro k i st h1 hi hI' kk
  obtain ⟨rfl, F, i10, i8, i9, hai, hr, hv⟩ := hI'
  have K1 := K.sg F
  have k1 := K1.1
  show Ok (b_m_goesOn_85 k m (nI (i - a)) h1) _
  unfold b_m_goesOn_85 b_m_goesOn_132
  refine ok_gd k1 (ok_lt (ok_gd k1 ?_))
  rw [i8]
  refine ok_bde (e_m_byteAt K1 hi) (ok_bde (e_m_isLetter K1) (ok_ib (fun g => ?_) (fun g => ?_)))
  · obtain ⟨e1, e2⟩ := rn_x g
    rw [← hr, e1]
    refine ok_ilt (a := 8) (by decide) (by omega) (fun z => ?_) (fun z => ?_)
    · refine ok_ret ⟨F, i10, i8, by rw [if_neg (by omega)]; exact i9, fun z2 => absurd z2 (by omega)⟩
    · refine ok_gd k1 (ok_lt (ok_ret ⟨F.trans (fr_uI ⟨rfl, by omega⟩), ?_, ?_, ?_, fun _ => ?_⟩))
      · rw [hI_uIk (by decide)]; exact i10
      · rw [hI_uIk (by decide)]; exact i8
      · rw [hI_uIs, if_pos z]; rfl
      · obtain ⟨u, w1, w2⟩ := hv z
        rw [hL_uI, w1, ← w2, e2]
  · obtain ⟨g1, g2⟩ := Bool.and_eq_true_iff.mp g
    have g1 := of_decide_eq_true g1
    have hc := isL_r g2
    refine ok_ile (a := 8) (by decide) (by omega) (fun z => ?_) (fun z => ?_)
    · refine ok_gd k1 (ok_lt (ok_gd k1 (ok_lt ?_)))
      rw [i8, nI_1, nI_1]
      refine kk _ _ g1 ⟨by rw [show i + 1 - a = i - a + 1 by omega], F.trans (fr_uI ⟨rfl, by omega⟩), ?_, hI_uIs, ?_, by omega, by rw [← hr, rn_t g1 g2], fun z2 => by omega⟩
      · rw [hI_uIk (by decide)]; exact i10
      · rw [hI_uIk (by decide)]; exact i9
    · obtain ⟨u, w1, w2⟩ := hv (by omega)
      refine ok_gd k1 (ok_lt (ok_gd k1 (ok_lt (ok_gd k1 ?_))))
      rw [i8]
      refine ok_bde (e_m_byteAt K1 hi) (ok_gd k1 (ok_lt ?_))
      have eb : mbv X i = nI (cb X i) := if_pos g1
      have e14 : 32 * hL h1 m 14 + ((mbv X i - 97) + 1).toInt64 = lN (32 * u + (cb X i - 96)) := by
        rw [eb, w1, show nI (cb X i) - 97 = nI (cb X i - 97) from pk_sub (b := 97) (by omega), nI_1, show cb X i - 97 + 1 = cb X i - 96 by omega, nI_l (by omega), show (32 : Int64) * lN u = lN (32 * u) from lN_mul 32 u, lN_add]
      rw [e14]
      refine ok_gd k1 (ok_lt (ok_gd k1 (ok_lt ?_)))
      rw [hI_uL, i8, nI_1, nI_1]
      refine kk _ _ g1 ⟨by rw [show i + 1 - a = i - a + 1 by omega], (F.trans (fr_uL ⟨rfl, by omega⟩)).trans (fr_uI ⟨rfl, by omega⟩), ?_, hI_uIs, ?_, by omega, by rw [← hr, rn_t g1 g2], fun _ => ⟨_, hL_uLs, by rw [← w2, rv_t g1 g2]⟩⟩
      · rw [hI_uIk (by decide)]; exact i10
      · rw [hI_uIk (by decide)]; exact i9
theorem ok_m_whole (K : GK h m q X) (ha : a < X.2) (h8 : hI h m 8 = nI a) (h10 : hI h m 10 = nI a) (h9 : hI h m 9 = 0) (hw : hI h m 11 = nI 0) : Ok (l_m_goesOn_174 FU (m, 0) h) (fun _ h' => Fr (SG m) h h' ∧ hI h' m 10 = nI a ∧ hI h' m 8 = nI (rn isD X a) ∧ hI h' m 9 = nI (if rn isD X a - a ≤ 3 then 3 else 0) ∧ (rn isD X a - a ≤ 3 → hI h' m 11 = nI (rv isD 10 48 X a 0))) := by
  have hE := K.2.2.2.2.2.1
  refine ok_up X.2 (fun i st h' => st = (m, nI (i - a)) ∧ Fr (SG m) h h' ∧ hI h' m 10 = nI a ∧ hI h' m 8 = nI i ∧ hI h' m 9 = 0 ∧ a ≤ i ∧ rn isD X i = rn isD X a ∧ (i - a ≤ 3 → ∃ u, hI h' m 11 = nI u ∧ rv isD 10 48 X i u = rv isD 10 48 X a 0)) ?_ FU a _ _ (by omega) ⟨by rw [Nat.sub_self]; rfl, Fr.rf, h10, h8, h9, Nat.le_refl _, rfl, fun _ => ⟨0, hw, rfl⟩⟩ (by show _ < 10000; omega)
  intro k i st h1 hi hI' kk
  obtain ⟨rfl, F, i10, i8, i9, hai, hr, hv⟩ := hI'
  have K1 := K.sg F
  have k1 := K1.1
  show Ok (b_m_goesOn_174 k m (nI (i - a)) h1) _
  unfold b_m_goesOn_174 b_m_goesOn_216
  refine ok_gd k1 (ok_lt (ok_gd k1 ?_))
  rw [i8]
  refine ok_bde (e_m_byteAt K1 hi) (ok_bde (e_m_isDigit K1) (ok_ib (fun g => ?_) (fun g => ?_)))
  · obtain ⟨e1, e2⟩ := rn_x g
    rw [← hr, e1]
    refine ok_ilt (a := 3) (by decide) (by omega) (fun z => ?_) (fun z => ?_)
    · refine ok_ret ⟨F, i10, i8, by rw [if_neg (by omega)]; exact i9, fun z2 => absurd z2 (by omega)⟩
    · refine ok_gd k1 (ok_lt (ok_ret ⟨F.trans (fr_uI ⟨rfl, by omega⟩), ?_, ?_, ?_, fun _ => ?_⟩))
      · rw [hI_uIk (by decide)]; exact i10
      · rw [hI_uIk (by decide)]; exact i8
      · rw [hI_uIs, if_pos z]; rfl
      · obtain ⟨u, w1, w2⟩ := hv z
        rw [hI_uIk (by decide), w1, ← w2, e2]
  · obtain ⟨g1, g2⟩ := Bool.and_eq_true_iff.mp g
    have g1 := of_decide_eq_true g1
    have hc := isD_r g2
    refine ok_ile (a := 3) (by decide) (by omega) (fun z => ?_) (fun z => ?_)
    · refine ok_gd k1 (ok_lt (ok_gd k1 (ok_lt ?_)))
      rw [i8, nI_1, nI_1]
      refine kk _ _ g1 ⟨by rw [show i + 1 - a = i - a + 1 by omega], F.trans (fr_uI ⟨rfl, by omega⟩), ?_, hI_uIs, ?_, by omega, by rw [← hr, rn_t g1 g2], fun z2 => by omega⟩
      · rw [hI_uIk (by decide)]; exact i10
      · rw [hI_uIk (by decide)]; exact i9
    · obtain ⟨u, w1, w2⟩ := hv (by omega)
      refine ok_gd k1 (ok_lt (ok_gd k1 (ok_lt (ok_gd k1 ?_))))
      rw [i8]
      refine ok_bde (e_m_byteAt K1 hi) (ok_gd k1 (ok_lt ?_))
      have eb : mbv X i = nI (cb X i) := if_pos g1
      have e14 : 10 * hI h1 m 11 + mbv X i - 48 = nI (10 * u + (cb X i - 48)) := by
        rw [eb, w1, show (10 : Int32) * nI u = nI (10 * u) from pk_mul 10 u, nI_add, show nI (10 * u + cb X i) - 48 = nI (10 * u + cb X i - 48) from pk_sub (b := 48) (by omega), show 10 * u + cb X i - 48 = 10 * u + (cb X i - 48) by omega]
      rw [e14]
      refine ok_gd k1 (ok_lt (ok_gd k1 (ok_lt ?_)))
      rw [hI_uIk (by decide), i8, nI_1, nI_1]
      refine kk _ _ g1 ⟨by rw [show i + 1 - a = i - a + 1 by omega], (F.trans (fr_uI ⟨rfl, by omega⟩)).trans (fr_uI ⟨rfl, by omega⟩), ?_, hI_uIs, ?_, by omega, by rw [← hr, rn_t g1 g2], fun _ => ⟨10 * u + (cb X i - 48), ?_, by rw [← w2, rv_t g1 g2]⟩⟩
      · rw [hI_uIk (by decide), hI_uIk (by decide)]; exact i10
      · rw [hI_uIk (by decide), hI_uIk (by decide)]; exact i9
      · rw [hI_uIk (by decide), hI_uIs]
def TokM (h : Hp) (m : Nat) (X : TX) (a : Nat) : Prop := a ≤ X.2 ∧ hI h m 10 = nI a ∧ (tS X a ≠ 5 → hI h m 8 = nI (tE X a)) ∧ hI h m 9 = nI (mS (tS X a)) ∧ (tS X a = 2 → hI h m 11 = nI (tN X a)) ∧ (tS X a = 1 → hL h m 14 = lN (tW X a))
theorem ok_m_goesOn {b : Nat} (K : GK h m q X) (hb : b ≤ X.2) (h8 : hI h m 8 = nI b) (h9 : ¬ hI h m 9 = 6) : Ok (f_m_goesOn m h) (fun _ h' => Fr (SG m) h h' ∧ TokM h' m X (rn isS X b)) := by
  have hE := K.2.2.2.2.2.1
  unfold f_m_goesOn
  refine ok_gd K.1 (ok_lt (ok_f h9 ?_))
  refine ok_up X.2 (fun i st h' => st = m ∧ Fr (SG m) h h' ∧ hI h' m 8 = nI i ∧ rn isS X i = rn isS X b) ?_ FU b _ _ hb ⟨rfl, Fr.rf, h8, rfl⟩ (by show _ < 10000; omega)
  intro k i st h1 hi hI' kk
  obtain ⟨rfl, F, i8, hr⟩ := hI'
  have K1 := K.sg F
  have k1 := K1.1
  show Ok (b_m_goesOn_10 k st h1) _
  unfold b_m_goesOn_10
  refine ok_gd k1 (ok_lt (ok_gd k1 ?_))
  rw [i8]
  refine ok_bde (e_m_byteAt K1 hi) ?_
  have k8 := K1.2.2.2.2.2.2.2.1
  refine ok_ite (fun g => ?_) (fun g => ?_)
  · -- a space
    have gi : i < X.2 := by
      rcases Nat.lt_or_ge i X.2 with z | z
      · exact z
      · unfold mbv at g
        rw [if_neg (by omega)] at g
        exact absurd g (by decide)
    have g2 : cb X i = 32 := by
      unfold mbv at g
      rw [if_pos gi] at g
      exact (nI_eq (b := 32) (by have := (cb_f k8 gi).1; omega) (by decide)).mp g
    refine ok_gd k1 (ok_lt (ok_gd k1 (ok_lt ?_)))
    rw [i8, nI_1]
    exact kk _ _ gi ⟨rfl, F.trans (fr_uI ⟨rfl, by omega⟩), hI_uIs, by rw [← hr, rn_t gi (decide_eq_true g2)]⟩
  · have e1 : rn isS X i = i := by
      rcases Nat.lt_or_ge i X.2 with z | z
      · refine rn_f (decide_eq_false (fun q => g ?_))
        unfold mbv
        rw [if_pos z, q]
        rfl
      · exact rn_e z
    rw [← hr, e1]
    refine ok_gd k1 (ok_lt (ok_gd k1 (ok_lt (ok_gd k1 (ok_lt (ok_gd k1 (ok_lt (ok_gd k1 ?_))))))))
    have F4 : Fr (SG st) h (uI (uI h1 st 10 (hI h1 st 8)) st 9 0) := (F.trans (fr_uI ⟨rfl, by omega⟩)).trans (fr_uI ⟨rfl, by omega⟩)
    generalize hg : uI (uI h1 st 10 (hI h1 st 8)) st 9 0 = h4 at F4 ⊢
    have j8 : hI h4 st 8 = nI i := by rw [← hg, hI_uIk (by decide), hI_uIk (by decide)]; exact i8
    have j10 : hI h4 st 10 = nI i := by rw [← hg, hI_uIk (by decide), hI_uIs]; exact i8
    have j9 : hI h4 st 9 = 0 := by rw [← hg, hI_uIs]
    have K4 := K.sg F4
    clear hg
    have k1 := K4.1
    rw [j8]
    refine ok_bde (e_m_byteAt K4 hi) (ok_lt ?_)
    by_cases gi : i < X.2
    · have c := (cb_f k8 gi).1
      refine ok_f (by unfold mbv; rw [if_pos gi]; exact nI_nm1 (by omega)) (ok_bde (e_m_isLetter K4) (ok_ib (fun g1 => ?_) (fun g1 => ?_)))
      · rw [decide_eq_true gi, Bool.true_and] at g1
        refine ok_bde (e_m_isDigit K4) (ok_ib (fun g2 => ?_) (fun g2 => ?_))
        · rw [decide_eq_true gi, Bool.true_and] at g2
          have tSo := tS_O gi g1 g2
          have eb : mbv X i = nI (cb X i) := if_pos gi
          rw [eb]
          have go : ∀ n, tS X i = n → (n = 3 ∨ n = 4) → Ok (b_m_goesOn_269 st (nI (n + 1)) st h4) (fun _ h' => Fr (SG st) h h' ∧ TokM h' st X i) := by
            intro n hn h34
            unfold b_m_goesOn_269
            refine ok_gd k1 (ok_lt (ok_gd k1 (ok_lt (ok_gd k1 (ok_lt ?_)))))
            rw [hI_uIk (by decide), j8, nI_1]
            refine ok_ret ⟨(F4.trans (fr_uI ⟨rfl, by omega⟩)).trans (fr_uI ⟨rfl, by omega⟩), by omega, ?_, fun _ => ?_, ?_, fun e => by omega, fun e => by omega⟩
            · rw [hI_uIk (by decide), hI_uIk (by decide)]; exact j10
            · rw [hI_uIs, tSo.2]
            · rw [hI_uIk (by decide), hI_uIs, hn]
              unfold mS
              rw [if_neg (by omega)]
          unfold b_m_goesOn_257
          refine ok_ieq (b := 59) (by omega) (by decide) (fun e => ok_t (by rw [e]; rfl) (go 3 (by rw [tSo.1, if_pos e]) (Or.inl rfl))) (fun e => ?_)
          refine ok_ieq (b := 44) (by omega) (by decide) (fun e4 => ok_f (by rw [e4]; decide) (go 4 (by rw [tSo.1, if_neg e, if_pos e4]) (Or.inr rfl))) (fun e4 => ?_)
          have t5 : tS X i = 5 := by rw [tSo.1, if_neg e, if_neg e4]
          refine ok_ret ⟨F4, by omega, j10, fun z => absurd t5 z, by rw [t5]; exact j9, fun z => by omega, fun z => by omega⟩
        · rw [decide_eq_true gi, Bool.true_and] at g2
          refine ok_gd k1 (ok_lt (ok_mono (ok_m_whole (K4.sg (fr_uI ⟨rfl, by omega⟩)) gi (by rw [hI_uIk (by decide)]; exact j8) (by rw [hI_uIk (by decide)]; exact j10) (by rw [hI_uIk (by decide)]; exact j9) hI_uIs) ?_))
          intro _ h5 hx
          obtain ⟨F5, l10, l8, l9, l11⟩ := hx
          have eS := (tS_D gi g1 g2).1
          refine ⟨(F4.trans (fr_uI ⟨rfl, by omega⟩)).trans F5, by omega, l10, fun _ => ?_, ?_, fun e => l11 ?_, fun e => ?_⟩
          · rw [l8, (tS_D gi g1 g2).2]
          · rw [l9, eS]
            split <;> rfl
          · rw [eS] at e
            split at e
            · assumption
            · cases e
          · rw [eS] at e
            split at e <;> cases e
      · rw [decide_eq_true gi, Bool.true_and] at g1
        refine ok_gd k1 (ok_lt (ok_mono (ok_m_word (K4.sg (fr_uL ⟨rfl, by omega⟩)) gi j8 j10 j9 (by rw [hL_uLs, lN_0])) ?_))
        intro _ h5 hx
        obtain ⟨F5, l10, l8, l9, l14⟩ := hx
        have eS := (tS_L gi g1).1
        refine ⟨(F4.trans (fr_uL ⟨rfl, by omega⟩)).trans F5, by omega, l10, fun _ => ?_, ?_, fun e => ?_, fun e => l14 ?_⟩
        · rw [l8, (tS_L gi g1).2]
        · rw [l9, eS]
          split <;> rfl
        · rw [eS] at e
          split at e <;> cases e
        · rw [eS] at e
          split at e
          · assumption
          · cases e
    · have t0 := (tS_E (X := X) (i := i) (by omega)).1
      refine ok_t (by unfold mbv; rw [if_neg gi]) (ok_gd k1 (ok_lt (ok_ret ⟨F4.trans (fr_uI ⟨rfl, by omega⟩), by omega, ?_, fun _ => ?_, ?_, fun z => by omega, fun z => by omega⟩)))
      · rw [hI_uIk (by decide)]; exact j10
      · rw [hI_uIk (by decide), j8, (tS_E (by omega)).2]
      · rw [hI_uIs, t0]
        rfl
end GR
