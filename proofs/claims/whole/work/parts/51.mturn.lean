/-! a turn and a feast at the reference -/
theorem mx_t {w : Nat} (h : w < 5) : mx w = 3 + w := if_pos h
theorem mx_inj {j k : Nat} (hj : j < 8) (hk : k < 8) (h : j ≠ k) : mx j ≠ mx k := by
  unfold mx
  split <;> split <;> omega
theorem xv_c {V V' : Nat → Nat} {k : Nat} {e : Int32} (h1 : k < 5 → V' (3 + k) = V (3 + k)) (h2 : V' (mx k) = V (mx k)) : xv V k e = xv V' k e := by
  unfold xv
  rw [h2]
  by_cases q : k < 5
  · rw [h1 q]
  · rw [if_neg (fun z => q z.1), if_neg (fun z => q z.1)]
theorem xv_t {V : Nat → Nat} {w : Nat} {e : Int32} (hw : w < 5) (hb : V (3 + w) < 2 ^ 32) : xv V w e = nI (V (3 + w)) := by
  unfold xv
  rw [if_neg (fun z => by omega), mx_t hw]
theorem RepX.up {h : Hp} {r : Nat} {V : Nat → Nat} (v : RepX h r V) {k : Nat} (hk : k < 8) (x : Nat) : RepX (uI h r k (nI x)) r (upV V (mx k) x) := by
  refine ⟨v.1, fun j hj => ?_⟩
  by_cases q : j = k
  · rw [q, hI_uIs]
    unfold xv
    split
    · rfl
    · rw [upV, if_pos rfl]
  · rw [hI_uIk q]
    refine (v.2 j hj).trans ?_
    refine xv_c (fun h5 => ?_) ?_
    · have g := mx_inj hj hk q
      rw [mx_t h5] at g
      rw [upV, if_neg g]
    · rw [upV, if_neg (mx_inj hj hk q)]
theorem RepX.ext {h : Hp} {r : Nat} {V V' : Nat → Nat} (v : RepX h r V) (e : ∀ k, k < 8 → V k = V' k) : RepX h r V' := ⟨v.1, fun k hk => (v.2 k hk).trans (xv_c (fun h5 => (e (3 + k) (by omega)).symm) (e (mx k) (by unfold mx; split <;> omega)).symm)⟩
theorem RepX.fk {S : Nat → Nat → Prop} {h h' : Hp} {r : Nat} {V : Nat → Nat} (v : RepX h r V) (F : Fk S h h') (hS' : ∀ k, ¬ S r k) : RepX h' r V := ⟨by rw [F.2.1]; exact v.1, fun k hk => by rw [(F.2.2.2.2 r k (hS' k)).1]; exact v.2 k hk⟩
theorem RepX.t {h : Hp} {r : Nat} {V : Nat → Nat} (v : RepX h r V) {w : Nat} (hw : w < 5) (hb : V (3 + w) < 2 ^ 32) : hI h r w = nI (V (3 + w)) := (v.2 w (by omega)).trans (xv_t hw hb)
theorem dir_t {D : DD} {w : Nat} : dir D true w = dfw D w := by
  unfold dir
  cases dfw D w <;> rfl
theorem dir_f {D : DD} {w : Nat} : dir D false w = !dfw D w := by
  unfold dir
  cases dfw D w <;> rfl
theorem sb_neg (fw : Bool) (b : Nat) : -sb fw b = sb (!fw) b := by
  cases fw with
  | true => rfl
  | false =>
    show - -nI b = nI b
    exact Int32.neg_neg
theorem mvV_wf {D : DD} {s : Bool} {V : Nat → Nat} {i : Nat} (W : Wf D) (hv : WfV D V) : WfV D (mvV D s V i) := by
  refine ⟨by rw [mvV_lo (by decide)]; exact hv.1, by rw [mvV_lo (by decide)]; exact hv.2.1, by rw [mvV_lo (by decide)]; exact hv.2.2.1, fun w hw => ?_⟩
  have hTw := W.2.2.2.2.2.2.2.1 w hw
  by_cases q2 : w < i
  · rw [mvV_at q2]
    unfold mt
    split
    · exact tp_lt (by omega) (hv.2.2.2 w hw) (by omega)
    · exact hv.2.2.2 w hw
  · rw [mvV_hi (by omega)]
    exact hv.2.2.2 w hw
def tnX (D : DD) (V : Nat → Nat) : Nat → Nat := upV (upV (mvV D true V (dW D)) 0 (V 0 + 1)) 1 (V 1 - 1)
def bkX (D : DD) (V : Nat → Nat) : Nat → Nat := mvV D false (upV V 0 (V 0 - 1)) (dW D)
/-- what the reference's turns write: the trial row and whether it jerked -/
def sX (m : Nat) (a k : Nat) : Prop := (a = m ∧ k = 21) ∨ a = m + 3
section MT
variable {h : Hp} {m q : Nat} {D : DD} {V : Nat → Nat}
theorem e_m_bit (x : Int32) (k : Nat) : f_m_bit x (nI k) h = some (bI (bt x k), h) := by
  unfold f_m_bit bt
  by_cases c : ((x >>> (nI k &&& 31)) &&& 1) = 1
  · rw [if_pos c, decide_eq_true c, gd_pos zb1]
    rfl
  · rw [if_neg c, decide_eq_false c, gd_pos zb0]
    rfl
theorem nI_i5' (f w : Nat) : 5 * nI f + nI w = nI (5 * f + w) := by
  show nI 5 * nI f + nI w = _
  rw [pk_mul, nI_add]
theorem e_m_isOn (hm : LayM h m) (hq : hR h m 3 = some q) (R : RepQ h q D) (W : Wf D) (v : RepX h (m + 3) V) (hv : WfV D V) {f : Nat} (hf : f < dF D) : f_m_isOn m (nI f) h = some (bI (isOnB D V f), h) := by
  obtain ⟨w1, w2, -, -, -, -, -, w8, w9, -⟩ := W
  refine ok_eq ?_
  unfold f_m_isOn
  refine ok_lt (ok_up (dW D) (fun i s h' => s = (m, nI f, nI i) ∧ h' = h ∧ ∀ u, u < i → dX D f u = 0 ∨ dX D f u = V (3 + u) + 1) ?_ FU 0 _ _ (Nat.zero_le _) ⟨rfl, rfl, fun u hu => absurd hu (Nat.not_lt_zero _)⟩ (by show _ < 10000; omega))
  intro k i s h' hi hI kk
  obtain ⟨rfl, rfl, hu⟩ := hI
  show Ok (b_m_isOn_2 k m (nI f) (nI i) h') _
  unfold b_m_isOn_2 b_m_isOn_53
  refine ok_gd hm.1 (ok_bR hq (ok_gd R.1.1 (ok_lt ?_)))
  rw [R.2.1.2.2.1]
  refine ok_ite (fun c => ?_) (fun c => ?_)
  · have e : i = dW D := by
      have := (nI_leI (by omega) (by omega)).mp c
      omega
    subst e
    refine ok_gd zb1 (ok_ret ⟨?_, rfl⟩)
    unfold isOnB
    rw [decide_eq_true hu]
    rfl
  · have hl : i < dW D := by
      rcases Nat.lt_or_ge i (dW D) with e | e
      · exact e
      · exact absurd (nI_le e (by omega)) c
    have hT := w8 i hl
    have hX := w9 f i hf hl
    have hV := hv.2.2.2 i hl
    have rr := R.2.2.2.1 f i hf hl
    have go : (dX D f i = 0 ∨ dX D f i = V (3 + i) + 1) → Ok (k (m, nI f, nI i + 1) h') (fun r_1 h'_1 => r_1 = bI (isOnB D V f) ∧ h'_1 = h') := by
      intro hc
      refine kk _ _ hl ⟨by rw [nI_1], rfl, fun u hu' => ?_⟩
      by_cases e : u = i
      · rw [e]
        exact hc
      · exact hu u (by omega)
    refine ok_gd hm.1 (ok_bR hq (ok_gd R.1.1 (ok_bR (R.1.2.1 6 (by decide)) (ok_gd (ai_of (R.1.2.2.2.2.2.1 0 (by decide)) (show f < 4 by omega) (by decide)) (ok_lt ?_)))))
    have e7 : hI h' (q + 1 + 6) (nI f).toNatClampNeg = hI h' (q + 7) f := by rw [nI_clamp (by omega)]
    rw [e7]
    refine ok_bde (e_m_bit _ i) (ok_ite (fun c1 => go (Or.inl ?_)) (fun c1 => ?_))
    · have g := (bI_z _).mp c1
      rw [rr.1] at g
      have g2 := of_decide_eq_false g
      omega
    · have h0 : dX D f i ≠ 0 := fun e => c1 ((bI_z _).mpr (by rw [rr.1]; exact decide_eq_false (fun g => g e)))
      refine ok_gd hm.1 (ok_bR hm.2.1.2.2.1 (ok_gd (ai_of v.1 (show i < 8 by omega) (by decide)) (ok_lt (ok_gd hm.1 (ok_bR hq (ok_gd R.1.1 (ok_bR (R.1.2.1 5 (by decide)) ?_)))))))
      rw [nI_i5']
      refine ok_gd (ai_of R.1.2.2.2.2.1 (show 5 * f + i < 20 by omega) (by decide)) (ok_lt ?_)
      have e6 : hI h' (q + 1 + 5) (nI (5 * f + i)).toNatClampNeg = nI (dX D f i - 1) := by
        rw [nI_clamp (by omega)]
        exact rr.2 h0
      rw [e6, nI_clamp (n := i) (by omega), v.t (by omega) (by omega)]
      refine ok_ite (fun q2 => go (Or.inr ?_)) (fun q2 => ok_gd zb0 (ok_ret ⟨?_, rfl⟩))
      · have := (nI_eq (by omega) (by omega)).mp q2
        omega
      · have hno : ¬ ∀ w, w < dW D → dX D f w = 0 ∨ dX D f w = V (3 + w) + 1 := fun e => by
          rcases e i hl with e1 | e1
          · exact h0 e1
          · exact q2 (by rw [e1]; rfl)
        unfold isOnB
        rw [decide_eq_false hno]
        rfl
theorem LayM.fk {S : Nat → Nat → Prop} {h h' : Hp} (hm : LayM h m) (F : Fk S h h') : LayM h' m := by
  unfold LayM
  rw [F.2.1, F.2.2.2.1]
  exact hm
theorem ok_m_aTurn (hm : LayM h m) (hq : hR h m 3 = some q) (hqm : m + 14 ≤ q) (R : RepQ h q D) (W : Wf D) (v : RepX h (m + 3) V) (hv : WfV D V) : Ok (f_m_aTurn m h) (fun x h' => x = nI (tnJ D V) ∧ Fk (sX m) h h' ∧ RepX h' (m + 3) (tnX D V)) := by
  obtain ⟨w1, w2, -, -, -, -, -, w8, w9, -⟩ := id W
  unfold f_m_aTurn
  refine ok_lt (ok_lt (ok_up (dW D) (fun i st h' => st = (m, nI (mvJ D true V i), nI i) ∧ Fk (sX m) h h' ∧ RepX h' (m + 3) (mvV D true V i)) ?_ FU 0 _ _ (Nat.zero_le _) ⟨rfl, Fk.rf, v.ext (fun k _ => (if_neg (by omega)).symm)⟩ (by show _ < 10000; omega)))
  intro k i st h' hi hI kk
  obtain ⟨rfl, hF, v'⟩ := hI
  have hm' := hm.fk hF
  have hq' : hR h' m 3 = some q := by rw [hF.2.2.2.1]; exact hq
  have R' : RepQ h' q D := R.fk hF (fun i k hi e => by rcases e with e | e <;> omega)
  show Ok (b_m_aTurn_4 k m (nI (mvJ D true V i)) (nI i) h') _
  unfold b_m_aTurn_4 b_m_aTurn_69 b_m_aTurn_71
  have e5 : (5 : Int32).toNatClampNeg = 5 := by decide
  have e6 : (6 : Int32).toNatClampNeg = 6 := by decide
  rw [e5, e6]
  refine ok_gd hm'.1 (ok_bR hq' (ok_gd R'.1.1 (ok_lt ?_)))
  rw [R'.2.1.2.2.1]
  have hJ := mvJ_le (D := D) (s := true) (V := V) (i := i)
  have b0 : mvV D true V i 0 = V 0 := mvV_lo (by decide)
  have b1 : mvV D true V i 1 = V 1 := mvV_lo (by decide)
  have g5 : hI h' (m + 3) 5 = nI (V 0) := by rw [v'.2 5 (by decide)]; show nI (mvV D true V i 0) = _; rw [b0]
  have g6 : hI h' (m + 3) 6 = nI (V 1) := by rw [v'.2 6 (by decide)]; show nI (mvV D true V i 1) = _; rw [b1]
  have a5 : ai h' (m + 3) 0 5 := ai_of (n := 5) v'.1 (by decide) (by decide)
  have a6 : ai h' (m + 3) 0 6 := ai_of (n := 6) v'.1 (by decide) (by decide)
  have hv2 := hv.2.1
  have hv1 := hv.1
  refine ok_ite (fun c => ?_) (fun c => ?_)
  · have e : i = dW D := by
      have := (nI_leI (by omega) (by omega)).mp c
      omega
    subst e
    refine ok_gd hm'.1 (ok_bR hm'.2.1.2.2.1 (ok_gd a5 (ok_lt (ok_gd a5 (ok_lt ?_)))))
    rw [g5, nI_1]
    have v2 := v'.up (k := 5) (by decide) (V 0 + 1)
    have g6' : hI (uI h' (m + 3) 5 (nI (V 0 + 1))) (m + 3) 6 = nI (V 1) := by rw [hI_uIk (by decide)]; exact g6
    have hF2 : Fk (sX m) h (uI h' (m + 3) 5 (nI (V 0 + 1))) := hF.trans (fk_uI (Or.inr rfl))
    refine ok_gd hm'.1 (ok_bR hm'.2.1.2.2.1 (ok_gd a6 (ok_lt (ok_gd hm'.1 (ok_bR hm'.2.1.2.2.1 (ok_gd a6 (ok_lt ?_)))))))
    rw [g6']
    refine ok_ite (fun c2 => ?_) (fun c2 => ?_)
    · have hz : V 1 = 0 := by
        rcases Nat.eq_zero_or_pos (V 1) with e | e
        · exact e
        · exact absurd c2 (nI_nle e (by omega))
      have e7 : nI (V 1) - 0 = nI (V 1 - 1) := by rw [hz]; decide
      rw [e7]
      exact ok_gd a6 (ok_lt (ok_ret ⟨rfl, hF2.trans (fk_uI (Or.inr rfl)), v2.up (k := 6) (by decide) (V 1 - 1)⟩))
    · have hp : 0 < V 1 := by
        rcases Nat.eq_zero_or_pos (V 1) with e | e
        · exact absurd (by rw [e]; decide) c2
        · exact e
      have e7 : nI (V 1) - 1 = nI (V 1 - 1) := by
        have e2 := nI_pred (V 1 - 1)
        rw [show V 1 - 1 + 1 = V 1 by omega] at e2
        exact e2
      rw [e7]
      exact ok_gd a6 (ok_lt (ok_ret ⟨rfl, hF2.trans (fk_uI (Or.inr rfl)), v2.up (k := 6) (by decide) (V 1 - 1)⟩))
  · have hl : i < dW D := by
      rcases Nat.lt_or_ge i (dW D) with e | e
      · exact e
      · exact absurd (nI_le e (by omega)) c
    have h5 : i < 5 := by omega
    have b3 : mvV D true V i (3 + i) = V (3 + i) := mvV_hi (Nat.le_refl _)
    refine ok_gd hm'.1 (ok_bR hm'.2.1.2.2.1 (ok_gd a5 (ok_lt (ok_gd hm'.1 (ok_bR hm'.2.1.2.2.1 (ok_gd a6 (ok_lt (ok_gd hm'.1 ?_))))))))
    rw [g5, g6]
    refine ok_bde (e_m_isGoing hm'.1 hq' R' W hl (by omega) (by omega)) (ok_ite (fun q1 => ?_) (fun q1 => ?_))
    · have hg : gnB D V i = false := (bI_z _).mp q1
      refine kk _ _ hl ⟨?_, hF, v'.ext (fun k _ => ?_)⟩
      · rw [nI_1]
        show _ = (m, nI (mvJ D true V i + mj D true V i), _)
        unfold mj
        rw [if_neg (by rw [hg]; simp)]
        rfl
      · rw [mvV_s]
        by_cases q2 : k = 3 + i
        · rw [if_pos q2, q2, b3]
          unfold mt
          rw [if_neg (by rw [hg]; simp)]
        · rw [if_neg q2]
    · have hg : gnB D V i = true := by
        cases e : gnB D V i with
        | true => rfl
        | false => exact absurd ((bI_z _).mpr e) q1
      have ai1 : ai h' (m + 3) 0 (nI i) := ai_of v'.1 (show i < 8 by omega) (by decide)
      refine ok_gd hm'.1 (ok_bR hm'.2.1.2.2.1 (ok_gd hm'.1 (ok_bR hm'.2.1.2.2.1 (ok_gd ai1 (ok_lt (ok_gd hm'.1 ?_))))))
      have hVb := hv.2.2.2 i hl
      have hTb := (W.2.2.2.2.2.2.2.1 i hl).2.2.1
      rw [nI_clamp (n := i) (by omega), v'.t h5 (by rw [b3]; omega), b3]
      refine ok_bde (e_m_goesOnce hm'.1 hq' R' W hl (hv.2.2.2 i hl)) (ok_gd ai1 (ok_lt (ok_gd hm'.1 (ok_lt ?_))))
      have ej : hI (uI (uI h' m 21 (bI (jk D i (dfw D i) (dB D i) (V (3 + i))))) (m + 3) i (nI (tp D i (dfw D i) (dB D i) (V (3 + i))))) m 21 = bI (jk D i (dfw D i) (dB D i) (V (3 + i))) := by
        rw [hI_uIa (by omega), hI_uIs]
      rw [ej]
      have hF1 : Fk (sX m) h (uI h' m 21 (bI (jk D i (dfw D i) (dB D i) (V (3 + i))))) := hF.trans (fk_uI (Or.inl ⟨rfl, rfl⟩))
      have hF2 : Fk (sX m) h (uI (uI h' m 21 (bI (jk D i (dfw D i) (dB D i) (V (3 + i))))) (m + 3) i (nI (tp D i (dfw D i) (dB D i) (V (3 + i))))) := hF1.trans (fk_uI (Or.inr rfl))
      have v1 : RepX (uI h' m 21 (bI (jk D i (dfw D i) (dB D i) (V (3 + i))))) (m + 3) (mvV D true V i) := v'.fk (fk_uI (S := fun a k => a = m ∧ k = 21) ⟨rfl, rfl⟩) (fun k e => by omega)
      have v2 : RepX (uI (uI h' m 21 (bI (jk D i (dfw D i) (dB D i) (V (3 + i))))) (m + 3) i (nI (tp D i (dfw D i) (dB D i) (V (3 + i))))) (m + 3) (mvV D true V (i + 1)) := (v1.up (k := i) (by omega) _).ext (fun k _ => by
        rw [mvV_s, mx_t h5]
        unfold upV
        by_cases q2 : k = 3 + i
        · rw [if_pos q2, if_pos q2]
          unfold mt
          rw [if_pos hg, dir_t]
        · rw [if_neg q2, if_neg q2])
      refine ok_ite (fun q3 => ok_lt (kk _ _ hl ⟨?_, hF2, v2⟩)) (fun q3 => ok_lt (kk _ _ hl ⟨?_, hF2, v2⟩))
      · rw [nI_1]
        show _ = (m, nI (mvJ D true V i + mj D true V i), _)
        unfold mj
        rw [dir_t, if_neg (by rw [(bI_z _).mp q3]; simp), Int32.add_zero]
        rfl
      · have hj : jk D i (dfw D i) (dB D i) (V (3 + i)) = true := by
          cases e : jk D i (dfw D i) (dB D i) (V (3 + i)) with
          | true => rfl
          | false => exact absurd ((bI_z _).mpr e) q3
        rw [nI_1, nI_1]
        show _ = (m, nI (mvJ D true V i + mj D true V i), _)
        unfold mj
        rw [dir_t, if_pos ⟨hg, hj⟩]
end MT
