/-! THE REFERENCE: its cells, what it holds, a wheel's going -/
/-- as Fm, by places: numbers changed only at the places S -/
def Fk (S : Nat → Nat → Prop) (h h' : Hp) : Prop := hN h' = hN h ∧ hS h' = hS h ∧ hB h' = hB h ∧ hR h' = hR h ∧ ∀ a k, ¬ S a k → hI h' a k = hI h a k ∧ hL h' a k = hL h a k
theorem Fk.rf {S : Nat → Nat → Prop} {h : Hp} : Fk S h h := ⟨rfl, rfl, rfl, rfl, fun _ _ _ => ⟨rfl, rfl⟩⟩
theorem Fk.trans {S : Nat → Nat → Prop} {h h1 h2 : Hp} (p : Fk S h h1) (q : Fk S h1 h2) : Fk S h h2 := ⟨q.1.trans p.1, q.2.1.trans p.2.1, q.2.2.1.trans p.2.2.1, q.2.2.2.1.trans p.2.2.2.1, fun a k ha => ⟨(q.2.2.2.2 a k ha).1.trans (p.2.2.2.2 a k ha).1, (q.2.2.2.2 a k ha).2.trans (p.2.2.2.2 a k ha).2⟩⟩
theorem Fk.mono {S S' : Nat → Nat → Prop} {h h1 : Hp} (p : Fk S h h1) (i : ∀ a k, S a k → S' a k) : Fk S' h h1 := ⟨p.1, p.2.1, p.2.2.1, p.2.2.2.1, fun a k ha => p.2.2.2.2 a k (fun q => ha (i a k q))⟩
theorem fk_uI {S : Nat → Nat → Prop} {h : Hp} {a k : Nat} {v : Int32} (ha : S a k) : Fk S h (uI h a k v) := ⟨rfl, rfl, rfl, rfl, fun b j hb => ⟨by rw [hI_uI, if_neg (fun e => hb (by rw [e.1, e.2]; exact ha))], rfl⟩⟩
/-- the reference's own cells -/
def LayM (h : Hp) (m : Nat) : Prop := hS h m = some (.inl 11) ∧ (hR h m 5 = some (m + 1) ∧ hR h m 15 = some (m + 2) ∧ hR h m 16 = some (m + 3) ∧ hR h m 17 = some (m + 4) ∧ hR h m 18 = some (m + 5) ∧ hR h m 22 = some (m + 6) ∧ hR h m 24 = some (m + 7) ∧ hR h m 25 = some (m + 8) ∧ hR h m 26 = some (m + 9) ∧ hR h m 28 = some (m + 10) ∧ hR h m 29 = some (m + 11) ∧ hR h m 32 = some (m + 12) ∧ hR h m 33 = some (m + 13)) ∧
  (hS h (m + 1) = some (.inr (2, 900)) ∧ hS h (m + 2) = some (.inr (0, 8)) ∧ hS h (m + 3) = some (.inr (0, 8)) ∧ hS h (m + 4) = some (.inr (0, 128)) ∧ hS h (m + 5) = some (.inr (0, 24)) ∧ hS h (m + 6) = some (.inr (0, 60)) ∧ hS h (m + 7) = some (.inr (0, 4)) ∧ hS h (m + 8) = some (.inr (0, 4)) ∧ hS h (m + 9) = some (.inr (0, 4)) ∧ hS h (m + 10) = some (.inr (0, 100)) ∧ hS h (m + 11) = some (.inr (0, 100)) ∧ hS h (m + 12) = some (.inr (0, 729)) ∧ hS h (m + 13) = some (.inr (0, 6)))
/-- the reference's Orrery at q: its cells -/
def LayQ (h : Hp) (q : Nat) : Prop := hS h q = some (.inl 12) ∧ (∀ i, i < 17 → hR h q (10 + i) = some (q + 1 + i)) ∧ (∀ i, i < 4 → hS h (q + 1 + i) = some (.inr (0, 5))) ∧ hS h (q + 5) = some (.inr (1, 5)) ∧ hS h (q + 6) = some (.inr (0, 20)) ∧ (∀ i, i < 6 → hS h (q + 7 + i) = some (.inr (0, 4))) ∧ hS h (q + 13) = some (.inr (0, 5)) ∧ hS h (q + 14) = some (.inr (0, 5)) ∧ hS h (q + 15) = some (.inr (1, 13)) ∧ hS h (q + 16) = some (.inr (0, 13)) ∧ hS h (q + 17) = some (.inr (0, 13))
def bt (x : Int32) (k : Nat) : Bool := decide (((x >>> (nI k &&& 31)) &&& 1) = 1)
def sumN (f : Nat → Nat) : Nat → Nat
  | 0 => 0
  | n + 1 => sumN f n + f n
def RepQ (h : Hp) (q : Nat) (D : DD) : Prop := LayQ h q ∧ (hI h q 0 = nI (dOil D) ∧ hI h q 1 = nI (dSl D) ∧ hI h q 2 = nI (dW D) ∧ hI h q 3 = nI (sumN (dGc D) (dW D)) ∧ hI h q 4 = nI (dF D) ∧ hI h q 5 = nI (dN D) ∧ hI h q 6 = nI (sumN (fun f => if dEv D f = 0 then 0 else 1) (dF D)) ∧ hI h q 7 = xI (dSu D) ∧ hI h q 8 = nI (dSe D)) ∧
  (∀ w, w < dW D → hI h (q + 1) w = nI (dK D w) ∧ hI h (q + 2) w = nI (dT D w) ∧ hI h (q + 3) w = nI (dB D w) ∧ hI h (q + 4) w = nI (dA D w) ∧ hL h (q + 5) w = dG D w) ∧
  (∀ f w, f < dF D → w < dW D → bt (hI h (q + 7) f) w = decide (dX D f w ≠ 0) ∧ (dX D f w ≠ 0 → hI h (q + 6) (5 * f + w) = nI (dX D f w - 1))) ∧
  (∀ f, f < dF D → hI h (q + 8) f = nI (dEv D f) ∧ (0 < dEv D f → hI h (q + 9) f = nI (dFr D f))) ∧ (∀ k, k < dN D → hI h (q + 10) k = nI (dTk D k) ∧ hI h (q + 11) k = nI (dWo D k) ∧ hI h (q + 12) k = nI (dTi D k)) ∧
  (∀ k, k < dSe D → hI h (q + 13) k = nI (dSd D k) ∧ hI h (q + 14) k = nI (dSj D k))
/-- the reference's row: 0 .. 4 the teeth, 5 day, 6 oil, 7 jerks -/
def mx (k : Nat) : Nat := if k < 5 then 3 + k else k - 5
/-- a tooth that is no number below 2 ^ 32 is of no wheel: the row may hold anything there -/
def xv (V : Nat → Nat) (k : Nat) (e : Int32) : Int32 := if k < 5 ∧ 2 ^ 32 ≤ V (3 + k) then e else nI (V (mx k))
def RepX (h : Hp) (a : Nat) (V : Nat → Nat) : Prop := hS h a = some (.inr (0, 8)) ∧ ∀ k, k < 8 → hI h a k = xv V k (hI h a k)
theorem RepQ.fk {S : Nat → Nat → Prop} {h h' : Hp} {q : Nat} {D : DD} (R : RepQ h q D) (F : Fk S h h') (hS' : ∀ i k, i < 15 → ¬ S (q + i) k) : RepQ h' q D := by
  obtain ⟨⟨l1, l2, l3, l4, l5, l6, l7, l8, l9, l10⟩, r1, r2, r3, r4, r5, r6⟩ := R
  obtain ⟨f1, f2, f3, f4, f5⟩ := F
  have ii : ∀ i, i < 15 → hI h' (q + i) = hI h (q + i) := fun i hi => funext fun k => (f5 _ k (hS' i k hi)).1
  have i0 : hI h' q = hI h q := ii 0 (by decide)
  have iL : ∀ i, i < 15 → hL h' (q + i) = hL h (q + i) := fun i hi => funext fun k => (f5 _ k (hS' i k hi)).2
  refine ⟨?_, ?_, fun w hw => ?_, fun f w hf hw => ?_, fun f hf => ?_, fun k hk => ?_, fun k hk => ?_⟩
  · unfold LayQ
    rw [f2, f4]
    exact ⟨l1, l2, l3, l4, l5, l6, l7, l8, l9, l10⟩
  · rw [i0]
    exact r1
  · rw [ii 1 (by decide), ii 2 (by decide), ii 3 (by decide), ii 4 (by decide), iL 5 (by decide)]
    exact r2 w hw
  · rw [ii 6 (by decide), ii 7 (by decide)]
    exact r3 f w hf hw
  · rw [ii 8 (by decide), ii 9 (by decide)]
    exact r4 f hf
  · rw [ii 10 (by decide), ii 11 (by decide), ii 12 (by decide)]
    exact r5 k hk
  · rw [ii 13 (by decide), ii 14 (by decide)]
    exact r6 k hk
section MQ
variable {h : Hp} {m q : Nat} {D : DD} {V : Nat → Nat}
theorem e_m_way (hm : hS h m = some (.inl 11)) (hq : hR h m 3 = some q) (R : RepQ h q D) (W : Wf D) {w : Nat} (hw : w < dW D) (b : Nat) : f_m_way m (nI w) (nI b) h = some (sb (dfw D w) b, h) := by
  have w1 := W.1
  have hT := W.2.2.2.2.2.2.2.1 w hw
  refine ok_eq ?_
  unfold f_m_way
  refine ok_gd hm (ok_bR hq (ok_gd R.1.1 (ok_bR (R.1.2.1 0 (by decide)) (ok_gd (ai_of (R.1.2.2.1 0 (by decide)) (by omega) (by decide)) (ok_lt ?_)))))
  have e : hI h (q + 1 + 0) (nI w).toNatClampNeg = nI (dK D w) := by
    rw [nI_clamp (by omega)]
    exact (R.2.2.1 w hw).1
  rw [e]
  refine ok_ite (fun c => ok_ret ⟨?_, rfl⟩) (fun c => ok_ret ⟨?_, rfl⟩)
  · have e2 : dK D w = 1 := (nI_eq (by omega) (by omega)).mp c
    have e3 : dfw D w = false := decide_eq_false (fun g => g e2)
    rw [e3]
    rfl
  · have e3 : dfw D w = true := decide_eq_true (fun g => c (by rw [g]; rfl))
    rw [e3]
    rfl
theorem e_m_isGoing (hm : hS h m = some (.inl 11)) (hq : hR h m 3 = some q) (R : RepQ h q D) (W : Wf D) {w : Nat} (hw : w < dW D) {d o : Nat} (hd : d < 2 ^ 31) (ho : o < 2 ^ 31) : f_m_isGoing m (nI w) (nI d) (nI o) h = some (bI (gon (dK D w) d o), h) := by
  have w1 := W.1
  have hT := W.2.2.2.2.2.2.2.1 w hw
  have a1 : ai h (q + 1 + 0) 0 (nI w) := ai_of (R.1.2.2.1 0 (by decide)) (by omega) (by decide)
  have e : hI h (q + 1 + 0) (nI w).toNatClampNeg = nI (dK D w) := by
    rw [nI_clamp (by omega)]
    exact (R.2.2.1 w hw).1
  refine ok_eq ?_
  unfold f_m_isGoing b_m_isGoing_44
  refine ok_gd hm (ok_bR hq (ok_gd R.1.1 (ok_bR (R.1.2.1 0 (by decide)) (ok_gd a1 (ok_lt ?_)))))
  rw [e]
  unfold gon
  refine ok_ite (fun c => ?_) (fun c => ?_)
  · have e2 : dK D w = 2 := (nI_eq (by omega) (by omega)).mp c
    rw [if_pos e2]
    refine ok_ite (fun c2 => ok_gd zb0 (ok_ret ⟨?_, rfl⟩)) (fun c2 => ok_gd zb1 (ok_ret ⟨?_, rfl⟩))
    · rw [decide_eq_false (fun g => nI_nle g ho c2)]
      rfl
    · have : 0 < o := by
        rcases Nat.eq_zero_or_pos o with g | g
        · exact absurd (by rw [g]; decide) c2
        · exact g
      rw [decide_eq_true this]
      rfl
  · have e2 : ¬ dK D w = 2 := fun g => c (by rw [g]; rfl)
    rw [if_neg e2]
    refine ok_gd hm (ok_bR hq (ok_gd R.1.1 (ok_bR (R.1.2.1 0 (by decide)) (ok_gd a1 (ok_lt ?_)))))
    rw [e]
    refine ok_ite (fun c => ?_) (fun c => ?_)
    · have e3 : dK D w = 3 := (nI_eq (by omega) (by omega)).mp c
      rw [if_pos e3]
      refine ok_gd (by decide) ?_
      have e4 : irm (nI d) 2 = nI (d % 2) := irm_nI (d := 2) hd (by decide) (by decide)
      rw [e4]
      refine ok_ite (fun c2 => ok_gd zb1 (ok_ret ⟨?_, rfl⟩)) (fun c2 => ok_gd zb0 (ok_ret ⟨?_, rfl⟩))
      · have g : d % 2 = 0 := (nI_eq (b := 0) (by omega) (by decide)).mp c2
        rw [decide_eq_true g]
        rfl
      · rw [decide_eq_false (fun g => c2 (by rw [g]; decide))]
        rfl
    · have e3 : ¬ dK D w = 3 := fun g => c (by rw [g]; rfl)
      rw [if_neg e3]
      exact ok_gd zb1 (ok_ret ⟨rfl, rfl⟩)
theorem e_m_goesOnce (hm : hS h m = some (.inl 11)) (hq : hR h m 3 = some q) (R : RepQ h q D) (W : Wf D) {w t : Nat} (hw : w < dW D) (ht : t < dT D w) : f_m_goesOnce m (nI w) (nI t) h = some (nI (tp D w (dfw D w) (dB D w) t), uI h m 21 (bI (jk D w (dfw D w) (dB D w) t))) := by
  have w1 := W.1
  have hT := W.2.2.2.2.2.2.2.1 w hw
  have h5 : w < 5 := by omega
  have c1 : (nI w).toNatClampNeg = w := nI_clamp (by omega)
  have rr := R.2.2.1 w hw
  refine ok_eq ?_
  unfold f_m_goesOnce
  refine ok_gd hm (ok_bR hq (ok_gd R.1.1 (ok_bR (R.1.2.1 1 (by decide)) (ok_gd (ai_of (R.1.2.2.1 1 (by decide)) h5 (by decide)) (ok_lt ?_)))))
  refine ok_gd hm (ok_bR hq (ok_gd R.1.1 (ok_bR (R.1.2.1 4 (by decide)) (ok_gd (ai_of R.1.2.2.2.1 h5 (by decide)) (ok_lt ?_)))))
  refine ok_gd hm (ok_bR hq (ok_gd R.1.1 (ok_bR (R.1.2.1 2 (by decide)) (ok_gd (ai_of (R.1.2.2.1 2 (by decide)) h5 (by decide)) (ok_lt (ok_gd hm ?_))))))
  rw [c1]
  have g1 : hI h (q + 1 + 1) w = nI (dT D w) := rr.2.1
  have g2 : hI h (q + 1 + 2) w = nI (dB D w) := rr.2.2.1
  have g3 : hL h (q + 1 + 4) w = dG D w := rr.2.2.2.2
  rw [g1, g2, g3]
  refine ok_bde (e_m_way hm hq R W hw (dB D w)) (ok_gd hm ?_)
  exact ok_bde (e_m_goes hm (by omega) ht (by omega) (by omega) (dfw D w) (hT.2.2.2.2.2.2.2.1 _ _ (nx_lt ht (by omega)))) (ok_ret ⟨rfl, rfl⟩)
end MQ
