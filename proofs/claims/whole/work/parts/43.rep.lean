/-! WHAT A TEXT TELLS, as numbers, and how both sides hold it -/
theorem ok_eq {α : Type} {F : Option (α × Hp)} {a : α} {b : Hp} (k : Ok F (fun r h' => r = a ∧ h' = b)) : F = some (a, b) := by
  obtain ⟨r, h', e, rfl, rfl⟩ := k
  exact e
/-- a loop whose count goes up to N -/
theorem ok_up {σ α : Type} {step : (σ → Hp → Option (α × Hp)) → σ → Hp → Option (α × Hp)} {Q : α → Hp → Prop} (N : Nat) (I : Nat → σ → Hp → Prop) (hs : ∀ k i s h, i ≤ N → I i s h → (∀ s' h', i < N → I (i + 1) s' h' → Ok (k s' h') Q) → Ok (step k s h) Q) (n : Nat) : ∀ i s h, i ≤ N → I i s h → N - i < n → Ok (lp step n s h) Q := by
  induction n with
  | zero => intro i s h _ _ q; exact absurd q (Nat.not_lt_zero _)
  | succ n ih => intro i s h hi hI q; exact hs _ i s h hi hI (fun s' h' hl hI' => ih (i + 1) s' h' hl hI' (by omega))
abbrev DD : Type := (Nat → Nat → Nat) × (Nat → Int64)
def dW (D : DD) : Nat := D.1 0 0
def dF (D : DD) : Nat := D.1 0 1
def dN (D : DD) : Nat := D.1 0 2
def dOil (D : DD) : Nat := D.1 0 3
def dSl (D : DD) : Nat := D.1 0 4
/-- the suspect: 0 none, else its number and 1 -/
def dSu (D : DD) : Nat := D.1 0 5
def dSe (D : DD) : Nat := D.1 0 6
def dK (D : DD) (w : Nat) : Nat := D.1 1 w
def dT (D : DD) (w : Nat) : Nat := D.1 2 w
def dB (D : DD) (w : Nat) : Nat := D.1 3 w
def dA (D : DD) (w : Nat) : Nat := D.1 4 w
def dGc (D : DD) (w : Nat) : Nat := D.1 5 w
/-- the tooth that feast f wants of wheel w: 0 none, else the tooth and 1 -/
def dX (D : DD) (f w : Nat) : Nat := D.1 (6 + f) w
def dTk (D : DD) (k : Nat) : Nat := D.1 10 k
def dWo (D : DD) (k : Nat) : Nat := D.1 11 k
def dTi (D : DD) (k : Nat) : Nat := D.1 12 k
def dEv (D : DD) (f : Nat) : Nat := D.1 13 f
def dFr (D : DD) (f : Nat) : Nat := D.1 14 f
def dSd (D : DD) (k : Nat) : Nat := D.1 15 k
def dSj (D : DD) (k : Nat) : Nat := D.1 16 k
def dG (D : DD) (w : Nat) : Int64 := D.2 w
/-- forward: all but a moon -/
def dfw (D : DD) (w : Nat) : Bool := decide (dK D w ≠ 1)
def xI (n : Nat) : Int32 := if n = 0 then -1 else nI (n - 1)
/-- what is so of all that is told -/
def WfW (D : DD) : Prop := ∀ w, w < dW D → dK D w ≤ 3 ∧ 4 ≤ dT D w ∧ dT D w ≤ 60 ∧ 1 ≤ dB D w ∧ dB D w ≤ 9 ∧ dB D w < dT D w ∧ dA D w < dT D w ∧ (∀ t fw, t < dT D w → gb (dG D w) (rs (dT D w) (dG D w) fw 2 t) = false) ∧ dGc D w ≤ 2
def Wf (D : DD) : Prop := dW D ≤ 5 ∧ dF D ≤ 4 ∧ dN D ≤ 4 ∧ dSe D ≤ 5 ∧ dOil D ≤ 99 ∧ dSl D ≤ 100 ∧ dSu D ≤ dW D ∧ WfW D ∧ (∀ f w, f < dF D → w < dW D → dX D f w ≤ dT D w) ∧ (∀ f w, f < dF D → dW D ≤ w → dX D f w = 0) ∧ (∀ k, k < dN D → 1 ≤ dTk D k ∧ dTk D k ≤ 99 ∧ dWo D k ≤ 99 ∧ dTi D k < dF D) ∧ (∀ f, f < dF D → dEv D f ≤ 400 ∧ dFr D f ≤ 400) ∧ (∀ k, k < dSe D → 1 ≤ dSd D k ∧ dSd D k ≤ 99 ∧ dSj D k ≤ 1)
/-- the class's Orrery at o: its cells -/
def LayO (h : Hp) (o : Nat) : Prop := hS h o = some (.inl 2) ∧ (hR h o 3 = some (o + 1) ∧ hR h o 5 = some (o + 2) ∧ hR h o 7 = some (o + 3) ∧ hR h o 8 = some (o + 4) ∧ hR h o 9 = some (o + 5) ∧ hR h o 10 = some (o + 6) ∧ hR h o 11 = some (o + 7) ∧ hR h o 14 = some (o + 8) ∧ hR h o 15 = some (o + 9)) ∧ hS h (o + 1) = some (.inr (4, 5)) ∧ hS h (o + 2) = some (.inr (0, 20)) ∧ (∀ i, 3 ≤ i → i ≤ 7 → hS h (o + i) = some (.inr (0, 4))) ∧ hS h (o + 8) = some (.inr (0, 5)) ∧ hS h (o + 9) = some (.inr (3, 5)) ∧ ∀ w, w < 5 → hR h (o + 1) w = some (o + 10 + w) ∧ hS h (o + 10 + w) = some (.inl 3)
def RepO (h : Hp) (o : Nat) (D : DD) : Prop := LayO h o ∧ (hI h o 0 = nI (dOil D) ∧ hI h o 1 = nI (dSl D) ∧ hI h o 2 = nI (dW D) ∧ hI h o 4 = nI (dF D) ∧ hI h o 6 = nI (dN D) ∧ hI h o 12 = xI (dSu D) ∧ hI h o 13 = nI (dSe D)) ∧
  (∀ w, w < dW D → hI h (o + 10 + w) 0 = nI (dK D w) ∧ hI h (o + 10 + w) 1 = nI (dT D w) ∧ hI h (o + 10 + w) 2 = nI (dB D w) ∧ hI h (o + 10 + w) 3 = nI (dA D w) ∧ hI h (o + 10 + w) 4 = nI (dGc D w) ∧ hL h (o + 10 + w) 5 = dG D w) ∧
  (∀ f w, f < dF D → w < 5 → hI h (o + 2) (5 * f + w) = xI (dX D f w)) ∧ (∀ k, k < dN D → hI h (o + 3) k = nI (dTk D k) ∧ hI h (o + 4) k = nI (dWo D k) ∧ hI h (o + 5) k = nI (dTi D k)) ∧
  (∀ f, f < dF D → hI h (o + 6) f = nI (dEv D f) ∧ (0 < dEv D f → hI h (o + 7) f = nI (dFr D f))) ∧ (∀ k, k < dSe D → hI h (o + 8) k = nI (dSd D k) ∧ hI h (o + 9) k = nI (dSj D k))
/-- a state: 0 day, 1 oil, 2 jerks, 3 and on the teeth on top; the class's row of it at r -/
def RepV (h : Hp) (r : Nat) (V : Nat → Nat) : Prop := hS h r = some (.inr (0, 8)) ∧ ∀ k, k < 8 → hI h r k = nI (V k)
def WfV (D : DD) (V : Nat → Nat) : Prop := V 0 < 2 ^ 30 ∧ V 1 ≤ 99 ∧ V 2 < 2 ^ 30 ∧ ∀ w, w < dW D → V (3 + w) < dT D w
def isOnB (D : DD) (V : Nat → Nat) (f : Nat) : Bool := decide (∀ w, w < dW D → dX D f w = 0 ∨ dX D f w = V (3 + w) + 1)
/-- nothing of an Orrery is among the cells S: it stays what it is -/
theorem RepO.fm {S : Nat → Prop} {h h' : Hp} {o : Nat} {D : DD} (R : RepO h o D) (F : Fm S h h') (hS' : ∀ i, i < 15 → ¬ S (o + i)) (hW : dW D ≤ 5) : RepO h' o D := by
  obtain ⟨⟨l1, l2, l3, l4, l5, l6, l7, l8⟩, r1, r2, r3, r4, r5, r6⟩ := R
  obtain ⟨f1, f2, f3, f4, f5⟩ := F
  have i0 : hI h' o = hI h o := (f5 o (hS' 0 (by decide))).1
  have ii : ∀ i, i < 15 → hI h' (o + i) = hI h (o + i) := fun i hi => (f5 _ (hS' i hi)).1
  have iL : ∀ i, i < 15 → hL h' (o + i) = hL h (o + i) := fun i hi => (f5 _ (hS' i hi)).2
  refine ⟨?_, ?_, fun w hw => ?_, fun f w hf hw => ?_, fun k hk => ?_, fun f hf => ?_, fun k hk => ?_⟩
  · unfold LayO
    rw [f2, f4]
    exact ⟨l1, l2, l3, l4, l5, l6, l7, l8⟩
  · rw [i0]
    exact r1
  · have e : o + 10 + w = o + (10 + w) := by omega
    rw [e, ii (10 + w) (by omega), iL (10 + w) (by omega), ← e]
    exact r2 w hw
  · rw [ii 2 (by decide)]
    exact r3 f w hf hw
  · rw [ii 3 (by decide), ii 4 (by decide), ii 5 (by decide)]
    exact r4 k hk
  · rw [ii 6 (by decide), ii 7 (by decide)]
    exact r5 f hf
  · rw [ii 8 (by decide), ii 9 (by decide)]
    exact r6 k hk
