/-! BOTH SIDES: what the class's and the reference's cells hold -/
def LayRd (h : Hp) (r : Nat) : Prop := hS h r = some (.inl 1) ∧ hR h r 13 = some (r + 1) ∧ hR h r 14 = some (r + 2) ∧ hR h r 15 = some (r + 3) ∧ hS h (r + 1) = some (.inr (1, 13)) ∧ hS h (r + 2) = some (.inr (0, 13)) ∧ hS h (r + 3) = some (.inr (0, 13))
def LayU (h : Hp) (u : Nat) : Prop := hS h u = some (.inl 6) ∧ hR h u 0 = some (u + 1) ∧ hR h u 1 = some (u + 2) ∧ hR h u 2 = some (u + 3) ∧ hS h (u + 1) = some (.inr (0, 60)) ∧ hS h (u + 2) = some (.inr (0, 60)) ∧ hS h (u + 3) = some (.inr (0, 61)) ∧ hI h (u + 3) 0 = 0
def LayC (h : Hp) (c : Nat) : Prop := hS h c = some (.inl 5) ∧ hR h c 0 = some (c + 1) ∧ hR h c 1 = some (c + 2) ∧ hR h c 2 = some (c + 3) ∧ hR h c 3 = some (c + 4) ∧ hR h c 4 = some (c + 5) ∧ hS h (c + 1) = some (.inr (5, 5)) ∧ hS h (c + 2) = some (.inl 3) ∧ hS h (c + 3) = some (.inr (0, 60)) ∧ hS h (c + 4) = some (.inr (0, 60)) ∧ hS h (c + 5) = some (.inr (0, 60)) ∧ ∀ w, w < 5 → hR h (c + 1) w = some (c + 6 + 4 * w) ∧ LayU h (c + 6 + 4 * w)
def LayK (h : Hp) (k : Nat) : Prop := hS h k = some (.inl 7) ∧ hR h k 0 = some (k + 1) ∧ hR h k 1 = some (k + 2) ∧ hR h k 2 = some (k + 3) ∧ hS h (k + 1) = some (.inr (0, 4)) ∧ hS h (k + 2) = some (.inr (0, 4)) ∧ hS h (k + 3) = some (.inr (0, 4))
def LayS (h : Hp) (s : Nat) : Prop := hS h s = some (.inl 8) ∧ hR h s 0 = some (s + 1) ∧ hR h s 1 = some (s + 2) ∧ hR h s 2 = some (s + 3) ∧ hR h s 3 = some (s + 4) ∧ hS h (s + 1) = some (.inl 3) ∧ hS h (s + 2) = some (.inr (1, 61)) ∧ hS h (s + 3) = some (.inr (1, 61)) ∧ hS h (s + 4) = some (.inr (0, 61))
def LayG (h : Hp) (g : Nat) : Prop := hS h g = some (.inl 9) ∧ hR h g 0 = some (g + 1) ∧ hS h (g + 1) = some (.inr (6, 7)) ∧ ∀ i, i < 7 → hR h (g + 1) i = some (g + 2 + i) ∧ hS h (g + 2 + i) = some (.inr (0, 8))
def LayH (h : Hp) (c : Nat) : Prop := hS h c = some (.inl 10) ∧ hS h (c + 1) = some (.inr (1, 60)) ∧ hS h (c + 2) = some (.inr (1, 60)) ∧ ((hR h c 0 = some (c + 1) ∧ hR h c 1 = some (c + 2)) ∨ (hR h c 0 = some (c + 2) ∧ hR h c 1 = some (c + 1)))
def LayX (h : Hp) (x : Nat) : Prop := hS h x = some (.inl 0) ∧ hR h x 0 = some (x + 1) ∧ hR h x 2 = some (x + 2) ∧ hR h x 5 = some (x + 36) ∧ hR h x 6 = some (x + 37) ∧ hR h x 8 = some (x + 38) ∧ hR h x 9 = some (x + 41) ∧ hR h x 10 = some (x + 67) ∧ hR h x 11 = some (x + 71) ∧ hR h x 12 = some (x + 76) ∧ hR h x 13 = some (x + 85) ∧ hS h (x + 1) = some (.inr (2, 900)) ∧ hS h (x + 37) = some (.inr (0, 8))
def LayB (h : Hp) (x : Nat) : Prop := LayX h x ∧ LayRd h (x + 2) ∧ LayC h (x + 41) ∧ LayK h (x + 67) ∧ LayS h (x + 71) ∧ LayG h (x + 76) ∧ LayH h (x + 85)
/-- what questions may write at the class -/
def sC (c a k : Nat) : Prop := (a = c ∧ 5 ≤ k) ∨ (c + 2 ≤ a ∧ a < c + 6) ∨ (c + 6 ≤ a ∧ a < c + 26 ∧ ((a - (c + 6)) % 4 = 0 → 3 ≤ k) ∧ ((a - (c + 6)) % 4 = 3 → 1 ≤ k))
def ScB (x a k : Nat) : Prop := (a = x ∧ (k = 7 ∨ k = 15)) ∨ a = x + 37 ∨ sC (x + 41) a k ∨ (a = x + 67 ∧ 3 ≤ k) ∨ (x + 68 ≤ a ∧ a ≤ x + 70) ∨ (a = x + 76 ∧ 1 ≤ k) ∨ (x + 78 ≤ a ∧ a ≤ x + 84) ∨ (a = x + 85 ∧ 2 ≤ k) ∨ a = x + 86 ∨ a = x + 87
def ScM (m a k : Nat) : Prop := (a = m ∧ (k ≤ 2 ∨ k = 21 ∨ k = 23 ∨ k = 27 ∨ k = 30 ∨ k = 31 ∨ k = 34 ∨ k = 35)) ∨ a = m + 3 ∨ (m + 6 ≤ a ∧ a ≤ m + 13)
section LY
variable {S : Nat → Nat → Prop} {h h' : Hp} {x : Nat}
theorem LayU.fr {u : Nat} (L : LayU h u) (F : Fr S h h') (hS' : ∀ k, k < 3 → ¬ S u k) (h0 : ¬ S (u + 3) 0) : LayU h' u := by
  obtain ⟨l1, l2, l3, l4, l5⟩ := L
  unfold LayU
  rw [F.2.1, (F.2.2.2 _ _ (hS' 0 (by decide))).2.2, (F.2.2.2 _ _ (hS' 1 (by decide))).2.2, (F.2.2.2 _ _ (hS' 2 (by decide))).2.2, (F.2.2.2 _ _ h0).1]
  exact ⟨l1, l2, l3, l4, l5⟩
theorem LayC.fr {c : Nat} (L : LayC h c) (F : Fr S h h') (hS' : ∀ a k, S a k → sC c a k ∨ a < c ∨ c + 26 ≤ a) : LayC h' c := by
  obtain ⟨l1, l2, l3, l4, l5, l6, l7, l8, l9, l10, l11, l12⟩ := L
  have n0 : ∀ k, k < 5 → hR h' c k = hR h c k := fun k hk => (F.2.2.2 _ _ (fun e => by
    rcases hS' _ _ e with g | g
    · unfold sC at g
      omega
    · omega)).2.2
  have n1 : ∀ k, hR h' (c + 1) k = hR h (c + 1) k := fun k => (F.2.2.2 _ _ (fun e => by
    rcases hS' _ _ e with g | g
    · unfold sC at g
      omega
    · omega)).2.2
  unfold LayC
  rw [F.2.1, n0 0 (by decide), n0 1 (by decide), n0 2 (by decide), n0 3 (by decide), n0 4 (by decide)]
  refine ⟨l1, l2, l3, l4, l5, l6, l7, l8, l9, l10, l11, fun w hw => ⟨by rw [n1]; exact (l12 w hw).1, (l12 w hw).2.fr F (fun k hk e => ?_) (fun e => ?_)⟩⟩
  · rcases hS' _ _ e with g | g
    · unfold sC at g
      omega
    · omega
  · rcases hS' _ _ e with g | g
    · unfold sC at g
      omega
    · omega
theorem LayB.fr (L : LayB h x) (F : Fr S h h') (hS' : ∀ a k, S a k → ScB x a k ∨ x + 88 ≤ a) : LayB h' x := by
  obtain ⟨⟨x1, x2, x3, x4, x5, x6, x7, x8, x9, x10, x11, x12, x13⟩, ⟨r1, r2, r3, r4, r5⟩, lC, ⟨k1, k2, k3, k4, k5⟩, ⟨s1, s2, s3, s4, s5, s6⟩, ⟨g1, g2, g3, g4⟩, c1, c2, c3, c4⟩ := L
  have no : ∀ a k, ¬ (ScB x a k ∨ x + 88 ≤ a) → hR h' a k = hR h a k := fun a k hn => (F.2.2.2 a k (fun e => hn (hS' a k e))).2.2
  have nx : ∀ k, k ≠ 7 → k ≠ 15 → hR h' x k = hR h x k := fun k h1 h2 => no x k (by unfold ScB sC; omega)
  have fS := F.2.1
  refine ⟨?_, ?_, lC.fr F (fun a k e => ?_), ?_, ?_, ?_, ?_⟩
  · unfold LayX
    rw [fS, nx 0 (by decide) (by decide), nx 2 (by decide) (by decide), nx 5 (by decide) (by decide), nx 6 (by decide) (by decide), nx 8 (by decide) (by decide), nx 9 (by decide) (by decide), nx 10 (by decide) (by decide), nx 11 (by decide) (by decide), nx 12 (by decide) (by decide), nx 13 (by decide) (by decide)]
    exact ⟨x1, x2, x3, x4, x5, x6, x7, x8, x9, x10, x11, x12, x13⟩
  · unfold LayRd
    rw [fS, no (x + 2) 13 (by unfold ScB sC; omega), no (x + 2) 14 (by unfold ScB sC; omega), no (x + 2) 15 (by unfold ScB sC; omega)]
    exact ⟨r1, r2, r3, r4, r5⟩
  · rcases hS' _ _ e with g | g
    · unfold ScB sC at g
      unfold sC
      omega
    · right
      omega
  · unfold LayK
    rw [fS, no (x + 67) 0 (by unfold ScB sC; omega), no (x + 67) 1 (by unfold ScB sC; omega), no (x + 67) 2 (by unfold ScB sC; omega)]
    exact ⟨k1, k2, k3, k4, k5⟩
  · unfold LayS
    rw [fS, no (x + 71) 0 (by unfold ScB sC; omega), no (x + 71) 1 (by unfold ScB sC; omega), no (x + 71) 2 (by unfold ScB sC; omega), no (x + 71) 3 (by unfold ScB sC; omega)]
    exact ⟨s1, s2, s3, s4, s5, s6⟩
  · unfold LayG
    rw [fS, no (x + 76) 0 (by unfold ScB sC; omega)]
    exact ⟨g1, g2, g3, fun i hi => ⟨by rw [no (x + 76 + 1) i (by unfold ScB sC; omega)]; exact (g4 i hi).1, (g4 i hi).2⟩⟩
  · unfold LayH
    rw [fS, no (x + 85) 0 (by unfold ScB sC; omega), no (x + 85) 1 (by unfold ScB sC; omega)]
    exact ⟨c1, c2, c3, c4⟩
end LY
/-! the suspicion: what both sides compute of it -/
def cntN (P : Nat → Bool) : Nat → Nat
  | 0 => 0
  | n + 1 => cntN P n + if P n = true then 1 else 0
def suW (D : DD) : Nat := dSu D - 1
def suG (D : DD) (t : Nat) : Int64 := if t < dT D (suW D) then (1 : Int64) <<< ((nI t).toInt64 &&& 63) else 0
/-- the tooth on top behind day d, if tooth t is gone -/
def suT (D : DD) (t : Nat) : Nat → Nat
  | 0 => dA D (suW D)
  | d + 1 => if gon (dK D (suW D)) d (dOil D - d) = true then rs (dT D (suW D)) (suG D t) (dfw D (suW D)) 2 (nx (dT D (suW D)) (dfw D (suW D)) (dB D (suW D)) (suT D t d)) else suT D t d
/-- it jerks on day d -/
def suJ (D : DD) (t d : Nat) : Bool := gon (dK D (suW D)) (d - 1) (dOil D - (d - 1)) && gb (suG D t) (nx (dT D (suW D)) (dfw D (suW D)) (dB D (suW D)) (suT D t (d - 1)))
def suF (D : DD) (t : Nat) : Bool := decide (∀ k, k < dSe D → suJ D t (dSd D k) = decide (dSj D k = 1))
def suC (D : DD) (n : Nat) : Nat := cntN (suF D) n
def suN (D : DD) : Nat := suC D (dT D (suW D) + 1)
def suM (D : DD) (d : Nat) : Nat := max (cntN (fun t => suF D t && suJ D t d) (dT D (suW D) + 1)) (suN D - cntN (fun t => suF D t && suJ D t d) (dT D (suW D) + 1))
/-- the best day so far (0: none) and what it leaves -/
def suL (D : DD) : Nat → Nat × Nat
  | 0 => (0, 0)
  | d + 1 => if suN D = 0 then (0, 0) else if (suL D d).1 = 0 ∨ suM D (d + 1) < (suL D d).2 then (d + 1, suM D (d + 1)) else suL D d
def suA (p : Nat × Nat) (v : Nat) : Int32 := if p.1 = 0 then -2 else nI v
def suB (h : Hp) (s t d : Nat) : Bool := if d < 50 then gb (hL h (s + 2) t) d else gb (hL h (s + 3) t) (d - 50)
def SusK (h : Hp) (s : Nat) (D : DD) : Prop := 0 < dSu D ∧ hI h s 7 = 1 ∧ (∀ t d, t ≤ dT D (suW D) → 1 ≤ d → d ≤ 99 → suB h s t d = suJ D t d) ∧ hI h s 4 = nI (suN D) ∧ (∀ t, t ≤ dT D (suW D) → suF D t = true → hI h (s + 4) (suC D t) = nI t) ∧ hI h s 5 = suA (suL D 99) (suL D 99).1 ∧ hI h s 6 = suA (suL D 99) (suL D 99).2
def Sus (h : Hp) (s : Nat) (D : DD) : Prop := hI h s 7 = 0 ∨ SusK h s D
theorem Sus.fr {S : Nat → Nat → Prop} {h h' : Hp} {s : Nat} {D : DD} (P : Sus h s D) (F : Fr S h h') (hS' : ∀ i k, i < 5 → ¬ S (s + i) k) : Sus h' s D := by
  have i0 : ∀ k, hI h' s k = hI h s k := fun k => (F.2.2.2 s k (hS' 0 k (by decide))).1
  have i4 : ∀ k, hI h' (s + 4) k = hI h (s + 4) k := fun k => (F.2.2.2 _ k (hS' 4 k (by decide))).1
  have l2 : ∀ k, hL h' (s + 2) k = hL h (s + 2) k := fun k => (F.2.2.2 _ k (hS' 2 k (by decide))).2.1
  have l3 : ∀ k, hL h' (s + 3) k = hL h (s + 3) k := fun k => (F.2.2.2 _ k (hS' 3 k (by decide))).2.1
  unfold Sus SusK suB at *
  simp only [i0, i4, l2, l3]
  exact P
/-! the class's and the reference's state -/
def RB (h : Hp) (x : Nat) (D : DD) (V : Nat → Nat) (K : Nat → Nat → Nat) (c : Nat) (Im : Nat → Nat → Nat) (j : Nat) (T : Nat → Int32) (tl : Nat) (fa : Int32) : Prop := ∃ o o', ((o = x + 6 ∧ o' = x + 21) ∨ (o = x + 21 ∧ o' = x + 6)) ∧ LayB h x ∧ hR h x 3 = some o ∧ hR h x 4 = some o' ∧ RepO h o D ∧ LayO h o' ∧ RepV h (x + 36) V ∧ RepP h (x + 38) K c Im j ∧ hI h x 1 = nI tl ∧ (∀ p, p < tl → hI h (x + 1) p = T p) ∧ hI h x 14 = fa ∧ Sus h (x + 71) D
def RM (h : Hp) (m : Nat) (D : DD) (V : Nat → Nat) (K : Nat → Nat → Nat) (c : Nat) (Im : Nat → Nat → Nat) (j : Nat) (T : Nat → Int32) (tl : Nat) (fa : Int32) : Prop := LayM h m ∧ (dW D = 0 → hR h m 3 = none) ∧ (0 < dW D → ∃ q, hR h m 3 = some q ∧ m + 15 ≤ q ∧ q + 18 ≤ hN h ∧ RepQ h q D) ∧ RepX h (m + 2) V ∧ RepR h m K c Im j ∧ hI h m 6 = nI tl ∧ (∀ p, p < tl → hI h (m + 1) p = T p) ∧ hI h m 12 = fa
def TrB (h : Hp) (x : Nat) (tr wh : Int32) : Prop := hI h x 15 = tr ∧ (tr = 4 → hI h (x + 2) 5 = wh) ∧ (tr ≠ 4 → wh = -1)
def TrM (h : Hp) (m : Nat) (tr wh : Int32) : Prop := hI h m 1 = tr ∧ hI h m 2 = wh
/-- what is so of all that both hold -/
def WfX (D : DD) : Prop := Wf D ∧ (0 < dSu D → dG D (suW D) = 0) ∧ ∀ w, w < dW D → dGc D w = cntN (gb (dG D w)) (dT D w)
def WfG (D : DD) (V : Nat → Nat) (nc : Nat) : Prop := V 0 ≤ 999999 ∧ V 1 ≤ 99 ∧ V 2 ≤ 5 * nc ∧ ∀ w, w < dW D → V (3 + w) < dT D w
def Wst (D : DD) (V : Nat → Nat) (K : Nat → Nat → Nat) (c : Nat) (Im : Nat → Nat → Nat) (j : Nat) (tl nc : Nat) : Prop := WfX D ∧ WfG D V nc ∧ (∀ i, i < c → WfG D (K i) nc) ∧ (∀ i, i < j → WfG D (Im i) nc) ∧ tl ≤ 900 ∧ nc ≤ 512 ∧ (dW D = 0 → dF D = 0 ∧ dN D = 0 ∧ dSl D = 0 ∧ dSu D = 0 ∧ dSe D = 0 ∧ c = 0 ∧ j = 0)
section RL
variable {S : Nat → Nat → Prop} {h h' : Hp} {x m c j tl nc : Nat} {D : DD} {V : Nat → Nat} {K Im : Nat → Nat → Nat} {T : Nat → Int32} {fa : Int32}
theorem WfG.n (g : WfG D V nc) (hn : nc ≤ 512) {n : Nat} (hn2 : n ≤ 6000) : WfN D V n := by
  obtain ⟨g0, g1, g2, g3⟩ := g
  exact ⟨by omega, g1, by omega, g3⟩
theorem WfG.v (g : WfG D V nc) (hn : nc ≤ 512) : WfV D V := (g.n hn (n := 0) (by decide)).wf
theorem WfG.up (g : WfG D V nc) {n2 : Nat} (hn : nc ≤ n2) : WfG D V n2 := ⟨g.1, g.2.1, by have := g.2.2.1; omega, g.2.2.2⟩
theorem RB.fr (R : RB h x D V K c Im j T tl fa) (W : Wf D) (F : Fr S h h') (hS' : ∀ a k, S a k → ScB x a k ∨ x + 88 ≤ a) : RB h' x D V K c Im j T tl fa := by
  obtain ⟨o, o', ho, L, r3, r4, rO, rD, rV, rP, t1, t2, f1, sU⟩ := R
  have no : ∀ a k, ¬ (ScB x a k ∨ x + 88 ≤ a) → ¬ S a k := fun a k hn e => hn (hS' a k e)
  refine ⟨o, o', ho, L.fr F hS', ?_, ?_, rO.fr F (fun i k hi => no _ _ ?_) W.1, rD.fr F (fun i k hi => no _ _ ?_), rV.fr F (fun k => no _ _ ?_), rP.fr F (fun i k hi => no _ _ ?_), ?_, fun p hp => ?_, ?_, sU.fr F (fun i k hi => no _ _ ?_)⟩
  · rw [(F.2.2.2 x 3 (no _ _ (by unfold ScB sC; omega))).2.2]
    exact r3
  · rw [(F.2.2.2 x 4 (no _ _ (by unfold ScB sC; omega))).2.2]
    exact r4
  · unfold ScB sC
    omega
  · unfold ScB sC
    omega
  · unfold ScB sC
    omega
  · unfold ScB sC
    omega
  · rw [(F.2.2.2 x 1 (no _ _ (by unfold ScB sC; omega))).1]
    exact t1
  · rw [(F.2.2.2 (x + 1) p (no _ _ (by unfold ScB sC; omega))).1]
    exact t2 p hp
  · rw [(F.2.2.2 x 14 (no _ _ (by unfold ScB sC; omega))).1]
    exact f1
  · unfold ScB sC
    omega
theorem RM.fr (R : RM h m D V K c Im j T tl fa) (F : Fr S h h') (hS' : ∀ a k, S a k → ScM m a k ∨ a < m ∨ a = m + 14) : RM h' m D V K c Im j T tl fa := by
  obtain ⟨L, r0, r3, rX, rR, t1, t2, f1⟩ := R
  have no : ∀ a k, ¬ (ScM m a k ∨ a < m ∨ a = m + 14) → ¬ S a k := fun a k hn e => hn (hS' a k e)
  refine ⟨L.fr F (fun k hk => no _ _ ?_), fun hz => ?_, fun hz => ?_, rX.fr F (fun k => no _ _ ?_), rR.fr F (no _ _ ?_) (no _ _ ?_) (fun k => no _ _ ?_) (fun k => no _ _ ?_), ?_, fun p hp => ?_, ?_⟩
  · unfold mRf at hk
    unfold ScM
    omega
  · rw [(F.2.2.2 m 3 (no _ _ (by unfold ScM; omega))).2.2]
    exact r0 hz
  · obtain ⟨q, q1, q2, q3, q4⟩ := r3 hz
    refine ⟨q, ?_, q2, by rw [F.1]; exact q3, q4.fr F (fun i k hi => no _ _ ?_)⟩
    · rw [(F.2.2.2 m 3 (no _ _ (by unfold ScM; omega))).2.2]
      exact q1
    · unfold ScM
      omega
  · unfold ScM
    omega
  · unfold ScM
    omega
  · unfold ScM
    omega
  · unfold ScM
    omega
  · unfold ScM
    omega
  · rw [(F.2.2.2 m 6 (no _ _ (by unfold ScM; omega))).1]
    exact t1
  · rw [(F.2.2.2 (m + 1) p (no _ _ (by unfold ScM; omega))).1]
    exact t2 p hp
  · rw [(F.2.2.2 m 12 (no _ _ (by unfold ScM; omega))).1]
    exact f1
end RL
/-! answers -/
def QB {α : Type} (x : Nat) (h : Hp) (F : Option (α × Hp)) (r : α) (t : Int32) : Prop := Ok F (fun r' h' => r' = r ∧ Fr (ScB x) h h' ∧ hI h' x 15 = t)
def QM {α : Type} (m : Nat) (h : Hp) (F : Option (α × Hp)) (r : α) (t : Int32) : Prop := Ok F (fun r' h' => r' = r ∧ Fr (ScM m) h h' ∧ hI h' m 1 = t ∧ hI h' m 2 = -1)
theorem ScB_15 {x : Nat} : ScB x x 15 := Or.inl ⟨rfl, Or.inr rfl⟩
theorem ScM_l {m k : Nat} (h : k ≤ 2) : ScM m m k := Or.inl ⟨rfl, Or.inl h⟩
section AN
variable {h h1 : Hp} {x m : Nat} {v : Int32}
theorem e_B_refuse (hs : hS h x = some (.inl 0)) : f_B_refuse x v h = some (-1, uI h x 15 v) := by
  unfold f_B_refuse
  rw [gd_pos hs]
  rfl
theorem e_B_grant (hs : hS h x = some (.inl 0)) : f_B_grant x v h = some (v, uI h x 15 0) := by
  unfold f_B_grant
  rw [gd_pos hs]
  rfl
theorem e_B_deny (hs : hS h x = some (.inl 0)) : f_B_deny x v h = some (0, uI h x 15 v) := by
  unfold f_B_deny
  rw [gd_pos hs]
  show gd (zb 0) _ = _
  rw [gd_pos zb0]
theorem e_B_allow (hs : hS h x = some (.inl 0)) : f_B_allow x h = some (1, uI h x 15 0) := by
  unfold f_B_allow
  rw [gd_pos hs]
  show gd (zb 1) _ = _
  rw [gd_pos zb1]
theorem e_m_refused (hs : hS h m = some (.inl 11)) : f_m_refused m v h = some (-1, uI (uI h m 1 v) m 2 (-1)) := by
  unfold f_m_refused
  rw [gd_pos hs]
  show gd (hS h m = _) _ = _
  rw [gd_pos hs]
  rfl
theorem e_m_good (hs : hS h m = some (.inl 11)) : f_m_good m v h = some (v, uI (uI h m 1 0) m 2 (-1)) := by
  unfold f_m_good
  rw [gd_pos hs]
  show gd (hS h m = _) _ = _
  rw [gd_pos hs]
  rfl
theorem e_m_denied (hs : hS h m = some (.inl 11)) : f_m_denied m v h = some (0, uI (uI h m 1 v) m 2 (-1)) := by
  unfold f_m_denied
  rw [gd_pos hs, e_m_refused hs]
  show gd (zb 0) _ = _
  rw [gd_pos zb0]
theorem e_m_granted (hs : hS h m = some (.inl 11)) : f_m_granted m h = some (1, uI (uI h m 1 0) m 2 (-1)) := by
  unfold f_m_granted
  rw [gd_pos hs, e_m_good hs]
  show gd (zb 1) _ = _
  rw [gd_pos zb1]
/-- the class says no, or answers -/
theorem qB_ref (F : Fr (ScB x) h h1) (hs : hS h1 x = some (.inl 0)) : QB x h (gd (hS h1 x = some (.inl 0)) (bd (f_B_refuse x v h1) fun r h2 => some (r, h2))) (-1) v := by
  refine ok_gd hs (ok_bde (e_B_refuse hs) (ok_ret ⟨rfl, F.trans (fr_uI ScB_15), hI_uIs⟩))
theorem qB_gr (F : Fr (ScB x) h h1) (hs : hS h1 x = some (.inl 0)) : QB x h (gd (hS h1 x = some (.inl 0)) (bd (f_B_grant x v h1) fun r h2 => some (r, h2))) v 0 := by
  refine ok_gd hs (ok_bde (e_B_grant hs) (ok_ret ⟨rfl, F.trans (fr_uI ScB_15), hI_uIs⟩))
theorem qM_fin (F : Fr (ScM m) h h1) {t : Int32} : Fr (ScM m) h (uI (uI h1 m 1 t) m 2 (-1)) ∧ hI (uI (uI h1 m 1 t) m 2 (-1)) m 1 = t ∧ hI (uI (uI h1 m 1 t) m 2 (-1)) m 2 = -1 :=
  ⟨(F.trans (fr_uI (ScM_l (by decide)))).trans (fr_uI (ScM_l (by decide))), by rw [hI_uIk (by decide), hI_uIs], hI_uIs⟩
theorem qM_ref (F : Fr (ScM m) h h1) (hs : hS h1 m = some (.inl 11)) : QM m h (gd (hS h1 m = some (.inl 11)) (bd (f_m_refused m v h1) fun r h2 => some (r, h2))) (-1) v :=
  ok_gd hs (ok_bde (e_m_refused hs) (ok_ret ⟨rfl, qM_fin F⟩))
theorem qM_gr (F : Fr (ScM m) h h1) (hs : hS h1 m = some (.inl 11)) : QM m h (gd (hS h1 m = some (.inl 11)) (bd (f_m_good m v h1) fun r h2 => some (r, h2))) v 0 :=
  ok_gd hs (ok_bde (e_m_good hs) (ok_ret ⟨rfl, qM_fin F⟩))
end AN
/-! a number that a script gives -/
def isN (N : Nat) (v : Int32) : Bool := decide (0 ≤ v ∧ v < nI N)
theorem isN_of {N j : Nat} (hj : j < N) (hN : N < 2 ^ 31) : isN N (nI j) = true := decide_eq_true ⟨nI_pos' (by omega), nI_lt hj hN⟩
theorem isN_ex {N : Nat} {v : Int32} (hN : N < 2 ^ 31) (e : isN N v = true) : ∃ j, j < N ∧ v = nI j := by
  have g := of_decide_eq_true e
  rcases pk_ix v hN with q | q | q
  · exact absurd g.1 (Int32.not_le.mpr q)
  · exact absurd g.2 (Int32.not_lt.mpr q)
  · exact q
theorem isN_neg {N : Nat} {v : Int32} (h : v < 0) : isN N v = false := decide_eq_false (fun g => absurd g.1 (Int32.not_le.mpr h))
theorem isN_big {N : Nat} {v : Int32} (h : nI N ≤ v) : isN N v = false := decide_eq_false (fun g => absurd g.2 (Int32.not_lt.mpr h))
/-- a test of an index, as the class and the reference print it -/
theorem ok_ixN {α : Type} {A B C : Option (α × Hp)} {Q : α → Hp → Prop} {N : Nat} {v : Int32} (hN : N < 2 ^ 31) (t : isN N v = false → Ok A Q) (e : ∀ j, j < N → v = nI j → Ok B Q) (hA : A = C) : Ok (if v < 0 then A else if nI N ≤ v then C else B) Q := by
  subst hA
  rcases pk_ix v hN with q | q | ⟨j, hj, q⟩
  · rw [if_pos q]
    exact t (isN_neg q)
  · by_cases q2 : v < 0
    · rw [if_pos q2]
      exact t (isN_neg q2)
    · rw [if_neg q2, if_pos q]
      exact t (isN_big q)
  · rw [q, if_neg (nI_pos (by omega)), if_neg (fun g => by have := (nI_leI hN (by omega)).mp g; omega)]
    exact e j hj q
theorem ix_le (v : Int32) {n : Nat} (hn : n + 1 < 2 ^ 31) : v < 0 ∨ nI n < v ∨ ∃ j, j ≤ n ∧ v = nI j := by
  rcases pk_ix v hn with q | q | ⟨j, hj, q⟩
  · exact Or.inl q
  · exact Or.inr (Or.inl (Int32.lt_of_lt_of_le (nI_lt (by omega) hn) q))
  · exact Or.inr (Or.inr ⟨j, by omega, q⟩)
theorem e_m_in {h : Hp} {v a b : Int32} : f_m_in v a b h = some (bI (decide (a ≤ v ∧ v ≤ b)), h) := by
  unfold f_m_in
  rw [gd_pos zb0, gd_pos zb1]
  by_cases q : v < a
  · rw [if_pos q, decide_eq_false (fun g => absurd g.1 (Int32.not_le.mpr q))]
    rfl
  · rw [if_neg q]
    by_cases q2 : b < v
    · rw [if_pos q2, decide_eq_false (fun g => absurd g.2 (Int32.not_le.mpr q2))]
      rfl
    · rw [if_neg q2, decide_eq_true ⟨Int32.not_lt.mp q, Int32.not_lt.mp q2⟩]
      rfl
